set_option maxHeartbeats 8000000 in
set_option maxRecDepth 100000 in
theorem law_reset {p : Program} {l : Launch} {e : Env} {s : State} {m : MethodId} {below : List Frame} {meth : Method} {c : Code} {Q : State → Prop} {E : Ev} {b L : Nat} {xs : Nat → Int32} (C : LC p l s m c E b L xs) {nx n i : Nat} (hn0 : 0 < nx) (hnx : nx ≤ 65536) (hc : n < 512) (hi : i + 2 < L) {st : XS} {mt : MS} (h9 : XN nx n st mt) (fo : Nat → Int64) (x es eo ec ds dw dc h a1 a2 a3 he hd ak o mo mc sv sa wr bt s1 s2 s3 : Nat) {H : Heap} {locs : List Loc} {cells slots : Nat} (hf : cells + 1 ≤ room_1.cells ∧ slots + 6 ≤ room_1.slots) (hP : va_P E.1 classes ((wX E x es eo ec ds dw dc h a1 a2 a3 he hd ak nx st ++ [wO E o fo]) ++ wM E mo mc sv sa wr bt s1 s2 s3 nx mt) H) (hD : va_D (fun q : Nat => s.heap.size ≤ q) ((wX E x es eo ec ds dw dc h a1 a2 a3 he hd ak nx st ++ [wO E o fo]) ++ wM E mo mc sv sa wr bt s1 s2 s3 nx mt)) (hS : va_S (fun q : Nat => s.heap.size ≤ q) s.heap H locs) {ls : Array Slot} (hl : lv_has ls 7 [(0, .ref b), (1, .ref x), (2, .ref mo), (3, .ref o), (4, .int (nI i))])
    (kk : ∀ (st' : XS) (mt' : MS) (fo' : Nat → Int64) (H' : Heap) (locs' : List Loc) (ls' : Array Slot), XN nx (n + 1) st' mt' → va_P E.1 classes ((wX E x es eo ec ds dw dc h a1 a2 a3 he hd ak nx st' ++ [wO E o fo']) ++ wM E mo mc sv sa wr bt s1 s2 s3 nx mt') H' → va_D (fun q : Nat => s.heap.size ≤ q) ((wX E x es eo ec ds dw dc h a1 a2 a3 he hd ak nx st' ++ [wO E o fo']) ++ wM E mo mc sv sa wr bt s1 s2 s3 nx mt') → va_S (fun q : Nat => s.heap.size ≤ q) s.heap H' locs' → lv_has ls' 7 [(0, .ref b), (1, .ref x), (2, .ref mo), (3, .ref o), (4, .int (nI i))] → W p l e room_1 s m #[Value.ref b] below meth c H' locs' (cells + 1) (slots + 6) Q (F0 m 729 ls' [])) :
    W p l e room_1 s m #[Value.ref b] below meth c H locs cells slots Q (F0 m 718 ls []) := by
  obtain ⟨hx, hb, hml, hown, hts, hX, hbl, hZ, hK, hlt, hL⟩ := C
  have hA : ∀ q : Nat, s.heap.size ≤ q → (fun q : Nat => s.heap.size ≤ q) q := fun _ h => h
  have hbA : ¬ (fun q : Nat => s.heap.size ≤ q) b := Nat.not_le.mpr hbl
  have v1 : vp_in (nI i + 1) L := by rw [nI_1]; exact vp_in_nI (by omega) hL
  have v2 : vp_in (nI i + 2) L := by rw [show nI i + 2 = nI (i + 2) from nI_add i 2]; exact vp_in_nI (by omega) hL
  have hf0 : cells + 0 ≤ room_1.cells ∧ slots + 0 ≤ room_1.slots := ⟨by have := hf.1; omega, by have := hf.2; omega⟩
  obtain ⟨kx, km, e2, hN⟩ := reset_op hnx h9
  refine lv_aload_n hx hb d_La_law_718 rfl (lv_at hl 1 rfl) ?_
  refine ar_usev (wr := [wO E o fo] ++ wM E mo mc sv sa wr bt s1 s2 s3 nx mt) hP hD hS hA [0, 1, 2, 3, 4, 5, 6, 7, 8, 9, 10, 11, 12, 13] [14, 15, 16, 17, 18, 19, 20, 21, 22, 23] rfl rfl rfl (by decide) (ar_runV (n := 0) (As := []) (rest := []) (ci := 4) (q0 := 0) hx hb hml hown hts hP hD hS hA hK hZ (c_X_reset l E _ x es eo ec ds dw dc h a1 a2 a3 he hd ak nx st kx) m_276 m_277 m_278 m_1 m_279 (by decide +kernel) ⟨Nat.le_of_ble_eq_true rfl, Nat.le_of_ble_eq_true rfl⟩ [0, 1, 2, 3, 4, 5, 6, 7, 8, 9, 10, 11, 12, 13] rfl rfl rfl rfl rfl rfl rfl hl.1 rfl (Nat.le_of_ble_eq_true rfl) d_La_law_719 hf0) (fun u Hn locsn hw hPn hDn hSn => ?_)
  clear hP hD hS
  have hP : va_P E.1 classes (([wO E o fo] ++ wM E mo mc sv sa wr bt s1 s2 s3 nx mt) ++ wX E x es eo ec ds dw dc h a1 a2 a3 he hd ak nx u) Hn := hPn
  have hD : va_D (fun q : Nat => s.heap.size ≤ q) (([wO E o fo] ++ wM E mo mc sv sa wr bt s1 s2 s3 nx mt) ++ wX E x es eo ec ds dw dc h a1 a2 a3 he hd ak nx u) := hDn
  have hS := hSn
  clear hPn hDn hSn
  refine lv_aload_n hx hb d_La_law_722 rfl (lv_at hl 2 rfl) ?_
  refine ar_usev (wr := wX E x es eo ec ds dw dc h a1 a2 a3 he hd ak nx u ++ [wO E o fo]) hP hD hS hA [1, 2, 3, 4, 5, 6, 7, 8, 9] [10, 11, 12, 13, 14, 15, 16, 17, 18, 19, 20, 21, 22, 23, 0] rfl rfl rfl (by decide) (ar_runV (n := 0) (As := []) (rest := []) (ci := 5) (q0 := 0) hx hb hml hown hts hP hD hS hA hK hZ (c_M_reset l E _ mo mc sv sa wr bt s1 s2 s3 nx mt  km) m_853 m_854 m_855 m_7 m_856 (by decide +kernel) ⟨Nat.le_of_ble_eq_true rfl, Nat.le_of_ble_eq_true rfl⟩ [1, 2, 3, 4, 5, 6, 7, 8, 9] rfl rfl rfl rfl rfl rfl rfl hl.1 rfl (Nat.le_of_ble_eq_true rfl) d_La_law_723 hf0) (fun u6 Hn locsn hw6 hPn hDn hSn => ?_)
  clear hP hD hS
  have hP : va_P E.1 classes ((wX E x es eo ec ds dw dc h a1 a2 a3 he hd ak nx u ++ [wO E o fo]) ++ wM E mo mc sv sa wr bt s1 s2 s3 nx u6) Hn := hPn
  have hD : va_D (fun q : Nat => s.heap.size ≤ q) ((wX E x es eo ec ds dw dc h a1 a2 a3 he hd ak nx u ++ [wO E o fo]) ++ wM E mo mc sv sa wr bt s1 s2 s3 nx u6) := hDn
  have hS := hSn
  clear hPn hDn hSn
  refine lv_goto (tgt := 729) hx hb d_La_law_726 (by decide) ?_
  refine W.widen (k := cells + 1) (n := slots + 6) (by omega) (by omega) ?_
  exact kk u u6 fo _ _ _ (by rw [hw, hw6]; exact hN) hP hD hS (lv_sub hl [0, 1, 2, 3, 4] rfl)
