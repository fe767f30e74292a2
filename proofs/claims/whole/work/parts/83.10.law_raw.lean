set_option maxHeartbeats 8000000 in
set_option maxRecDepth 100000 in
theorem law_raw {p : Program} {l : Launch} {e : Env} {s : State} {m : MethodId} {below : List Frame} {meth : Method} {c : Code} {Q : State → Prop} {E : Ev} {b L : Nat} {xs : Nat → Int32} (C : LC p l s m c E b L xs) {nx n i : Nat} (hn0 : 0 < nx) (hnx : nx ≤ 65536) (hc : n < 512) (hi : i + 2 < L) {st : XS} {mt : MS} (h9 : XN nx n st mt) (fo : Nat → Int64) (x es eo ec ds dw dc h a1 a2 a3 he hd ak o mo mc sv sa wr bt s1 s2 s3 : Nat) {H : Heap} {locs : List Loc} {cells slots : Nat} (hf : cells + 1 ≤ room_1.cells ∧ slots + 6 ≤ room_1.slots) (hP : va_P E.1 classes ((wX E x es eo ec ds dw dc h a1 a2 a3 he hd ak nx st ++ [wO E o fo]) ++ wM E mo mc sv sa wr bt s1 s2 s3 nx mt) H) (hD : va_D (fun q : Nat => s.heap.size ≤ q) ((wX E x es eo ec ds dw dc h a1 a2 a3 he hd ak nx st ++ [wO E o fo]) ++ wM E mo mc sv sa wr bt s1 s2 s3 nx mt)) (hS : va_S (fun q : Nat => s.heap.size ≤ q) s.heap H locs) {ls : Array Slot} (hl : lv_has ls 7 [(0, .ref b), (1, .ref x), (2, .ref mo), (3, .ref o), (4, .int (nI i))])
    (kk : ∀ (st' : XS) (mt' : MS) (fo' : Nat → Int64) (H' : Heap) (locs' : List Loc) (ls' : Array Slot), XN nx (n + 1) st' mt' → va_P E.1 classes ((wX E x es eo ec ds dw dc h a1 a2 a3 he hd ak nx st' ++ [wO E o fo']) ++ wM E mo mc sv sa wr bt s1 s2 s3 nx mt') H' → va_D (fun q : Nat => s.heap.size ≤ q) ((wX E x es eo ec ds dw dc h a1 a2 a3 he hd ak nx st' ++ [wO E o fo']) ++ wM E mo mc sv sa wr bt s1 s2 s3 nx mt') → va_S (fun q : Nat => s.heap.size ≤ q) s.heap H' locs' → lv_has ls' 7 [(0, .ref b), (1, .ref x), (2, .ref mo), (3, .ref o), (4, .int (nI i))] → W p l e room_1 s m #[Value.ref b] below meth c H' locs' (cells + 1) (slots + 6) Q (F0 m 729 ls' [])) :
    W p l e room_1 s m #[Value.ref b] below meth c H locs cells slots Q (F0 m 664 ls []) := by
  obtain ⟨hx, hb, hml, hown, hts, hX, hbl, hZ, hK, hlt, hL⟩ := C
  have hA : ∀ q : Nat, s.heap.size ≤ q → (fun q : Nat => s.heap.size ≤ q) q := fun _ h => h
  have hbA : ¬ (fun q : Nat => s.heap.size ≤ q) b := Nat.not_le.mpr hbl
  have v1 : vp_in (nI i + 1) L := by rw [nI_1]; exact vp_in_nI (by omega) hL
  have v2 : vp_in (nI i + 2) L := by rw [show nI i + 2 = nI (i + 2) from nI_add i 2]; exact vp_in_nI (by omega) hL
  have hf0 : cells + 0 ≤ room_1.cells ∧ slots + 0 ≤ room_1.slots := ⟨by have := hf.1; omega, by have := hf.2; omega⟩
  refine lv_aload_n hx hb d_La_law_664 rfl (lv_at hl 1 rfl) ?_
  refine lv_aload_n hx hb d_La_law_665 rfl (lv_at hl 0 rfl) ?_
  refine lv_iload hx hb d_La_law_666 (lv_at hl 4 rfl) ?_
  refine lv_iconst (v := 1) hx hb d_La_law_668 (by decide) ?_
  refine lv_iadd hx hb d_La_law_669 ?_
  refine va_sld hx hb hX hbl hbA hS v1 d_La_law_670 ?_
  refine lv_if_eq (tgt := 678) hx hb d_La_law_671 (by decide) (fun c3 => ?_) (fun c3 => ?_)
  · obtain ⟨kx, km, e1, e2, hN⟩ := raw_op hc h9 false
    refine lv_iconst (v := 0) hx hb d_La_law_678 (by decide) ?_
    refine ar_usei (wr := [wO E o fo] ++ wM E mo mc sv sa wr bt s1 s2 s3 nx mt) hP hD hS hA [0, 1, 2, 3, 4, 5, 6, 7, 8, 9, 10, 11, 12, 13] [14, 15, 16, 17, 18, 19, 20, 21, 22, 23] rfl rfl rfl (by decide) (ar_runV (n := 1) (As := [.int (bI false)]) (rest := []) (ci := 4) (q0 := 0) hx hb hml hown hts hP hD hS hA hK hZ (c_X_raw l E _ x es eo ec ds dw dc h a1 a2 a3 he hd ak nx st false kx) m_193 m_194 m_195 m_1 m_196 (by decide +kernel) ⟨Nat.le_of_ble_eq_true rfl, Nat.le_of_ble_eq_true rfl⟩ [0, 1, 2, 3, 4, 5, 6, 7, 8, 9, 10, 11, 12, 13] rfl rfl rfl rfl rfl rfl rfl hl.1 rfl (Nat.le_of_ble_eq_true rfl) d_La_law_679 hf0) (fun r u Hn locsn hw hPn hDn hSn => ?_)
    clear hP hD hS
    have hP : va_P E.1 classes (([wO E o fo] ++ wM E mo mc sv sa wr bt s1 s2 s3 nx mt) ++ wX E x es eo ec ds dw dc h a1 a2 a3 he hd ak nx u) Hn := hPn
    have hD : va_D (fun q : Nat => s.heap.size ≤ q) (([wO E o fo] ++ wM E mo mc sv sa wr bt s1 s2 s3 nx mt) ++ wX E x es eo ec ds dw dc h a1 a2 a3 he hd ak nx u) := hDn
    have hS := hSn
    clear hPn hDn hSn
    refine lv_aload_n hx hb d_La_law_682 rfl (lv_at hl 2 rfl) ?_
    refine lv_aload_n hx hb d_La_law_683 rfl (lv_at hl 0 rfl) ?_
    refine lv_iload hx hb d_La_law_684 (lv_at hl 4 rfl) ?_
    refine lv_iconst (v := 1) hx hb d_La_law_686 (by decide) ?_
    refine lv_iadd hx hb d_La_law_687 ?_
    refine va_sld hx hb hX hbl hbA hS v1 d_La_law_688 ?_
    refine lv_if_eq (tgt := 696) hx hb d_La_law_689 (by decide) (fun c5 => ?_) (fun c5 => absurd c3 c5)
    refine lv_iconst (v := 0) hx hb d_La_law_696 (by decide) ?_
    refine ar_usei (wr := wX E x es eo ec ds dw dc h a1 a2 a3 he hd ak nx u ++ [wO E o fo]) hP hD hS hA [1, 2, 3, 4, 5, 6, 7, 8, 9] [10, 11, 12, 13, 14, 15, 16, 17, 18, 19, 20, 21, 22, 23, 0] rfl rfl rfl (by decide) (ar_runV (n := 1) (As := [.int (bI false)]) (rest := [.int r]) (ci := 5) (q0 := 0) hx hb hml hown hts hP hD hS hA hK hZ (c_M_raw l E _ mo mc sv sa wr bt s1 s2 s3 nx mt false km) m_845 m_846 m_847 m_7 m_848 (by decide +kernel) ⟨Nat.le_of_ble_eq_true rfl, Nat.le_of_ble_eq_true rfl⟩ [1, 2, 3, 4, 5, 6, 7, 8, 9] rfl rfl rfl rfl rfl rfl rfl hl.1 rfl (Nat.le_of_ble_eq_true rfl) d_La_law_697 hf0) (fun r6 u6 Hn locsn hw6 hPn hDn hSn => ?_)
    clear hP hD hS
    have hP : va_P E.1 classes ((wX E x es eo ec ds dw dc h a1 a2 a3 he hd ak nx u ++ [wO E o fo]) ++ wM E mo mc sv sa wr bt s1 s2 s3 nx u6) Hn := hPn
    have hD : va_D (fun q : Nat => s.heap.size ≤ q) ((wX E x es eo ec ds dw dc h a1 a2 a3 he hd ak nx u ++ [wO E o fo]) ++ wM E mo mc sv sa wr bt s1 s2 s3 nx u6) := hDn
    have hS := hSn
    clear hPn hDn hSn
    have heq : r = r6 := by rw [hw.1, hw6.1, e1]
    refine lv_icmp_eq (tgt := 729) hx hb d_La_law_700 (by decide) (fun c1 => ?_) (fun c1 => absurd heq c1)
    refine W.widen (k := cells + 1) (n := slots + 6) (by omega) (by omega) ?_
    exact kk u u6 fo _ _ _ (by rw [hw.2, hw6.2]; exact hN) hP hD hS (lv_sub hl [0, 1, 2, 3, 4] rfl)
  · obtain ⟨kx, km, e1, e2, hN⟩ := raw_op hc h9 true
    refine lv_iconst (v := 1) hx hb d_La_law_674 (by decide) ?_
    refine lv_goto (tgt := 679) hx hb d_La_law_675 (by decide) ?_
    refine ar_usei (wr := [wO E o fo] ++ wM E mo mc sv sa wr bt s1 s2 s3 nx mt) hP hD hS hA [0, 1, 2, 3, 4, 5, 6, 7, 8, 9, 10, 11, 12, 13] [14, 15, 16, 17, 18, 19, 20, 21, 22, 23] rfl rfl rfl (by decide) (ar_runV (n := 1) (As := [.int (bI true)]) (rest := []) (ci := 4) (q0 := 0) hx hb hml hown hts hP hD hS hA hK hZ (c_X_raw l E _ x es eo ec ds dw dc h a1 a2 a3 he hd ak nx st true kx) m_193 m_194 m_195 m_1 m_196 (by decide +kernel) ⟨Nat.le_of_ble_eq_true rfl, Nat.le_of_ble_eq_true rfl⟩ [0, 1, 2, 3, 4, 5, 6, 7, 8, 9, 10, 11, 12, 13] rfl rfl rfl rfl rfl rfl rfl hl.1 rfl (Nat.le_of_ble_eq_true rfl) d_La_law_679 hf0) (fun r u Hn locsn hw hPn hDn hSn => ?_)
    clear hP hD hS
    have hP : va_P E.1 classes (([wO E o fo] ++ wM E mo mc sv sa wr bt s1 s2 s3 nx mt) ++ wX E x es eo ec ds dw dc h a1 a2 a3 he hd ak nx u) Hn := hPn
    have hD : va_D (fun q : Nat => s.heap.size ≤ q) (([wO E o fo] ++ wM E mo mc sv sa wr bt s1 s2 s3 nx mt) ++ wX E x es eo ec ds dw dc h a1 a2 a3 he hd ak nx u) := hDn
    have hS := hSn
    clear hPn hDn hSn
    refine lv_aload_n hx hb d_La_law_682 rfl (lv_at hl 2 rfl) ?_
    refine lv_aload_n hx hb d_La_law_683 rfl (lv_at hl 0 rfl) ?_
    refine lv_iload hx hb d_La_law_684 (lv_at hl 4 rfl) ?_
    refine lv_iconst (v := 1) hx hb d_La_law_686 (by decide) ?_
    refine lv_iadd hx hb d_La_law_687 ?_
    refine va_sld hx hb hX hbl hbA hS v1 d_La_law_688 ?_
    refine lv_if_eq (tgt := 696) hx hb d_La_law_689 (by decide) (fun c5 => absurd c5 c3) (fun c5 => ?_)
    refine lv_iconst (v := 1) hx hb d_La_law_692 (by decide) ?_
    refine lv_goto (tgt := 697) hx hb d_La_law_693 (by decide) ?_
    refine ar_usei (wr := wX E x es eo ec ds dw dc h a1 a2 a3 he hd ak nx u ++ [wO E o fo]) hP hD hS hA [1, 2, 3, 4, 5, 6, 7, 8, 9] [10, 11, 12, 13, 14, 15, 16, 17, 18, 19, 20, 21, 22, 23, 0] rfl rfl rfl (by decide) (ar_runV (n := 1) (As := [.int (bI true)]) (rest := [.int r]) (ci := 5) (q0 := 0) hx hb hml hown hts hP hD hS hA hK hZ (c_M_raw l E _ mo mc sv sa wr bt s1 s2 s3 nx mt true km) m_845 m_846 m_847 m_7 m_848 (by decide +kernel) ⟨Nat.le_of_ble_eq_true rfl, Nat.le_of_ble_eq_true rfl⟩ [1, 2, 3, 4, 5, 6, 7, 8, 9] rfl rfl rfl rfl rfl rfl rfl hl.1 rfl (Nat.le_of_ble_eq_true rfl) d_La_law_697 hf0) (fun r6 u6 Hn locsn hw6 hPn hDn hSn => ?_)
    clear hP hD hS
    have hP : va_P E.1 classes ((wX E x es eo ec ds dw dc h a1 a2 a3 he hd ak nx u ++ [wO E o fo]) ++ wM E mo mc sv sa wr bt s1 s2 s3 nx u6) Hn := hPn
    have hD : va_D (fun q : Nat => s.heap.size ≤ q) ((wX E x es eo ec ds dw dc h a1 a2 a3 he hd ak nx u ++ [wO E o fo]) ++ wM E mo mc sv sa wr bt s1 s2 s3 nx u6) := hDn
    have hS := hSn
    clear hPn hDn hSn
    have heq : r = r6 := by rw [hw.1, hw6.1, e1]
    refine lv_icmp_eq (tgt := 729) hx hb d_La_law_700 (by decide) (fun c1 => ?_) (fun c1 => absurd heq c1)
    refine W.widen (k := cells + 1) (n := slots + 6) (by omega) (by omega) ?_
    exact kk u u6 fo _ _ _ (by rw [hw.2, hw6.2]; exact hN) hP hD hS (lv_sub hl [0, 1, 2, 3, 4] rfl)
