set_option maxHeartbeats 8000000 in
set_option maxRecDepth 100000 in
theorem law_byteAt {p : Program} {l : Launch} {e : Env} {s : State} {m : MethodId} {below : List Frame} {meth : Method} {c : Code} {Q : State → Prop} {E : Ev} {b L : Nat} {xs : Nat → Int32} (C : LC p l s m c E b L xs) {nx n i : Nat} (hn0 : 0 < nx) (hnx : nx ≤ 65536) (hc : n < 512) (hi : i + 2 < L) {st : XS} {mt : MS} (h9 : XN nx n st mt) (fo : Nat → Int64) (x es eo ec ds dw dc h a1 a2 a3 he hd ak o mo mc sv sa wr bt s1 s2 s3 : Nat) {H : Heap} {locs : List Loc} {cells slots : Nat} (hf : cells + 1 ≤ room_1.cells ∧ slots + 6 ≤ room_1.slots) (hP : va_P E.1 classes ((wX E x es eo ec ds dw dc h a1 a2 a3 he hd ak nx st ++ [wO E o fo]) ++ wM E mo mc sv sa wr bt s1 s2 s3 nx mt) H) (hD : va_D (fun q : Nat => s.heap.size ≤ q) ((wX E x es eo ec ds dw dc h a1 a2 a3 he hd ak nx st ++ [wO E o fo]) ++ wM E mo mc sv sa wr bt s1 s2 s3 nx mt)) (hS : va_S (fun q : Nat => s.heap.size ≤ q) s.heap H locs) {ls : Array Slot} (hl : lv_has ls 7 [(0, .ref b), (1, .ref x), (2, .ref mo), (3, .ref o), (4, .int (nI i))])
    (kk : ∀ (st' : XS) (mt' : MS) (fo' : Nat → Int64) (H' : Heap) (locs' : List Loc) (ls' : Array Slot), XN nx (n + 1) st' mt' → va_P E.1 classes ((wX E x es eo ec ds dw dc h a1 a2 a3 he hd ak nx st' ++ [wO E o fo']) ++ wM E mo mc sv sa wr bt s1 s2 s3 nx mt') H' → va_D (fun q : Nat => s.heap.size ≤ q) ((wX E x es eo ec ds dw dc h a1 a2 a3 he hd ak nx st' ++ [wO E o fo']) ++ wM E mo mc sv sa wr bt s1 s2 s3 nx mt') → va_S (fun q : Nat => s.heap.size ≤ q) s.heap H' locs' → lv_has ls' 7 [(0, .ref b), (1, .ref x), (2, .ref mo), (3, .ref o), (4, .int (nI i))] → W p l e room_1 s m #[Value.ref b] below meth c H' locs' (cells + 1) (slots + 6) Q (F0 m 729 ls' [])) :
    W p l e room_1 s m #[Value.ref b] below meth c H locs cells slots Q (F0 m 228 ls []) := by
  obtain ⟨hx, hb, hml, hown, hts, hX, hbl, hZ, hK, hlt, hL⟩ := C
  have hA : ∀ q : Nat, s.heap.size ≤ q → (fun q : Nat => s.heap.size ≤ q) q := fun _ h => h
  have hbA : ¬ (fun q : Nat => s.heap.size ≤ q) b := Nat.not_le.mpr hbl
  have v1 : vp_in (nI i + 1) L := by rw [nI_1]; exact vp_in_nI (by omega) hL
  have v2 : vp_in (nI i + 2) L := by rw [show nI i + 2 = nI (i + 2) from nI_add i 2]; exact vp_in_nI (by omega) hL
  have hf0 : cells + 0 ≤ room_1.cells ∧ slots + 0 ≤ room_1.slots := ⟨by have := hf.1; omega, by have := hf.2; omega⟩
  rcases byteAt_op hc h9 (xs (Int32.toNatClampNeg (nI i + 1))) with ⟨kx, km, e1, e2, hN⟩ | ⟨kx, km, e2, hN⟩
  · refine lv_aload_n hx hb d_La_law_228 rfl (lv_at hl 1 rfl) ?_
    refine lv_aload_n hx hb d_La_law_229 rfl (lv_at hl 0 rfl) ?_
    refine lv_iload hx hb d_La_law_230 (lv_at hl 4 rfl) ?_
    refine lv_iconst (v := 1) hx hb d_La_law_232 (by decide) ?_
    refine lv_iadd hx hb d_La_law_233 ?_
    refine va_sld hx hb hX hbl hbA hS v1 d_La_law_234 ?_
    refine lv_aload_n hx hb d_La_law_235 rfl (lv_at hl 3 rfl) ?_
    refine ar_usei (wr := wM E mo mc sv sa wr bt s1 s2 s3 nx mt) hP hD hS hA [0, 1, 2, 3, 4, 5, 6, 7, 8, 9, 10, 11, 12, 13, 14] [15, 16, 17, 18, 19, 20, 21, 22, 23] rfl rfl rfl (by decide) (ar_runSW (n := 3) (As := [.ref x, .int (xs (Int32.toNatClampNeg (nI i + 1))), .ref o]) (rest := []) hx hb hml hown hts hP hD hS hA hK hZ (c_La_byteAt l E _ x es eo ec ds dw dc h a1 a2 a3 he hd ak nx o st fo (xs (Int32.toNatClampNeg (nI i + 1))) kx) m_456 m_457 m_0 m_458 (by decide +kernel) ⟨Nat.le_of_ble_eq_true rfl, Nat.le_of_ble_eq_true rfl⟩ [0, 1, 2, 3, 4, 5, 6, 7, 8, 9, 10, 11, 12, 13, 14] rfl rfl rfl rfl hl.1 rfl (Nat.le_of_ble_eq_true rfl) d_La_law_236 hf0) (fun r u Hn locsn hw hPn hDn hSn => ?_)
    clear hP hD hS
    have hP : va_P E.1 classes (wM E mo mc sv sa wr bt s1 s2 s3 nx mt ++ (wX E x es eo ec ds dw dc h a1 a2 a3 he hd ak nx u.1 ++ [wO E o u.2])) Hn := hPn
    have hD : va_D (fun q : Nat => s.heap.size ≤ q) (wM E mo mc sv sa wr bt s1 s2 s3 nx mt ++ (wX E x es eo ec ds dw dc h a1 a2 a3 he hd ak nx u.1 ++ [wO E o u.2])) := hDn
    have hS := hSn
    clear hPn hDn hSn
    refine lv_istore (lv' := [(5, .int r), (0, .ref b), (1, .ref x), (2, .ref mo), (3, .ref o), (4, .int (nI i))]) hx hb d_La_law_239 hl (by decide) rfl (fun ls hl => ?_)
    refine lv_aload_n hx hb d_La_law_241 rfl (lv_at hl 3 rfl) ?_
    refine lv_aload_n hx hb d_La_law_242 rfl (lv_at hl 1 rfl) ?_
    refine lv_iload hx hb d_La_law_243 (lv_at hl 5 rfl) ?_
    refine lv_iconst (v := 1) hx hb d_La_law_245 (by decide) ?_
    refine lv_iadd hx hb d_La_law_246 ?_
    refine va_sld hx hb hX hbl hbA hS v1 d_La_law_247 ?_
    refine ar_usei (wr := wX E x es eo ec ds dw dc h a1 a2 a3 he hd ak nx u.1 ++ [wO E o u.2]) hP hD hS hA [0, 1, 2, 3, 4, 5, 6, 7, 8] [9, 10, 11, 12, 13, 14, 15, 16, 17, 18, 19, 20, 21, 22, 23] rfl rfl rfl (by decide) (ar_runV (n := 1) (As := [.int (xs (Int32.toNatClampNeg (nI i + 1)))]) (rest := []) (ci := 5) (q0 := 0) hx hb hml hown hts hP hD hS hA hK hZ (c_M_byteAt l E _ mo mc sv sa wr bt s1 s2 s3 nx mt (xs (Int32.toNatClampNeg (nI i + 1))) km) m_765 m_766 m_767 m_7 m_768 (by decide +kernel) ⟨Nat.le_of_ble_eq_true rfl, Nat.le_of_ble_eq_true rfl⟩ [0, 1, 2, 3, 4, 5, 6, 7, 8] rfl rfl rfl rfl rfl rfl rfl hl.1 rfl (Nat.le_of_ble_eq_true rfl) d_La_law_248 hf0) (fun r6 u6 Hn locsn hw6 hPn hDn hSn => ?_)
    clear hP hD hS
    have hP : va_P E.1 classes ((wX E x es eo ec ds dw dc h a1 a2 a3 he hd ak nx u.1 ++ [wO E o u.2]) ++ wM E mo mc sv sa wr bt s1 s2 s3 nx u6) Hn := hPn
    have hD : va_D (fun q : Nat => s.heap.size ≤ q) ((wX E x es eo ec ds dw dc h a1 a2 a3 he hd ak nx u.1 ++ [wO E o u.2]) ++ wM E mo mc sv sa wr bt s1 s2 s3 nx u6) := hDn
    have hS := hSn
    clear hPn hDn hSn
    refine lv_istore (lv' := [(6, .int r6), (5, .int r), (0, .ref b), (1, .ref x), (2, .ref mo), (3, .ref o), (4, .int (nI i))]) hx hb d_La_law_251 hl (by decide) rfl (fun ls hl => ?_)
    refine lv_aload_n hx hb d_La_law_253 rfl (lv_at hl 4 rfl) ?_
    refine ar_usei (wr := wX E x es eo ec ds dw dc h a1 a2 a3 he hd ak nx u.1 ++ [wO E o u.2]) hP hD hS hA [15, 16, 17, 18, 19, 20, 21, 22, 23] [0, 1, 2, 3, 4, 5, 6, 7, 8, 9, 10, 11, 12, 13, 14] rfl rfl rfl (by decide) (ar_runV (n := 0) (As := []) (rest := []) (ci := 5) (q0 := 0) hx hb hml hown hts hP hD hS hA hK hZ (c_M_thrown l E _ mo mc sv sa wr bt s1 s2 s3 nx u6  trivial) m_698 m_699 m_700 m_7 m_701 (by decide +kernel) ⟨Nat.le_of_ble_eq_true rfl, Nat.le_of_ble_eq_true rfl⟩ [15, 16, 17, 18, 19, 20, 21, 22, 23] rfl rfl rfl rfl rfl rfl rfl hl.1 rfl (Nat.le_of_ble_eq_true rfl) d_La_law_254 hf0) (fun r7 u7 Hn locsn hw7 hPn hDn hSn => ?_)
    clear hP hD hS
    have hP : va_P E.1 classes ((wX E x es eo ec ds dw dc h a1 a2 a3 he hd ak nx u.1 ++ [wO E o u.2]) ++ wM E mo mc sv sa wr bt s1 s2 s3 nx u6) Hn := hPn
    have hD : va_D (fun q : Nat => s.heap.size ≤ q) ((wX E x es eo ec ds dw dc h a1 a2 a3 he hd ak nx u.1 ++ [wO E o u.2]) ++ wM E mo mc sv sa wr bt s1 s2 s3 nx u6) := hDn
    have hS := hSn
    clear hPn hDn hSn
    refine lv_iload hx hb d_La_law_257 (lv_at hl 1 rfl) ?_
    have hthr : r7 = r := by rw [hw7, hw.1, f_M_thrown_s, hw6.2]; exact e2
    refine lv_icmp_eq (tgt := 264) hx hb d_La_law_259 (by decide) (fun c1 => ?_) (fun c1 => absurd hthr c1)
    refine lv_iload hx hb d_La_law_264 (lv_at hl 1 rfl) ?_
    refine lv_if_ne (tgt := 281) hx hb d_La_law_266 (by decide) (fun c2 => absurd hw.1 c2) (fun c2 => ?_)
    refine lv_aload_n hx hb d_La_law_269 rfl (lv_at hl 5 rfl) ?_
    refine lv_iconst (v := 0) hx hb d_La_law_270 (by decide) ?_
    refine va_lald (D := E.1) hx hb hK hP 14 2 rfl rfl (vp_in_nI (n := 0) (by decide) (by decide)) d_La_law_271 ?_
    refine lv_iload hx hb d_La_law_272 (lv_at hl 0 rfl) ?_
    refine lv_i2l (v := Int32.toInt64 r6) hx hb d_La_law_274 rfl ?_
    refine W.lcmp hx hb d_La_law_275 ?_
    have hout : u.2 (Int32.toNatClampNeg 0) = Int32.toInt64 r6 := by rw [hw.2, hw6.1, e1]; rfl
    refine lv_if_eq (tgt := 281) hx hb d_La_law_276 (by decide) (fun c4 => ?_) (fun c4 => absurd ((lg_cmp_eq _ _).mpr hout) c4)
    refine lv_goto (tgt := 729) hx hb d_La_law_281 (by decide) ?_
    refine W.widen (k := cells + 1) (n := slots + 6) (by omega) (by omega) ?_
    exact kk u.1 u6 u.2 _ _ _ (by rw [hw.2, hw6.2]; exact hN) hP hD hS (lv_sub hl [2, 3, 4, 5, 6] rfl)
  · refine lv_aload_n hx hb d_La_law_228 rfl (lv_at hl 1 rfl) ?_
    refine lv_aload_n hx hb d_La_law_229 rfl (lv_at hl 0 rfl) ?_
    refine lv_iload hx hb d_La_law_230 (lv_at hl 4 rfl) ?_
    refine lv_iconst (v := 1) hx hb d_La_law_232 (by decide) ?_
    refine lv_iadd hx hb d_La_law_233 ?_
    refine va_sld hx hb hX hbl hbA hS v1 d_La_law_234 ?_
    refine lv_aload_n hx hb d_La_law_235 rfl (lv_at hl 3 rfl) ?_
    refine ar_usei (wr := wM E mo mc sv sa wr bt s1 s2 s3 nx mt) hP hD hS hA [0, 1, 2, 3, 4, 5, 6, 7, 8, 9, 10, 11, 12, 13, 14] [15, 16, 17, 18, 19, 20, 21, 22, 23] rfl rfl rfl (by decide) (ar_runSW (n := 3) (As := [.ref x, .int (xs (Int32.toNatClampNeg (nI i + 1))), .ref o]) (rest := []) hx hb hml hown hts hP hD hS hA hK hZ (c_La_byteAt_T0 l hlt E _ x es eo ec ds dw dc h a1 a2 a3 he hd ak nx o st fo (xs (Int32.toNatClampNeg (nI i + 1))) kx) m_456 m_457 m_0 m_458 (by decide +kernel) ⟨Nat.le_of_ble_eq_true rfl, Nat.le_of_ble_eq_true rfl⟩ [0, 1, 2, 3, 4, 5, 6, 7, 8, 9, 10, 11, 12, 13, 14] rfl rfl rfl rfl hl.1 rfl (Nat.le_of_ble_eq_true rfl) d_La_law_236 hf) (fun r u Hn locsn hw hPn hDn hSn => ?_)
    clear hP hD hS
    have hP : va_P E.1 classes (wM E mo mc sv sa wr bt s1 s2 s3 nx mt ++ (wX E x es eo ec ds dw dc h a1 a2 a3 he hd ak nx u.1 ++ [wO E o u.2])) Hn := hPn
    have hD : va_D (fun q : Nat => s.heap.size ≤ q) (wM E mo mc sv sa wr bt s1 s2 s3 nx mt ++ (wX E x es eo ec ds dw dc h a1 a2 a3 he hd ak nx u.1 ++ [wO E o u.2])) := hDn
    have hS := hSn
    clear hPn hDn hSn
    refine lv_istore (lv' := [(5, .int r), (0, .ref b), (1, .ref x), (2, .ref mo), (3, .ref o), (4, .int (nI i))]) hx hb d_La_law_239 hl (by decide) rfl (fun ls hl => ?_)
    refine lv_aload_n hx hb d_La_law_241 rfl (lv_at hl 3 rfl) ?_
    refine lv_aload_n hx hb d_La_law_242 rfl (lv_at hl 1 rfl) ?_
    refine lv_iload hx hb d_La_law_243 (lv_at hl 5 rfl) ?_
    refine lv_iconst (v := 1) hx hb d_La_law_245 (by decide) ?_
    refine lv_iadd hx hb d_La_law_246 ?_
    refine va_sld hx hb hX hbl hbA hS v1 d_La_law_247 ?_
    refine ar_usei (wr := wX E x es eo ec ds dw dc h a1 a2 a3 he hd ak nx u.1 ++ [wO E o u.2]) hP hD hS hA [0, 1, 2, 3, 4, 5, 6, 7, 8] [9, 10, 11, 12, 13, 14, 15, 16, 17, 18, 19, 20, 21, 22, 23] rfl rfl rfl (by decide) (ar_runV (n := 1) (As := [.int (xs (Int32.toNatClampNeg (nI i + 1)))]) (rest := []) (ci := 5) (q0 := 0) hx hb hml hown hts hP hD hS hA hK hZ (c_M_byteAt l E _ mo mc sv sa wr bt s1 s2 s3 nx mt (xs (Int32.toNatClampNeg (nI i + 1))) km) m_765 m_766 m_767 m_7 m_768 (by decide +kernel) ⟨Nat.le_of_ble_eq_true rfl, Nat.le_of_ble_eq_true rfl⟩ [0, 1, 2, 3, 4, 5, 6, 7, 8] rfl rfl rfl rfl rfl rfl rfl hl.1 rfl (Nat.le_of_ble_eq_true rfl) d_La_law_248 hf) (fun r6 u6 Hn locsn hw6 hPn hDn hSn => ?_)
    clear hP hD hS
    have hP : va_P E.1 classes ((wX E x es eo ec ds dw dc h a1 a2 a3 he hd ak nx u.1 ++ [wO E o u.2]) ++ wM E mo mc sv sa wr bt s1 s2 s3 nx u6) Hn := hPn
    have hD : va_D (fun q : Nat => s.heap.size ≤ q) ((wX E x es eo ec ds dw dc h a1 a2 a3 he hd ak nx u.1 ++ [wO E o u.2]) ++ wM E mo mc sv sa wr bt s1 s2 s3 nx u6) := hDn
    have hS := hSn
    clear hPn hDn hSn
    refine lv_istore (lv' := [(6, .int r6), (5, .int r), (0, .ref b), (1, .ref x), (2, .ref mo), (3, .ref o), (4, .int (nI i))]) hx hb d_La_law_251 hl (by decide) rfl (fun ls hl => ?_)
    refine lv_aload_n hx hb d_La_law_253 rfl (lv_at hl 4 rfl) ?_
    refine ar_usei (wr := wX E x es eo ec ds dw dc h a1 a2 a3 he hd ak nx u.1 ++ [wO E o u.2]) hP hD hS hA [15, 16, 17, 18, 19, 20, 21, 22, 23] [0, 1, 2, 3, 4, 5, 6, 7, 8, 9, 10, 11, 12, 13, 14] rfl rfl rfl (by decide) (ar_runV (n := 0) (As := []) (rest := []) (ci := 5) (q0 := 0) hx hb hml hown hts hP hD hS hA hK hZ (c_M_thrown l E _ mo mc sv sa wr bt s1 s2 s3 nx u6  trivial) m_698 m_699 m_700 m_7 m_701 (by decide +kernel) ⟨Nat.le_of_ble_eq_true rfl, Nat.le_of_ble_eq_true rfl⟩ [15, 16, 17, 18, 19, 20, 21, 22, 23] rfl rfl rfl rfl rfl rfl rfl hl.1 rfl (Nat.le_of_ble_eq_true rfl) d_La_law_254 hf) (fun r7 u7 Hn locsn hw7 hPn hDn hSn => ?_)
    clear hP hD hS
    have hP : va_P E.1 classes ((wX E x es eo ec ds dw dc h a1 a2 a3 he hd ak nx u.1 ++ [wO E o u.2]) ++ wM E mo mc sv sa wr bt s1 s2 s3 nx u6) Hn := hPn
    have hD : va_D (fun q : Nat => s.heap.size ≤ q) ((wX E x es eo ec ds dw dc h a1 a2 a3 he hd ak nx u.1 ++ [wO E o u.2]) ++ wM E mo mc sv sa wr bt s1 s2 s3 nx u6) := hDn
    have hS := hSn
    clear hPn hDn hSn
    refine lv_iload hx hb d_La_law_257 (lv_at hl 1 rfl) ?_
    have hthr : r7 = r := by rw [hw7, hw.1, f_M_thrown_s, hw6.2]; exact e2
    refine lv_icmp_eq (tgt := 264) hx hb d_La_law_259 (by decide) (fun c1 => ?_) (fun c1 => absurd hthr c1)
    refine lv_iload hx hb d_La_law_264 (lv_at hl 1 rfl) ?_
    refine lv_if_ne (tgt := 281) hx hb d_La_law_266 (by decide) (fun c2 => ?_) (fun c2 => absurd (hw.1.symm.trans c2) (by decide))
    refine lv_goto (tgt := 729) hx hb d_La_law_281 (by decide) ?_
    refine W.widen (k := cells + 1) (n := slots + 6) (by omega) (by omega) ?_
    exact kk u.1 u6 u.2 _ _ _ (by rw [hw.2, hw6.2]; exact hN) hP hD hS (lv_sub hl [2, 3, 4, 5, 6] rfl)
