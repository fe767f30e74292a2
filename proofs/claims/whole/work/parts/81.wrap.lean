/-! the law's wrappers -/
set_option maxHeartbeats 4000000 in
set_option maxRecDepth 100000 in
theorem c_La_encode (l : Launch) (E : Ev) (A : Nat → Prop) (x es eo ec ds dw dc h a1 a2 a3 he hd ak nx o : Nat) (st : XS) (fo : Nat → Int64) (p0 : Int32) (p1 : Int32) (hok : k_X_encode nx p0 p1 st) :
    KtW l y_La_encode b_La_encode 5 (some .int) [(0, 10, 13, 13), (0, 10, 17, 15), (0, 10, 21, 17)] 6 0 0 E A [.ref x, .int p0, .int p1, .ref o] (wX E x es eo ec ds dw dc h a1 a2 a3 he hd ak nx st ++ [wO E o fo]) (va_Qi (fun (r : Int32) (u : XS × (Nat → Int64)) => r = 0 ∧ u = ((f_X_encode nx p0 p1 st).2, vp_updL fo 0 (Int32.toInt64 (f_X_encode nx p0 p1 st).1))) (ar_W E A (fun u : XS × (Nat → Int64) => wX E x es eo ec ds dw dc h a1 a2 a3 he hd ak nx u.1 ++ [wO E o u.2])) A) := by
  refine KtW.of (by decide) (Nat.le_of_ble_eq_true rfl) ?_
  intro p e s m below meth c ls hx hb hml hown hts hr hlocks hex hA hZ hP hK hD hl
  have hS : va_S A s.heap s.heap [] := va_S.rf
  have hl : lv_has ls 5 [(0, .ref x), (1, .int p0), (2, .int p1), (3, .ref o)] := hl
  refine lv_aload_n hx hb d_La_encode_0 rfl (lv_at hl 3 rfl) ?_
  refine lv_iconst (v := 0) hx hb d_La_encode_1 (by decide) ?_
  refine lv_aload_n hx hb d_La_encode_2 rfl (lv_at hl 0 rfl) ?_
  refine lv_iload_n hx hb d_La_encode_3 rfl (lv_at hl 1 rfl) ?_
  refine lv_iload_n hx hb d_La_encode_4 rfl (lv_at hl 2 rfl) ?_
  refine ar_usei (wr := [wO E o fo]) hP hD hS hA [0, 1, 2, 3, 4, 5, 6, 7, 8, 9, 10, 11, 12, 13] [14] rfl rfl rfl (by decide) (ar_runV (n := 2) (As := [.int p0, .int p1]) (rest := [.int 0, .ref o]) (ci := 4) (q0 := 0) hx hb hml hown hts hP hD hS hA hK hZ (c_X_encode l E _ x es eo ec ds dw dc h a1 a2 a3 he hd ak nx st p0 p1 hok) m_302 m_303 m_304 m_1 m_305 (by decide +kernel) ⟨Nat.le_of_ble_eq_true rfl, Nat.le_of_ble_eq_true rfl⟩ [0, 1, 2, 3, 4, 5, 6, 7, 8, 9, 10, 11, 12, 13] rfl rfl rfl rfl rfl rfl rfl hl.1 rfl (Nat.le_of_ble_eq_true rfl) d_La_encode_5 ⟨Nat.le_of_ble_eq_true rfl, Nat.le_of_ble_eq_true rfl⟩) (fun r u Hn locsn hw hPn hDn hSn => ?_)
  clear hP hD hS
  have hP : va_P E.1 classes ([wO E o fo] ++ wX E x es eo ec ds dw dc h a1 a2 a3 he hd ak nx u) Hn := hPn
  have hD : va_D A ([wO E o fo] ++ wX E x es eo ec ds dw dc h a1 a2 a3 he hd ak nx u) := hDn
  have hS := hSn
  clear hPn hDn hSn
  refine lv_i2l (v := Int32.toInt64 r) hx hb d_La_encode_8 rfl ?_
  refine va_last (D := E.1) (x := Int32.toInt64 r) hx hb hK hP hD hS 0 2 rfl rfl (vp_in_nI (n := 0) (by decide) (by decide)) d_La_encode_9 (fun Hn locsn hPn hDn hSn => ?_)
  clear hP hD hS
  have hP : va_P E.1 classes ([wO E o (vp_updL fo 0 (Int32.toInt64 r))] ++ wX E x es eo ec ds dw dc h a1 a2 a3 he hd ak nx u) Hn := hPn
  have hD : va_D A ([wO E o (vp_updL fo 0 (Int32.toInt64 r))] ++ wX E x es eo ec ds dw dc h a1 a2 a3 he hd ak nx u) := hDn
  have hS := hSn
  clear hPn hDn hSn
  refine lv_goto (tgt := 25) hx hb d_La_encode_10 (by decide) ?_
  refine lv_iconst (v := 0) hx hb d_La_encode_25 (by decide) ?_
  replace hP := hP.sub (ws' := wX E x es eo ec ds dw dc h a1 a2 a3 he hd ak nx u ++ [wO E o (vp_updL fo 0 (Int32.toInt64 r))]) [1, 2, 3, 4, 5, 6, 7, 8, 9, 10, 11, 12, 13, 14, 0] rfl
  replace hD := hD.sub (ws' := wX E x es eo ec ds dw dc h a1 a2 a3 he hd ak nx u ++ [wO E o (vp_updL fo 0 (Int32.toInt64 r))]) [1, 2, 3, 4, 5, 6, 7, 8, 9, 10, 11, 12, 13, 14, 0] (by decide) rfl
  exact ar_iret hx hb hr hlocks hK hS (u, vp_updL fo 0 (Int32.toInt64 r)) (by rw [← hw.1, ← hw.2]; exact ⟨rfl, rfl⟩) hP hD d_La_encode_26
set_option maxHeartbeats 4000000 in
set_option maxRecDepth 100000 in
theorem c_La_encode_T0 (l : Launch) (hlt : l.stackTraces = false) (E : Ev) (A : Nat → Prop) (x es eo ec ds dw dc h a1 a2 a3 he hd ak nx o : Nat) (st : XS) (fo : Nat → Int64) (p0 : Int32) (p1 : Int32) (hok : k_X_encode_T0 nx p0 p1 st) :
    KtW l y_La_encode b_La_encode 5 (some .int) [(0, 10, 13, 13), (0, 10, 17, 15), (0, 10, 21, 17)] 8 1 6 E A [.ref x, .int p0, .int p1, .ref o] (wX E x es eo ec ds dw dc h a1 a2 a3 he hd ak nx st ++ [wO E o fo]) (va_Qi (fun (r : Int32) (u : XS × (Nat → Int64)) => r = 1 ∧ u = (st, fo)) (ar_W E A (fun u : XS × (Nat → Int64) => wX E x es eo ec ds dw dc h a1 a2 a3 he hd ak nx u.1 ++ [wO E o u.2])) A) := by
  refine KtW.of (by decide) (Nat.le_of_ble_eq_true rfl) ?_
  intro p e s m below meth c ls hx hb hml hown hts hr hlocks hex hA hZ hP hK hD hl
  have hS : va_S A s.heap s.heap [] := va_S.rf
  have hl : lv_has ls 5 [(0, .ref x), (1, .int p0), (2, .int p1), (3, .ref o)] := hl
  refine lv_aload_n hx hb d_La_encode_0 rfl (lv_at hl 3 rfl) ?_
  refine lv_iconst (v := 0) hx hb d_La_encode_1 (by decide) ?_
  refine lv_aload_n hx hb d_La_encode_2 rfl (lv_at hl 0 rfl) ?_
  refine lv_iload_n hx hb d_La_encode_3 rfl (lv_at hl 1 rfl) ?_
  refine lv_iload_n hx hb d_La_encode_4 rfl (lv_at hl 2 rfl) ?_
  refine ar_thrV (n := 2) (As := [.int p0, .int p1]) (rest := [.int 0, .ref o]) (wr := [wO E o fo]) (ci := 4) (q0 := 0) hx hb hml hown hts hP hD hS hA hK hZ (c_X_encode_T0 l hlt E _ x es eo ec ds dw dc h a1 a2 a3 he hd ak nx st p0 p1 hok) m_302 m_303 m_304 m_1 m_305 (by decide +kernel) ⟨Nat.le_of_ble_eq_true rfl, Nat.le_of_ble_eq_true rfl⟩ [0, 1, 2, 3, 4, 5, 6, 7, 8, 9, 10, 11, 12, 13] [14] rfl rfl rfl rfl rfl (by decide) rfl rfl rfl rfl hl.1 rfl (Nat.le_of_ble_eq_true rfl) d_La_encode_5 ⟨Nat.le_of_ble_eq_true rfl, Nat.le_of_ble_eq_true rfl⟩ (fun qx cx Hn locsn hPn hDn hSn hce hcv hcc => ?_)
  clear hP hD hS
  have hP := hPn.sub (ws' := wX E x es eo ec ds dw dc h a1 a2 a3 he hd ak nx st ++ [wO E o fo]) [1, 2, 3, 4, 5, 6, 7, 8, 9, 10, 11, 12, 13, 14, 0] rfl
  have hD := hDn.sub (ws' := wX E x es eo ec ds dw dc h a1 a2 a3 he hd ak nx st ++ [wO E o fo]) [1, 2, 3, 4, 5, 6, 7, 8, 9, 10, 11, 12, 13, 14, 0] (by decide) rfl
  have hS := hSn
  clear hPn hDn hSn
  refine ar_catch (own := "ArithmeticRowsLaw") (name := "java/lang/IndexOutOfBoundsException") (Ex := "java/lang/IndexOutOfBoundsException") hown [] (ar_e (0, 10, 13, 13)) [ar_e (0, 10, 17, 15), ar_e (0, 10, 21, 17)] hex (fun z hz => absurd hz List.not_mem_nil) (by decide) (by decide) (hts _ m_299) (va_Nw.use rfl (hZ.2.2.2.2.2.2.1 0 (by decide))) hce hcv hcc ?_
  refine lv_astore (lv' := [(4, .ref qx), (0, .ref x), (1, .int p0), (2, .int p1), (3, .ref o)]) hx hb d_La_encode_13 hl (by decide) rfl (fun ls hl => ?_)
  refine lv_iconst (v := 1) hx hb d_La_encode_15 (by decide) ?_
  exact ar_iret hx hb hr hlocks hK hS (st, fo) ⟨rfl, rfl⟩ hP hD d_La_encode_16
set_option maxHeartbeats 4000000 in
set_option maxRecDepth 100000 in
theorem c_La_encode_T1 (l : Launch) (hlt : l.stackTraces = false) (E : Ev) (A : Nat → Prop) (x es eo ec ds dw dc h a1 a2 a3 he hd ak nx o : Nat) (st : XS) (fo : Nat → Int64) (p0 : Int32) (p1 : Int32) (hok : k_X_encode_T1 nx p0 p1 st) :
    KtW l y_La_encode b_La_encode 5 (some .int) [(0, 10, 13, 13), (0, 10, 17, 15), (0, 10, 21, 17)] 8 1 6 E A [.ref x, .int p0, .int p1, .ref o] (wX E x es eo ec ds dw dc h a1 a2 a3 he hd ak nx st ++ [wO E o fo]) (va_Qi (fun (r : Int32) (u : XS × (Nat → Int64)) => r = 2 ∧ u = (st, fo)) (ar_W E A (fun u : XS × (Nat → Int64) => wX E x es eo ec ds dw dc h a1 a2 a3 he hd ak nx u.1 ++ [wO E o u.2])) A) := by
  refine KtW.of (by decide) (Nat.le_of_ble_eq_true rfl) ?_
  intro p e s m below meth c ls hx hb hml hown hts hr hlocks hex hA hZ hP hK hD hl
  have hS : va_S A s.heap s.heap [] := va_S.rf
  have hl : lv_has ls 5 [(0, .ref x), (1, .int p0), (2, .int p1), (3, .ref o)] := hl
  refine lv_aload_n hx hb d_La_encode_0 rfl (lv_at hl 3 rfl) ?_
  refine lv_iconst (v := 0) hx hb d_La_encode_1 (by decide) ?_
  refine lv_aload_n hx hb d_La_encode_2 rfl (lv_at hl 0 rfl) ?_
  refine lv_iload_n hx hb d_La_encode_3 rfl (lv_at hl 1 rfl) ?_
  refine lv_iload_n hx hb d_La_encode_4 rfl (lv_at hl 2 rfl) ?_
  refine ar_thrV (n := 2) (As := [.int p0, .int p1]) (rest := [.int 0, .ref o]) (wr := [wO E o fo]) (ci := 4) (q0 := 0) hx hb hml hown hts hP hD hS hA hK hZ (c_X_encode_T1 l hlt E _ x es eo ec ds dw dc h a1 a2 a3 he hd ak nx st p0 p1 hok) m_302 m_303 m_304 m_1 m_305 (by decide +kernel) ⟨Nat.le_of_ble_eq_true rfl, Nat.le_of_ble_eq_true rfl⟩ [0, 1, 2, 3, 4, 5, 6, 7, 8, 9, 10, 11, 12, 13] [14] rfl rfl rfl rfl rfl (by decide) rfl rfl rfl rfl hl.1 rfl (Nat.le_of_ble_eq_true rfl) d_La_encode_5 ⟨Nat.le_of_ble_eq_true rfl, Nat.le_of_ble_eq_true rfl⟩ (fun qx cx Hn locsn hPn hDn hSn hce hcv hcc => ?_)
  clear hP hD hS
  have hP := hPn.sub (ws' := wX E x es eo ec ds dw dc h a1 a2 a3 he hd ak nx st ++ [wO E o fo]) [1, 2, 3, 4, 5, 6, 7, 8, 9, 10, 11, 12, 13, 14, 0] rfl
  have hD := hDn.sub (ws' := wX E x es eo ec ds dw dc h a1 a2 a3 he hd ak nx st ++ [wO E o fo]) [1, 2, 3, 4, 5, 6, 7, 8, 9, 10, 11, 12, 13, 14, 0] (by decide) rfl
  have hS := hSn
  clear hPn hDn hSn
  refine ar_catch (own := "ArithmeticRowsLaw") (name := "java/lang/IllegalStateException") (Ex := "java/lang/IllegalStateException") hown [ar_e (0, 10, 13, 13)] (ar_e (0, 10, 17, 15)) [ar_e (0, 10, 21, 17)] hex (List.forall_mem_cons.mpr ⟨Or.inr ⟨by decide, "java/lang/IndexOutOfBoundsException", hts _ m_299, hZ.2.2.2.2.2.2.2.2.2 1 0 (by decide) (by decide) (by decide)⟩, fun _ hz => absurd hz List.not_mem_nil⟩) (by decide) (by decide) (hts _ m_300) (va_Nw.use rfl (hZ.2.2.2.2.2.2.1 1 (by decide))) hce hcv hcc ?_
  refine lv_astore (lv' := [(4, .ref qx), (0, .ref x), (1, .int p0), (2, .int p1), (3, .ref o)]) hx hb d_La_encode_17 hl (by decide) rfl (fun ls hl => ?_)
  refine lv_iconst (v := 2) hx hb d_La_encode_19 (by decide) ?_
  exact ar_iret hx hb hr hlocks hK hS (st, fo) ⟨rfl, rfl⟩ hP hD d_La_encode_20
set_option maxHeartbeats 4000000 in
set_option maxRecDepth 100000 in
theorem c_La_encode_T2 (l : Launch) (hlt : l.stackTraces = false) (E : Ev) (A : Nat → Prop) (x es eo ec ds dw dc h a1 a2 a3 he hd ak nx o : Nat) (st : XS) (fo : Nat → Int64) (p0 : Int32) (p1 : Int32) (hok : k_X_encode_T2 nx p0 p1 st) :
    KtW l y_La_encode b_La_encode 5 (some .int) [(0, 10, 13, 13), (0, 10, 17, 15), (0, 10, 21, 17)] 8 1 6 E A [.ref x, .int p0, .int p1, .ref o] (wX E x es eo ec ds dw dc h a1 a2 a3 he hd ak nx st ++ [wO E o fo]) (va_Qi (fun (r : Int32) (u : XS × (Nat → Int64)) => r = 3 ∧ u = (st, fo)) (ar_W E A (fun u : XS × (Nat → Int64) => wX E x es eo ec ds dw dc h a1 a2 a3 he hd ak nx u.1 ++ [wO E o u.2])) A) := by
  refine KtW.of (by decide) (Nat.le_of_ble_eq_true rfl) ?_
  intro p e s m below meth c ls hx hb hml hown hts hr hlocks hex hA hZ hP hK hD hl
  have hS : va_S A s.heap s.heap [] := va_S.rf
  have hl : lv_has ls 5 [(0, .ref x), (1, .int p0), (2, .int p1), (3, .ref o)] := hl
  refine lv_aload_n hx hb d_La_encode_0 rfl (lv_at hl 3 rfl) ?_
  refine lv_iconst (v := 0) hx hb d_La_encode_1 (by decide) ?_
  refine lv_aload_n hx hb d_La_encode_2 rfl (lv_at hl 0 rfl) ?_
  refine lv_iload_n hx hb d_La_encode_3 rfl (lv_at hl 1 rfl) ?_
  refine lv_iload_n hx hb d_La_encode_4 rfl (lv_at hl 2 rfl) ?_
  refine ar_thrV (n := 2) (As := [.int p0, .int p1]) (rest := [.int 0, .ref o]) (wr := [wO E o fo]) (ci := 4) (q0 := 0) hx hb hml hown hts hP hD hS hA hK hZ (c_X_encode_T2 l hlt E _ x es eo ec ds dw dc h a1 a2 a3 he hd ak nx st p0 p1 hok) m_302 m_303 m_304 m_1 m_305 (by decide +kernel) ⟨Nat.le_of_ble_eq_true rfl, Nat.le_of_ble_eq_true rfl⟩ [0, 1, 2, 3, 4, 5, 6, 7, 8, 9, 10, 11, 12, 13] [14] rfl rfl rfl rfl rfl (by decide) rfl rfl rfl rfl hl.1 rfl (Nat.le_of_ble_eq_true rfl) d_La_encode_5 ⟨Nat.le_of_ble_eq_true rfl, Nat.le_of_ble_eq_true rfl⟩ (fun qx cx Hn locsn hPn hDn hSn hce hcv hcc => ?_)
  clear hP hD hS
  have hP := hPn.sub (ws' := wX E x es eo ec ds dw dc h a1 a2 a3 he hd ak nx st ++ [wO E o fo]) [1, 2, 3, 4, 5, 6, 7, 8, 9, 10, 11, 12, 13, 14, 0] rfl
  have hD := hDn.sub (ws' := wX E x es eo ec ds dw dc h a1 a2 a3 he hd ak nx st ++ [wO E o fo]) [1, 2, 3, 4, 5, 6, 7, 8, 9, 10, 11, 12, 13, 14, 0] (by decide) rfl
  have hS := hSn
  clear hPn hDn hSn
  refine ar_catch (own := "ArithmeticRowsLaw") (name := "java/lang/IllegalArgumentException") (Ex := "java/lang/IllegalArgumentException") hown [ar_e (0, 10, 13, 13), ar_e (0, 10, 17, 15)] (ar_e (0, 10, 21, 17)) [] hex (List.forall_mem_cons.mpr ⟨Or.inr ⟨by decide, "java/lang/IndexOutOfBoundsException", hts _ m_299, hZ.2.2.2.2.2.2.2.2.2 2 0 (by decide) (by decide) (by decide)⟩, List.forall_mem_cons.mpr ⟨Or.inr ⟨by decide, "java/lang/IllegalStateException", hts _ m_300, hZ.2.2.2.2.2.2.2.2.2 2 1 (by decide) (by decide) (by decide)⟩, fun _ hz => absurd hz List.not_mem_nil⟩⟩) (by decide) (by decide) (hts _ m_301) (va_Nw.use rfl (hZ.2.2.2.2.2.2.1 2 (by decide))) hce hcv hcc ?_
  refine lv_astore (lv' := [(4, .ref qx), (0, .ref x), (1, .int p0), (2, .int p1), (3, .ref o)]) hx hb d_La_encode_21 hl (by decide) rfl (fun ls hl => ?_)
  refine lv_iconst (v := 3) hx hb d_La_encode_23 (by decide) ?_
  exact ar_iret hx hb hr hlocks hK hS (st, fo) ⟨rfl, rfl⟩ hP hD d_La_encode_24
set_option maxHeartbeats 4000000 in
set_option maxRecDepth 100000 in
theorem c_La_finish (l : Launch) (E : Ev) (A : Nat → Prop) (x es eo ec ds dw dc h a1 a2 a3 he hd ak nx o : Nat) (st : XS) (fo : Nat → Int64)  (hok : k_X_finish nx  st) :
    KtW l y_La_finish b_La_finish 3 (some .int) [(0, 8, 11, 15)] 5 0 0 E A [.ref x, .ref o] (wX E x es eo ec ds dw dc h a1 a2 a3 he hd ak nx st ++ [wO E o fo]) (va_Qi (fun (r : Int32) (u : XS × (Nat → Int64)) => r = 0 ∧ u = ((f_X_finish nx st).2, vp_updL fo 0 (Int32.toInt64 (f_X_finish nx st).1))) (ar_W E A (fun u : XS × (Nat → Int64) => wX E x es eo ec ds dw dc h a1 a2 a3 he hd ak nx u.1 ++ [wO E o u.2])) A) := by
  refine KtW.of (by decide) (Nat.le_of_ble_eq_true rfl) ?_
  intro p e s m below meth c ls hx hb hml hown hts hr hlocks hex hA hZ hP hK hD hl
  have hS : va_S A s.heap s.heap [] := va_S.rf
  have hl : lv_has ls 3 [(0, .ref x), (1, .ref o)] := hl
  refine lv_aload_n hx hb d_La_finish_0 rfl (lv_at hl 1 rfl) ?_
  refine lv_iconst (v := 0) hx hb d_La_finish_1 (by decide) ?_
  refine lv_aload_n hx hb d_La_finish_2 rfl (lv_at hl 0 rfl) ?_
  refine ar_usei (wr := [wO E o fo]) hP hD hS hA [0, 1, 2, 3, 4, 5, 6, 7, 8, 9, 10, 11, 12, 13] [14] rfl rfl rfl (by decide) (ar_runV (n := 0) (As := []) (rest := [.int 0, .ref o]) (ci := 4) (q0 := 0) hx hb hml hown hts hP hD hS hA hK hZ (c_X_finish l E _ x es eo ec ds dw dc h a1 a2 a3 he hd ak nx st hok) m_451 m_452 m_453 m_1 m_454 (by decide +kernel) ⟨Nat.le_of_ble_eq_true rfl, Nat.le_of_ble_eq_true rfl⟩ [0, 1, 2, 3, 4, 5, 6, 7, 8, 9, 10, 11, 12, 13] rfl rfl rfl rfl rfl rfl rfl hl.1 rfl (Nat.le_of_ble_eq_true rfl) d_La_finish_3 ⟨Nat.le_of_ble_eq_true rfl, Nat.le_of_ble_eq_true rfl⟩) (fun r u Hn locsn hw hPn hDn hSn => ?_)
  clear hP hD hS
  have hP : va_P E.1 classes ([wO E o fo] ++ wX E x es eo ec ds dw dc h a1 a2 a3 he hd ak nx u) Hn := hPn
  have hD : va_D A ([wO E o fo] ++ wX E x es eo ec ds dw dc h a1 a2 a3 he hd ak nx u) := hDn
  have hS := hSn
  clear hPn hDn hSn
  refine lv_i2l (v := Int32.toInt64 r) hx hb d_La_finish_6 rfl ?_
  refine va_last (D := E.1) (x := Int32.toInt64 r) hx hb hK hP hD hS 0 2 rfl rfl (vp_in_nI (n := 0) (by decide) (by decide)) d_La_finish_7 (fun Hn locsn hPn hDn hSn => ?_)
  clear hP hD hS
  have hP : va_P E.1 classes ([wO E o (vp_updL fo 0 (Int32.toInt64 r))] ++ wX E x es eo ec ds dw dc h a1 a2 a3 he hd ak nx u) Hn := hPn
  have hD : va_D A ([wO E o (vp_updL fo 0 (Int32.toInt64 r))] ++ wX E x es eo ec ds dw dc h a1 a2 a3 he hd ak nx u) := hDn
  have hS := hSn
  clear hPn hDn hSn
  refine lv_goto (tgt := 14) hx hb d_La_finish_8 (by decide) ?_
  refine lv_iconst (v := 0) hx hb d_La_finish_14 (by decide) ?_
  replace hP := hP.sub (ws' := wX E x es eo ec ds dw dc h a1 a2 a3 he hd ak nx u ++ [wO E o (vp_updL fo 0 (Int32.toInt64 r))]) [1, 2, 3, 4, 5, 6, 7, 8, 9, 10, 11, 12, 13, 14, 0] rfl
  replace hD := hD.sub (ws' := wX E x es eo ec ds dw dc h a1 a2 a3 he hd ak nx u ++ [wO E o (vp_updL fo 0 (Int32.toInt64 r))]) [1, 2, 3, 4, 5, 6, 7, 8, 9, 10, 11, 12, 13, 14, 0] (by decide) rfl
  exact ar_iret hx hb hr hlocks hK hS (u, vp_updL fo 0 (Int32.toInt64 r)) (by rw [← hw.1, ← hw.2]; exact ⟨rfl, rfl⟩) hP hD d_La_finish_15
set_option maxHeartbeats 4000000 in
set_option maxRecDepth 100000 in
theorem c_La_finish_T1 (l : Launch) (hlt : l.stackTraces = false) (E : Ev) (A : Nat → Prop) (x es eo ec ds dw dc h a1 a2 a3 he hd ak nx o : Nat) (st : XS) (fo : Nat → Int64)  (hok : k_X_finish_T1 nx  st) :
    KtW l y_La_finish b_La_finish 3 (some .int) [(0, 8, 11, 15)] 8 1 6 E A [.ref x, .ref o] (wX E x es eo ec ds dw dc h a1 a2 a3 he hd ak nx st ++ [wO E o fo]) (va_Qi (fun (r : Int32) (u : XS × (Nat → Int64)) => r = 1 ∧ u = (st, fo)) (ar_W E A (fun u : XS × (Nat → Int64) => wX E x es eo ec ds dw dc h a1 a2 a3 he hd ak nx u.1 ++ [wO E o u.2])) A) := by
  refine KtW.of (by decide) (Nat.le_of_ble_eq_true rfl) ?_
  intro p e s m below meth c ls hx hb hml hown hts hr hlocks hex hA hZ hP hK hD hl
  have hS : va_S A s.heap s.heap [] := va_S.rf
  have hl : lv_has ls 3 [(0, .ref x), (1, .ref o)] := hl
  refine lv_aload_n hx hb d_La_finish_0 rfl (lv_at hl 1 rfl) ?_
  refine lv_iconst (v := 0) hx hb d_La_finish_1 (by decide) ?_
  refine lv_aload_n hx hb d_La_finish_2 rfl (lv_at hl 0 rfl) ?_
  refine ar_thrV (n := 0) (As := []) (rest := [.int 0, .ref o]) (wr := [wO E o fo]) (ci := 4) (q0 := 0) hx hb hml hown hts hP hD hS hA hK hZ (c_X_finish_T1 l hlt E _ x es eo ec ds dw dc h a1 a2 a3 he hd ak nx st hok) m_451 m_452 m_453 m_1 m_454 (by decide +kernel) ⟨Nat.le_of_ble_eq_true rfl, Nat.le_of_ble_eq_true rfl⟩ [0, 1, 2, 3, 4, 5, 6, 7, 8, 9, 10, 11, 12, 13] [14] rfl rfl rfl rfl rfl (by decide) rfl rfl rfl rfl hl.1 rfl (Nat.le_of_ble_eq_true rfl) d_La_finish_3 ⟨Nat.le_of_ble_eq_true rfl, Nat.le_of_ble_eq_true rfl⟩ (fun qx cx Hn locsn hPn hDn hSn hce hcv hcc => ?_)
  clear hP hD hS
  have hP := hPn.sub (ws' := wX E x es eo ec ds dw dc h a1 a2 a3 he hd ak nx st ++ [wO E o fo]) [1, 2, 3, 4, 5, 6, 7, 8, 9, 10, 11, 12, 13, 14, 0] rfl
  have hD := hDn.sub (ws' := wX E x es eo ec ds dw dc h a1 a2 a3 he hd ak nx st ++ [wO E o fo]) [1, 2, 3, 4, 5, 6, 7, 8, 9, 10, 11, 12, 13, 14, 0] (by decide) rfl
  have hS := hSn
  clear hPn hDn hSn
  refine ar_catch (own := "ArithmeticRowsLaw") (name := "java/lang/IllegalStateException") (Ex := "java/lang/IllegalStateException") hown [] (ar_e (0, 8, 11, 15)) [] hex (fun z hz => absurd hz List.not_mem_nil) (by decide) (by decide) (hts _ m_300) (va_Nw.use rfl (hZ.2.2.2.2.2.2.1 1 (by decide))) hce hcv hcc ?_
  refine lv_astore_n (lv' := [(2, .ref qx), (0, .ref x), (1, .ref o)]) hx hb d_La_finish_11 rfl hl (by decide) rfl (fun ls hl => ?_)
  refine lv_iconst (v := 1) hx hb d_La_finish_12 (by decide) ?_
  exact ar_iret hx hb hr hlocks hK hS (st, fo) ⟨rfl, rfl⟩ hP hD d_La_finish_13
set_option maxHeartbeats 4000000 in
set_option maxRecDepth 100000 in
theorem c_La_byteAt (l : Launch) (E : Ev) (A : Nat → Prop) (x es eo ec ds dw dc h a1 a2 a3 he hd ak nx o : Nat) (st : XS) (fo : Nat → Int64) (p0 : Int32) (hok : k_X_byteAt nx p0 st) :
    KtW l y_La_byteAt b_La_byteAt 4 (some .int) [(0, 9, 12, 13)] 2 0 0 E A [.ref x, .int p0, .ref o] (wX E x es eo ec ds dw dc h a1 a2 a3 he hd ak nx st ++ [wO E o fo]) (va_Qi (fun (r : Int32) (u : XS × (Nat → Int64)) => r = 0 ∧ u = (st, vp_updL fo 0 (Int32.toInt64 (f_X_byteAt nx p0 st)))) (ar_W E A (fun u : XS × (Nat → Int64) => wX E x es eo ec ds dw dc h a1 a2 a3 he hd ak nx u.1 ++ [wO E o u.2])) A) := by
  refine KtW.of (by decide) (Nat.le_of_ble_eq_true rfl) ?_
  intro p e s m below meth c ls hx hb hml hown hts hr hlocks hex hA hZ hP hK hD hl
  have hS : va_S A s.heap s.heap [] := va_S.rf
  have hl : lv_has ls 4 [(0, .ref x), (1, .int p0), (2, .ref o)] := hl
  refine lv_aload_n hx hb d_La_byteAt_0 rfl (lv_at hl 2 rfl) ?_
  refine lv_iconst (v := 0) hx hb d_La_byteAt_1 (by decide) ?_
  refine lv_aload_n hx hb d_La_byteAt_2 rfl (lv_at hl 0 rfl) ?_
  refine lv_iload_n hx hb d_La_byteAt_3 rfl (lv_at hl 1 rfl) ?_
  refine ar_usei (wr := [wO E o fo]) hP hD hS hA [0, 1, 2, 3, 4, 5, 6, 7, 8, 9, 10, 11, 12, 13] [14] rfl rfl rfl (by decide) (ar_runV (n := 1) (As := [.int p0]) (rest := [.int 0, .ref o]) (ci := 4) (q0 := 0) hx hb hml hown hts hP hD hS hA hK hZ (c_X_byteAt l E _ x es eo ec ds dw dc h a1 a2 a3 he hd ak nx st p0 hok) m_459 m_460 m_461 m_1 m_462 (by decide +kernel) ⟨Nat.le_of_ble_eq_true rfl, Nat.le_of_ble_eq_true rfl⟩ [0, 1, 2, 3, 4, 5, 6, 7, 8, 9, 10, 11, 12, 13] rfl rfl rfl rfl rfl rfl rfl hl.1 rfl (Nat.le_of_ble_eq_true rfl) d_La_byteAt_4 ⟨Nat.le_of_ble_eq_true rfl, Nat.le_of_ble_eq_true rfl⟩) (fun r u Hn locsn hw hPn hDn hSn => ?_)
  clear hP hD hS
  have hP : va_P E.1 classes ([wO E o fo] ++ wX E x es eo ec ds dw dc h a1 a2 a3 he hd ak nx st) Hn := hPn
  have hD : va_D A ([wO E o fo] ++ wX E x es eo ec ds dw dc h a1 a2 a3 he hd ak nx st) := hDn
  have hS := hSn
  clear hPn hDn hSn
  refine lv_i2l (v := Int32.toInt64 r) hx hb d_La_byteAt_7 rfl ?_
  refine va_last (D := E.1) (x := Int32.toInt64 r) hx hb hK hP hD hS 0 2 rfl rfl (vp_in_nI (n := 0) (by decide) (by decide)) d_La_byteAt_8 (fun Hn locsn hPn hDn hSn => ?_)
  clear hP hD hS
  have hP : va_P E.1 classes ([wO E o (vp_updL fo 0 (Int32.toInt64 r))] ++ wX E x es eo ec ds dw dc h a1 a2 a3 he hd ak nx st) Hn := hPn
  have hD : va_D A ([wO E o (vp_updL fo 0 (Int32.toInt64 r))] ++ wX E x es eo ec ds dw dc h a1 a2 a3 he hd ak nx st) := hDn
  have hS := hSn
  clear hPn hDn hSn
  refine lv_goto (tgt := 15) hx hb d_La_byteAt_9 (by decide) ?_
  refine lv_iconst (v := 0) hx hb d_La_byteAt_15 (by decide) ?_
  replace hP := hP.sub (ws' := wX E x es eo ec ds dw dc h a1 a2 a3 he hd ak nx st ++ [wO E o (vp_updL fo 0 (Int32.toInt64 r))]) [1, 2, 3, 4, 5, 6, 7, 8, 9, 10, 11, 12, 13, 14, 0] rfl
  replace hD := hD.sub (ws' := wX E x es eo ec ds dw dc h a1 a2 a3 he hd ak nx st ++ [wO E o (vp_updL fo 0 (Int32.toInt64 r))]) [1, 2, 3, 4, 5, 6, 7, 8, 9, 10, 11, 12, 13, 14, 0] (by decide) rfl
  exact ar_iret hx hb hr hlocks hK hS (st, vp_updL fo 0 (Int32.toInt64 r)) (by rw [← hw]; exact ⟨rfl, rfl⟩) hP hD d_La_byteAt_16
set_option maxHeartbeats 4000000 in
set_option maxRecDepth 100000 in
theorem c_La_byteAt_T0 (l : Launch) (hlt : l.stackTraces = false) (E : Ev) (A : Nat → Prop) (x es eo ec ds dw dc h a1 a2 a3 he hd ak nx o : Nat) (st : XS) (fo : Nat → Int64) (p0 : Int32) (hok : k_X_byteAt_T0 nx p0 st) :
    KtW l y_La_byteAt b_La_byteAt 4 (some .int) [(0, 9, 12, 13)] 8 1 6 E A [.ref x, .int p0, .ref o] (wX E x es eo ec ds dw dc h a1 a2 a3 he hd ak nx st ++ [wO E o fo]) (va_Qi (fun (r : Int32) (u : XS × (Nat → Int64)) => r = 1 ∧ u = (st, fo)) (ar_W E A (fun u : XS × (Nat → Int64) => wX E x es eo ec ds dw dc h a1 a2 a3 he hd ak nx u.1 ++ [wO E o u.2])) A) := by
  refine KtW.of (by decide) (Nat.le_of_ble_eq_true rfl) ?_
  intro p e s m below meth c ls hx hb hml hown hts hr hlocks hex hA hZ hP hK hD hl
  have hS : va_S A s.heap s.heap [] := va_S.rf
  have hl : lv_has ls 4 [(0, .ref x), (1, .int p0), (2, .ref o)] := hl
  refine lv_aload_n hx hb d_La_byteAt_0 rfl (lv_at hl 2 rfl) ?_
  refine lv_iconst (v := 0) hx hb d_La_byteAt_1 (by decide) ?_
  refine lv_aload_n hx hb d_La_byteAt_2 rfl (lv_at hl 0 rfl) ?_
  refine lv_iload_n hx hb d_La_byteAt_3 rfl (lv_at hl 1 rfl) ?_
  refine ar_thrV (n := 1) (As := [.int p0]) (rest := [.int 0, .ref o]) (wr := [wO E o fo]) (ci := 4) (q0 := 0) hx hb hml hown hts hP hD hS hA hK hZ (c_X_byteAt_T0 l hlt E _ x es eo ec ds dw dc h a1 a2 a3 he hd ak nx st p0 hok) m_459 m_460 m_461 m_1 m_462 (by decide +kernel) ⟨Nat.le_of_ble_eq_true rfl, Nat.le_of_ble_eq_true rfl⟩ [0, 1, 2, 3, 4, 5, 6, 7, 8, 9, 10, 11, 12, 13] [14] rfl rfl rfl rfl rfl (by decide) rfl rfl rfl rfl hl.1 rfl (Nat.le_of_ble_eq_true rfl) d_La_byteAt_4 ⟨Nat.le_of_ble_eq_true rfl, Nat.le_of_ble_eq_true rfl⟩ (fun qx cx Hn locsn hPn hDn hSn hce hcv hcc => ?_)
  clear hP hD hS
  have hP := hPn.sub (ws' := wX E x es eo ec ds dw dc h a1 a2 a3 he hd ak nx st ++ [wO E o fo]) [1, 2, 3, 4, 5, 6, 7, 8, 9, 10, 11, 12, 13, 14, 0] rfl
  have hD := hDn.sub (ws' := wX E x es eo ec ds dw dc h a1 a2 a3 he hd ak nx st ++ [wO E o fo]) [1, 2, 3, 4, 5, 6, 7, 8, 9, 10, 11, 12, 13, 14, 0] (by decide) rfl
  have hS := hSn
  clear hPn hDn hSn
  refine ar_catch (own := "ArithmeticRowsLaw") (name := "java/lang/IndexOutOfBoundsException") (Ex := "java/lang/IndexOutOfBoundsException") hown [] (ar_e (0, 9, 12, 13)) [] hex (fun z hz => absurd hz List.not_mem_nil) (by decide) (by decide) (hts _ m_299) (va_Nw.use rfl (hZ.2.2.2.2.2.2.1 0 (by decide))) hce hcv hcc ?_
  refine lv_astore_n (lv' := [(3, .ref qx), (0, .ref x), (1, .int p0), (2, .ref o)]) hx hb d_La_byteAt_12 rfl hl (by decide) rfl (fun ls hl => ?_)
  refine lv_iconst (v := 1) hx hb d_La_byteAt_13 (by decide) ?_
  exact ar_iret hx hb hr hlocks hK hS (st, fo) ⟨rfl, rfl⟩ hP hD d_La_byteAt_14
set_option maxHeartbeats 4000000 in
set_option maxRecDepth 100000 in
theorem c_La_feed (l : Launch) (E : Ev) (A : Nat → Prop) (x es eo ec ds dw dc h a1 a2 a3 he hd ak nx o : Nat) (st : XS) (fo : Nat → Int64) (p0 : Int32) (hok : k_X_feed nx p0 st) :
    KtW l y_La_feed b_La_feed 4 (some .int) [(0, 16, 19, 15), (0, 16, 22, 17)] 2 0 0 E A [.ref x, .int p0, .ref o] (wX E x es eo ec ds dw dc h a1 a2 a3 he hd ak nx st ++ [wO E o fo]) (va_Qi (fun (r : Int32) (u : XS × (Nat → Int64)) => r = 0 ∧ u = ((f_X_feed nx p0 st).2, vp_updL fo 0 (bL (f_X_feed nx p0 st).1))) (ar_W E A (fun u : XS × (Nat → Int64) => wX E x es eo ec ds dw dc h a1 a2 a3 he hd ak nx u.1 ++ [wO E o u.2])) A) := by
  refine KtW.of (by decide) (Nat.le_of_ble_eq_true rfl) ?_
  intro p e s m below meth c ls hx hb hml hown hts hr hlocks hex hA hZ hP hK hD hl
  have hS : va_S A s.heap s.heap [] := va_S.rf
  have hl : lv_has ls 4 [(0, .ref x), (1, .int p0), (2, .ref o)] := hl
  refine lv_aload_n hx hb d_La_feed_0 rfl (lv_at hl 2 rfl) ?_
  refine lv_iconst (v := 0) hx hb d_La_feed_1 (by decide) ?_
  refine lv_aload_n hx hb d_La_feed_2 rfl (lv_at hl 0 rfl) ?_
  refine lv_iload_n hx hb d_La_feed_3 rfl (lv_at hl 1 rfl) ?_
  refine ar_usei (wr := [wO E o fo]) hP hD hS hA [0, 1, 2, 3, 4, 5, 6, 7, 8, 9, 10, 11, 12, 13] [14] rfl rfl rfl (by decide) (ar_runV (n := 1) (As := [.int p0]) (rest := [.int 0, .ref o]) (ci := 4) (q0 := 0) hx hb hml hown hts hP hD hS hA hK hZ (c_X_feed l E _ x es eo ec ds dw dc h a1 a2 a3 he hd ak nx st p0 hok) m_471 m_472 m_473 m_1 m_474 (by decide +kernel) ⟨Nat.le_of_ble_eq_true rfl, Nat.le_of_ble_eq_true rfl⟩ [0, 1, 2, 3, 4, 5, 6, 7, 8, 9, 10, 11, 12, 13] rfl rfl rfl rfl rfl rfl rfl hl.1 rfl (Nat.le_of_ble_eq_true rfl) d_La_feed_4 ⟨Nat.le_of_ble_eq_true rfl, Nat.le_of_ble_eq_true rfl⟩) (fun r u Hn locsn hw hPn hDn hSn => ?_)
  clear hP hD hS
  have hP : va_P E.1 classes ([wO E o fo] ++ wX E x es eo ec ds dw dc h a1 a2 a3 he hd ak nx u) Hn := hPn
  have hD : va_D A ([wO E o fo] ++ wX E x es eo ec ds dw dc h a1 a2 a3 he hd ak nx u) := hDn
  have hS := hSn
  clear hPn hDn hSn
  refine lv_if_eq (tgt := 14) hx hb d_La_feed_7 (by decide) (fun c1 => ?_) (fun c1 => ?_)
  · have hbz := bI_z hw.1 c1
    refine lv_lconst (v := 0) hx hb d_La_feed_14 (by decide) ?_
    refine va_last (D := E.1) (x := 0) hx hb hK hP hD hS 0 2 rfl rfl (vp_in_nI (n := 0) (by decide) (by decide)) d_La_feed_15 (fun Hn locsn hPn hDn hSn => ?_)
    clear hP hD hS
    have hP : va_P E.1 classes ([wO E o (vp_updL fo 0 (0))] ++ wX E x es eo ec ds dw dc h a1 a2 a3 he hd ak nx u) Hn := hPn
    have hD : va_D A ([wO E o (vp_updL fo 0 (0))] ++ wX E x es eo ec ds dw dc h a1 a2 a3 he hd ak nx u) := hDn
    have hS := hSn
    clear hPn hDn hSn
    refine lv_goto (tgt := 25) hx hb d_La_feed_16 (by decide) ?_
    refine lv_iconst (v := 0) hx hb d_La_feed_25 (by decide) ?_
    replace hP := hP.sub (ws' := wX E x es eo ec ds dw dc h a1 a2 a3 he hd ak nx u ++ [wO E o (vp_updL fo 0 (0))]) [1, 2, 3, 4, 5, 6, 7, 8, 9, 10, 11, 12, 13, 14, 0] rfl
    replace hD := hD.sub (ws' := wX E x es eo ec ds dw dc h a1 a2 a3 he hd ak nx u ++ [wO E o (vp_updL fo 0 (0))]) [1, 2, 3, 4, 5, 6, 7, 8, 9, 10, 11, 12, 13, 14, 0] (by decide) rfl
    exact ar_iret hx hb hr hlocks hK hS (u, vp_updL fo 0 (0)) (by rw [hbz]; exact ⟨rfl, congrArg (fun q => (q, _)) hw.2⟩) hP hD d_La_feed_26
  · have hbz := bI_nz hw.1 c1
    refine lv_lconst (v := 1) hx hb d_La_feed_10 (by decide) ?_
    refine lv_goto (tgt := 15) hx hb d_La_feed_11 (by decide) ?_
    refine va_last (D := E.1) (x := 1) hx hb hK hP hD hS 0 2 rfl rfl (vp_in_nI (n := 0) (by decide) (by decide)) d_La_feed_15 (fun Hn locsn hPn hDn hSn => ?_)
    clear hP hD hS
    have hP : va_P E.1 classes ([wO E o (vp_updL fo 0 (1))] ++ wX E x es eo ec ds dw dc h a1 a2 a3 he hd ak nx u) Hn := hPn
    have hD : va_D A ([wO E o (vp_updL fo 0 (1))] ++ wX E x es eo ec ds dw dc h a1 a2 a3 he hd ak nx u) := hDn
    have hS := hSn
    clear hPn hDn hSn
    refine lv_goto (tgt := 25) hx hb d_La_feed_16 (by decide) ?_
    refine lv_iconst (v := 0) hx hb d_La_feed_25 (by decide) ?_
    replace hP := hP.sub (ws' := wX E x es eo ec ds dw dc h a1 a2 a3 he hd ak nx u ++ [wO E o (vp_updL fo 0 (1))]) [1, 2, 3, 4, 5, 6, 7, 8, 9, 10, 11, 12, 13, 14, 0] rfl
    replace hD := hD.sub (ws' := wX E x es eo ec ds dw dc h a1 a2 a3 he hd ak nx u ++ [wO E o (vp_updL fo 0 (1))]) [1, 2, 3, 4, 5, 6, 7, 8, 9, 10, 11, 12, 13, 14, 0] (by decide) rfl
    exact ar_iret hx hb hr hlocks hK hS (u, vp_updL fo 0 (1)) (by rw [hbz]; exact ⟨rfl, congrArg (fun q => (q, _)) hw.2⟩) hP hD d_La_feed_26
set_option maxHeartbeats 4000000 in
set_option maxRecDepth 100000 in
theorem c_La_feed_T1 (l : Launch) (hlt : l.stackTraces = false) (E : Ev) (A : Nat → Prop) (x es eo ec ds dw dc h a1 a2 a3 he hd ak nx o : Nat) (st : XS) (fo : Nat → Int64) (p0 : Int32) (hok : k_X_feed_T1 nx p0 st) :
    KtW l y_La_feed b_La_feed 4 (some .int) [(0, 16, 19, 15), (0, 16, 22, 17)] 8 1 6 E A [.ref x, .int p0, .ref o] (wX E x es eo ec ds dw dc h a1 a2 a3 he hd ak nx st ++ [wO E o fo]) (va_Qi (fun (r : Int32) (u : XS × (Nat → Int64)) => r = 1 ∧ u = (st, fo)) (ar_W E A (fun u : XS × (Nat → Int64) => wX E x es eo ec ds dw dc h a1 a2 a3 he hd ak nx u.1 ++ [wO E o u.2])) A) := by
  refine KtW.of (by decide) (Nat.le_of_ble_eq_true rfl) ?_
  intro p e s m below meth c ls hx hb hml hown hts hr hlocks hex hA hZ hP hK hD hl
  have hS : va_S A s.heap s.heap [] := va_S.rf
  have hl : lv_has ls 4 [(0, .ref x), (1, .int p0), (2, .ref o)] := hl
  refine lv_aload_n hx hb d_La_feed_0 rfl (lv_at hl 2 rfl) ?_
  refine lv_iconst (v := 0) hx hb d_La_feed_1 (by decide) ?_
  refine lv_aload_n hx hb d_La_feed_2 rfl (lv_at hl 0 rfl) ?_
  refine lv_iload_n hx hb d_La_feed_3 rfl (lv_at hl 1 rfl) ?_
  refine ar_thrV (n := 1) (As := [.int p0]) (rest := [.int 0, .ref o]) (wr := [wO E o fo]) (ci := 4) (q0 := 0) hx hb hml hown hts hP hD hS hA hK hZ (c_X_feed_T1 l hlt E _ x es eo ec ds dw dc h a1 a2 a3 he hd ak nx st p0 hok) m_471 m_472 m_473 m_1 m_474 (by decide +kernel) ⟨Nat.le_of_ble_eq_true rfl, Nat.le_of_ble_eq_true rfl⟩ [0, 1, 2, 3, 4, 5, 6, 7, 8, 9, 10, 11, 12, 13] [14] rfl rfl rfl rfl rfl (by decide) rfl rfl rfl rfl hl.1 rfl (Nat.le_of_ble_eq_true rfl) d_La_feed_4 ⟨Nat.le_of_ble_eq_true rfl, Nat.le_of_ble_eq_true rfl⟩ (fun qx cx Hn locsn hPn hDn hSn hce hcv hcc => ?_)
  clear hP hD hS
  have hP := hPn.sub (ws' := wX E x es eo ec ds dw dc h a1 a2 a3 he hd ak nx st ++ [wO E o fo]) [1, 2, 3, 4, 5, 6, 7, 8, 9, 10, 11, 12, 13, 14, 0] rfl
  have hD := hDn.sub (ws' := wX E x es eo ec ds dw dc h a1 a2 a3 he hd ak nx st ++ [wO E o fo]) [1, 2, 3, 4, 5, 6, 7, 8, 9, 10, 11, 12, 13, 14, 0] (by decide) rfl
  have hS := hSn
  clear hPn hDn hSn
  refine ar_catch (own := "ArithmeticRowsLaw") (name := "java/lang/IllegalStateException") (Ex := "java/lang/IllegalStateException") hown [] (ar_e (0, 16, 19, 15)) [ar_e (0, 16, 22, 17)] hex (fun z hz => absurd hz List.not_mem_nil) (by decide) (by decide) (hts _ m_300) (va_Nw.use rfl (hZ.2.2.2.2.2.2.1 1 (by decide))) hce hcv hcc ?_
  refine lv_astore_n (lv' := [(3, .ref qx), (0, .ref x), (1, .int p0), (2, .ref o)]) hx hb d_La_feed_19 rfl hl (by decide) rfl (fun ls hl => ?_)
  refine lv_iconst (v := 1) hx hb d_La_feed_20 (by decide) ?_
  exact ar_iret hx hb hr hlocks hK hS (st, fo) ⟨rfl, rfl⟩ hP hD d_La_feed_21
set_option maxHeartbeats 4000000 in
set_option maxRecDepth 100000 in
theorem c_La_feed_T2 (l : Launch) (hlt : l.stackTraces = false) (E : Ev) (A : Nat → Prop) (x es eo ec ds dw dc h a1 a2 a3 he hd ak nx o : Nat) (st : XS) (fo : Nat → Int64) (p0 : Int32) (hok : k_X_feed_T2 nx p0 st) :
    KtW l y_La_feed b_La_feed 4 (some .int) [(0, 16, 19, 15), (0, 16, 22, 17)] 8 1 6 E A [.ref x, .int p0, .ref o] (wX E x es eo ec ds dw dc h a1 a2 a3 he hd ak nx st ++ [wO E o fo]) (va_Qi (fun (r : Int32) (u : XS × (Nat → Int64)) => r = 2 ∧ u = (st, fo)) (ar_W E A (fun u : XS × (Nat → Int64) => wX E x es eo ec ds dw dc h a1 a2 a3 he hd ak nx u.1 ++ [wO E o u.2])) A) := by
  refine KtW.of (by decide) (Nat.le_of_ble_eq_true rfl) ?_
  intro p e s m below meth c ls hx hb hml hown hts hr hlocks hex hA hZ hP hK hD hl
  have hS : va_S A s.heap s.heap [] := va_S.rf
  have hl : lv_has ls 4 [(0, .ref x), (1, .int p0), (2, .ref o)] := hl
  refine lv_aload_n hx hb d_La_feed_0 rfl (lv_at hl 2 rfl) ?_
  refine lv_iconst (v := 0) hx hb d_La_feed_1 (by decide) ?_
  refine lv_aload_n hx hb d_La_feed_2 rfl (lv_at hl 0 rfl) ?_
  refine lv_iload_n hx hb d_La_feed_3 rfl (lv_at hl 1 rfl) ?_
  refine ar_thrV (n := 1) (As := [.int p0]) (rest := [.int 0, .ref o]) (wr := [wO E o fo]) (ci := 4) (q0 := 0) hx hb hml hown hts hP hD hS hA hK hZ (c_X_feed_T2 l hlt E _ x es eo ec ds dw dc h a1 a2 a3 he hd ak nx st p0 hok) m_471 m_472 m_473 m_1 m_474 (by decide +kernel) ⟨Nat.le_of_ble_eq_true rfl, Nat.le_of_ble_eq_true rfl⟩ [0, 1, 2, 3, 4, 5, 6, 7, 8, 9, 10, 11, 12, 13] [14] rfl rfl rfl rfl rfl (by decide) rfl rfl rfl rfl hl.1 rfl (Nat.le_of_ble_eq_true rfl) d_La_feed_4 ⟨Nat.le_of_ble_eq_true rfl, Nat.le_of_ble_eq_true rfl⟩ (fun qx cx Hn locsn hPn hDn hSn hce hcv hcc => ?_)
  clear hP hD hS
  have hP := hPn.sub (ws' := wX E x es eo ec ds dw dc h a1 a2 a3 he hd ak nx st ++ [wO E o fo]) [1, 2, 3, 4, 5, 6, 7, 8, 9, 10, 11, 12, 13, 14, 0] rfl
  have hD := hDn.sub (ws' := wX E x es eo ec ds dw dc h a1 a2 a3 he hd ak nx st ++ [wO E o fo]) [1, 2, 3, 4, 5, 6, 7, 8, 9, 10, 11, 12, 13, 14, 0] (by decide) rfl
  have hS := hSn
  clear hPn hDn hSn
  refine ar_catch (own := "ArithmeticRowsLaw") (name := "java/lang/IllegalArgumentException") (Ex := "java/lang/IllegalArgumentException") hown [ar_e (0, 16, 19, 15)] (ar_e (0, 16, 22, 17)) [] hex (List.forall_mem_cons.mpr ⟨Or.inr ⟨by decide, "java/lang/IllegalStateException", hts _ m_300, hZ.2.2.2.2.2.2.2.2.2 2 1 (by decide) (by decide) (by decide)⟩, fun _ hz => absurd hz List.not_mem_nil⟩) (by decide) (by decide) (hts _ m_301) (va_Nw.use rfl (hZ.2.2.2.2.2.2.1 2 (by decide))) hce hcv hcc ?_
  refine lv_astore_n (lv' := [(3, .ref qx), (0, .ref x), (1, .int p0), (2, .ref o)]) hx hb d_La_feed_22 rfl hl (by decide) rfl (fun ls hl => ?_)
  refine lv_iconst (v := 2) hx hb d_La_feed_23 (by decide) ?_
  exact ar_iret hx hb hr hlocks hK hS (st, fo) ⟨rfl, rfl⟩ hP hD d_La_feed_24
set_option maxHeartbeats 4000000 in
set_option maxRecDepth 100000 in
theorem c_La_decode (l : Launch) (E : Ev) (A : Nat → Prop) (x es eo ec ds dw dc h a1 a2 a3 he hd ak nx o : Nat) (st : XS) (fo : Nat → Int64) (p0 : Int32) (hok : k_X_decode nx p0 st) :
    KtW l y_La_decode b_La_decode 4 (some .int) [(0, 9, 12, 13), (0, 9, 15, 15)] 6 0 0 E A [.ref x, .int p0, .ref o] (wX E x es eo ec ds dw dc h a1 a2 a3 he hd ak nx st ++ [wO E o fo]) (va_Qi (fun (r : Int32) (u : XS × (Nat → Int64)) => r = 0 ∧ u = ((f_X_decode nx p0 st).2, vp_updL fo 0 (Int32.toInt64 (f_X_decode nx p0 st).1))) (ar_W E A (fun u : XS × (Nat → Int64) => wX E x es eo ec ds dw dc h a1 a2 a3 he hd ak nx u.1 ++ [wO E o u.2])) A) := by
  refine KtW.of (by decide) (Nat.le_of_ble_eq_true rfl) ?_
  intro p e s m below meth c ls hx hb hml hown hts hr hlocks hex hA hZ hP hK hD hl
  have hS : va_S A s.heap s.heap [] := va_S.rf
  have hl : lv_has ls 4 [(0, .ref x), (1, .int p0), (2, .ref o)] := hl
  refine lv_aload_n hx hb d_La_decode_0 rfl (lv_at hl 2 rfl) ?_
  refine lv_iconst (v := 0) hx hb d_La_decode_1 (by decide) ?_
  refine lv_aload_n hx hb d_La_decode_2 rfl (lv_at hl 0 rfl) ?_
  refine lv_iload_n hx hb d_La_decode_3 rfl (lv_at hl 1 rfl) ?_
  refine ar_usei (wr := [wO E o fo]) hP hD hS hA [0, 1, 2, 3, 4, 5, 6, 7, 8, 9, 10, 11, 12, 13] [14] rfl rfl rfl (by decide) (ar_runV (n := 1) (As := [.int p0]) (rest := [.int 0, .ref o]) (ci := 4) (q0 := 0) hx hb hml hown hts hP hD hS hA hK hZ (c_X_decode l E _ x es eo ec ds dw dc h a1 a2 a3 he hd ak nx st p0 hok) m_485 m_486 m_487 m_1 m_488 (by decide +kernel) ⟨Nat.le_of_ble_eq_true rfl, Nat.le_of_ble_eq_true rfl⟩ [0, 1, 2, 3, 4, 5, 6, 7, 8, 9, 10, 11, 12, 13] rfl rfl rfl rfl rfl rfl rfl hl.1 rfl (Nat.le_of_ble_eq_true rfl) d_La_decode_4 ⟨Nat.le_of_ble_eq_true rfl, Nat.le_of_ble_eq_true rfl⟩) (fun r u Hn locsn hw hPn hDn hSn => ?_)
  clear hP hD hS
  have hP : va_P E.1 classes ([wO E o fo] ++ wX E x es eo ec ds dw dc h a1 a2 a3 he hd ak nx u) Hn := hPn
  have hD : va_D A ([wO E o fo] ++ wX E x es eo ec ds dw dc h a1 a2 a3 he hd ak nx u) := hDn
  have hS := hSn
  clear hPn hDn hSn
  refine lv_i2l (v := Int32.toInt64 r) hx hb d_La_decode_7 rfl ?_
  refine va_last (D := E.1) (x := Int32.toInt64 r) hx hb hK hP hD hS 0 2 rfl rfl (vp_in_nI (n := 0) (by decide) (by decide)) d_La_decode_8 (fun Hn locsn hPn hDn hSn => ?_)
  clear hP hD hS
  have hP : va_P E.1 classes ([wO E o (vp_updL fo 0 (Int32.toInt64 r))] ++ wX E x es eo ec ds dw dc h a1 a2 a3 he hd ak nx u) Hn := hPn
  have hD : va_D A ([wO E o (vp_updL fo 0 (Int32.toInt64 r))] ++ wX E x es eo ec ds dw dc h a1 a2 a3 he hd ak nx u) := hDn
  have hS := hSn
  clear hPn hDn hSn
  refine lv_goto (tgt := 18) hx hb d_La_decode_9 (by decide) ?_
  refine lv_iconst (v := 0) hx hb d_La_decode_18 (by decide) ?_
  replace hP := hP.sub (ws' := wX E x es eo ec ds dw dc h a1 a2 a3 he hd ak nx u ++ [wO E o (vp_updL fo 0 (Int32.toInt64 r))]) [1, 2, 3, 4, 5, 6, 7, 8, 9, 10, 11, 12, 13, 14, 0] rfl
  replace hD := hD.sub (ws' := wX E x es eo ec ds dw dc h a1 a2 a3 he hd ak nx u ++ [wO E o (vp_updL fo 0 (Int32.toInt64 r))]) [1, 2, 3, 4, 5, 6, 7, 8, 9, 10, 11, 12, 13, 14, 0] (by decide) rfl
  exact ar_iret hx hb hr hlocks hK hS (u, vp_updL fo 0 (Int32.toInt64 r)) (by rw [← hw.1, ← hw.2]; exact ⟨rfl, rfl⟩) hP hD d_La_decode_19
set_option maxHeartbeats 4000000 in
set_option maxRecDepth 100000 in
theorem c_La_decode_T0 (l : Launch) (hlt : l.stackTraces = false) (E : Ev) (A : Nat → Prop) (x es eo ec ds dw dc h a1 a2 a3 he hd ak nx o : Nat) (st : XS) (fo : Nat → Int64) (p0 : Int32) (hok : k_X_decode_T0 nx p0 st) :
    KtW l y_La_decode b_La_decode 4 (some .int) [(0, 9, 12, 13), (0, 9, 15, 15)] 8 1 6 E A [.ref x, .int p0, .ref o] (wX E x es eo ec ds dw dc h a1 a2 a3 he hd ak nx st ++ [wO E o fo]) (va_Qi (fun (r : Int32) (u : XS × (Nat → Int64)) => r = 1 ∧ u = (st, fo)) (ar_W E A (fun u : XS × (Nat → Int64) => wX E x es eo ec ds dw dc h a1 a2 a3 he hd ak nx u.1 ++ [wO E o u.2])) A) := by
  refine KtW.of (by decide) (Nat.le_of_ble_eq_true rfl) ?_
  intro p e s m below meth c ls hx hb hml hown hts hr hlocks hex hA hZ hP hK hD hl
  have hS : va_S A s.heap s.heap [] := va_S.rf
  have hl : lv_has ls 4 [(0, .ref x), (1, .int p0), (2, .ref o)] := hl
  refine lv_aload_n hx hb d_La_decode_0 rfl (lv_at hl 2 rfl) ?_
  refine lv_iconst (v := 0) hx hb d_La_decode_1 (by decide) ?_
  refine lv_aload_n hx hb d_La_decode_2 rfl (lv_at hl 0 rfl) ?_
  refine lv_iload_n hx hb d_La_decode_3 rfl (lv_at hl 1 rfl) ?_
  refine ar_thrV (n := 1) (As := [.int p0]) (rest := [.int 0, .ref o]) (wr := [wO E o fo]) (ci := 4) (q0 := 0) hx hb hml hown hts hP hD hS hA hK hZ (c_X_decode_T0 l hlt E _ x es eo ec ds dw dc h a1 a2 a3 he hd ak nx st p0 hok) m_485 m_486 m_487 m_1 m_488 (by decide +kernel) ⟨Nat.le_of_ble_eq_true rfl, Nat.le_of_ble_eq_true rfl⟩ [0, 1, 2, 3, 4, 5, 6, 7, 8, 9, 10, 11, 12, 13] [14] rfl rfl rfl rfl rfl (by decide) rfl rfl rfl rfl hl.1 rfl (Nat.le_of_ble_eq_true rfl) d_La_decode_4 ⟨Nat.le_of_ble_eq_true rfl, Nat.le_of_ble_eq_true rfl⟩ (fun qx cx Hn locsn hPn hDn hSn hce hcv hcc => ?_)
  clear hP hD hS
  have hP := hPn.sub (ws' := wX E x es eo ec ds dw dc h a1 a2 a3 he hd ak nx st ++ [wO E o fo]) [1, 2, 3, 4, 5, 6, 7, 8, 9, 10, 11, 12, 13, 14, 0] rfl
  have hD := hDn.sub (ws' := wX E x es eo ec ds dw dc h a1 a2 a3 he hd ak nx st ++ [wO E o fo]) [1, 2, 3, 4, 5, 6, 7, 8, 9, 10, 11, 12, 13, 14, 0] (by decide) rfl
  have hS := hSn
  clear hPn hDn hSn
  refine ar_catch (own := "ArithmeticRowsLaw") (name := "java/lang/IndexOutOfBoundsException") (Ex := "java/lang/IndexOutOfBoundsException") hown [] (ar_e (0, 9, 12, 13)) [ar_e (0, 9, 15, 15)] hex (fun z hz => absurd hz List.not_mem_nil) (by decide) (by decide) (hts _ m_299) (va_Nw.use rfl (hZ.2.2.2.2.2.2.1 0 (by decide))) hce hcv hcc ?_
  refine lv_astore_n (lv' := [(3, .ref qx), (0, .ref x), (1, .int p0), (2, .ref o)]) hx hb d_La_decode_12 rfl hl (by decide) rfl (fun ls hl => ?_)
  refine lv_iconst (v := 1) hx hb d_La_decode_13 (by decide) ?_
  exact ar_iret hx hb hr hlocks hK hS (st, fo) ⟨rfl, rfl⟩ hP hD d_La_decode_14
set_option maxHeartbeats 4000000 in
set_option maxRecDepth 100000 in
theorem c_La_decode_T1 (l : Launch) (hlt : l.stackTraces = false) (E : Ev) (A : Nat → Prop) (x es eo ec ds dw dc h a1 a2 a3 he hd ak nx o : Nat) (st : XS) (fo : Nat → Int64) (p0 : Int32) (hok : k_X_decode_T1 nx p0 st) :
    KtW l y_La_decode b_La_decode 4 (some .int) [(0, 9, 12, 13), (0, 9, 15, 15)] 8 1 6 E A [.ref x, .int p0, .ref o] (wX E x es eo ec ds dw dc h a1 a2 a3 he hd ak nx st ++ [wO E o fo]) (va_Qi (fun (r : Int32) (u : XS × (Nat → Int64)) => r = 2 ∧ u = (st, fo)) (ar_W E A (fun u : XS × (Nat → Int64) => wX E x es eo ec ds dw dc h a1 a2 a3 he hd ak nx u.1 ++ [wO E o u.2])) A) := by
  refine KtW.of (by decide) (Nat.le_of_ble_eq_true rfl) ?_
  intro p e s m below meth c ls hx hb hml hown hts hr hlocks hex hA hZ hP hK hD hl
  have hS : va_S A s.heap s.heap [] := va_S.rf
  have hl : lv_has ls 4 [(0, .ref x), (1, .int p0), (2, .ref o)] := hl
  refine lv_aload_n hx hb d_La_decode_0 rfl (lv_at hl 2 rfl) ?_
  refine lv_iconst (v := 0) hx hb d_La_decode_1 (by decide) ?_
  refine lv_aload_n hx hb d_La_decode_2 rfl (lv_at hl 0 rfl) ?_
  refine lv_iload_n hx hb d_La_decode_3 rfl (lv_at hl 1 rfl) ?_
  refine ar_thrV (n := 1) (As := [.int p0]) (rest := [.int 0, .ref o]) (wr := [wO E o fo]) (ci := 4) (q0 := 0) hx hb hml hown hts hP hD hS hA hK hZ (c_X_decode_T1 l hlt E _ x es eo ec ds dw dc h a1 a2 a3 he hd ak nx st p0 hok) m_485 m_486 m_487 m_1 m_488 (by decide +kernel) ⟨Nat.le_of_ble_eq_true rfl, Nat.le_of_ble_eq_true rfl⟩ [0, 1, 2, 3, 4, 5, 6, 7, 8, 9, 10, 11, 12, 13] [14] rfl rfl rfl rfl rfl (by decide) rfl rfl rfl rfl hl.1 rfl (Nat.le_of_ble_eq_true rfl) d_La_decode_4 ⟨Nat.le_of_ble_eq_true rfl, Nat.le_of_ble_eq_true rfl⟩ (fun qx cx Hn locsn hPn hDn hSn hce hcv hcc => ?_)
  clear hP hD hS
  have hP := hPn.sub (ws' := wX E x es eo ec ds dw dc h a1 a2 a3 he hd ak nx st ++ [wO E o fo]) [1, 2, 3, 4, 5, 6, 7, 8, 9, 10, 11, 12, 13, 14, 0] rfl
  have hD := hDn.sub (ws' := wX E x es eo ec ds dw dc h a1 a2 a3 he hd ak nx st ++ [wO E o fo]) [1, 2, 3, 4, 5, 6, 7, 8, 9, 10, 11, 12, 13, 14, 0] (by decide) rfl
  have hS := hSn
  clear hPn hDn hSn
  refine ar_catch (own := "ArithmeticRowsLaw") (name := "java/lang/IllegalStateException") (Ex := "java/lang/IllegalStateException") hown [ar_e (0, 9, 12, 13)] (ar_e (0, 9, 15, 15)) [] hex (List.forall_mem_cons.mpr ⟨Or.inr ⟨by decide, "java/lang/IndexOutOfBoundsException", hts _ m_299, hZ.2.2.2.2.2.2.2.2.2 1 0 (by decide) (by decide) (by decide)⟩, fun _ hz => absurd hz List.not_mem_nil⟩) (by decide) (by decide) (hts _ m_300) (va_Nw.use rfl (hZ.2.2.2.2.2.2.1 1 (by decide))) hce hcv hcc ?_
  refine lv_astore_n (lv' := [(3, .ref qx), (0, .ref x), (1, .int p0), (2, .ref o)]) hx hb d_La_decode_15 rfl hl (by decide) rfl (fun ls hl => ?_)
  refine lv_iconst (v := 2) hx hb d_La_decode_16 (by decide) ?_
  exact ar_iret hx hb hr hlocks hK hS (st, fo) ⟨rfl, rfl⟩ hP hD d_La_decode_17
set_option maxHeartbeats 4000000 in
set_option maxRecDepth 100000 in
theorem c_La_state (l : Launch) (E : Ev) (A : Nat → Prop) (x es eo ec ds dw dc h a1 a2 a3 he hd ak nx o : Nat) (st : XS) (fo : Nat → Int64) (p0 : Int32) (p1 : Int32) (hok : k_X_state nx p0 p1 st) :
    KtW l y_La_state b_La_state 5 (some .int) [(0, 10, 13, 13)] 2 0 0 E A [.ref x, .int p0, .int p1, .ref o] (wX E x es eo ec ds dw dc h a1 a2 a3 he hd ak nx st ++ [wO E o fo]) (va_Qi (fun (r : Int32) (u : XS × (Nat → Int64)) => r = 0 ∧ u = (st, vp_updL fo 0 (Int32.toInt64 (f_X_state nx p0 p1 st)))) (ar_W E A (fun u : XS × (Nat → Int64) => wX E x es eo ec ds dw dc h a1 a2 a3 he hd ak nx u.1 ++ [wO E o u.2])) A) := by
  refine KtW.of (by decide) (Nat.le_of_ble_eq_true rfl) ?_
  intro p e s m below meth c ls hx hb hml hown hts hr hlocks hex hA hZ hP hK hD hl
  have hS : va_S A s.heap s.heap [] := va_S.rf
  have hl : lv_has ls 5 [(0, .ref x), (1, .int p0), (2, .int p1), (3, .ref o)] := hl
  refine lv_aload_n hx hb d_La_state_0 rfl (lv_at hl 3 rfl) ?_
  refine lv_iconst (v := 0) hx hb d_La_state_1 (by decide) ?_
  refine lv_aload_n hx hb d_La_state_2 rfl (lv_at hl 0 rfl) ?_
  refine lv_iload_n hx hb d_La_state_3 rfl (lv_at hl 1 rfl) ?_
  refine lv_iload_n hx hb d_La_state_4 rfl (lv_at hl 2 rfl) ?_
  refine ar_usei (wr := [wO E o fo]) hP hD hS hA [0, 1, 2, 3, 4, 5, 6, 7, 8, 9, 10, 11, 12, 13] [14] rfl rfl rfl (by decide) (ar_runV (n := 2) (As := [.int p0, .int p1]) (rest := [.int 0, .ref o]) (ci := 4) (q0 := 0) hx hb hml hown hts hP hD hS hA hK hZ (c_X_state l E _ x es eo ec ds dw dc h a1 a2 a3 he hd ak nx st p0 p1 hok) m_536 m_537 m_538 m_1 m_539 (by decide +kernel) ⟨Nat.le_of_ble_eq_true rfl, Nat.le_of_ble_eq_true rfl⟩ [0, 1, 2, 3, 4, 5, 6, 7, 8, 9, 10, 11, 12, 13] rfl rfl rfl rfl rfl rfl rfl hl.1 rfl (Nat.le_of_ble_eq_true rfl) d_La_state_5 ⟨Nat.le_of_ble_eq_true rfl, Nat.le_of_ble_eq_true rfl⟩) (fun r u Hn locsn hw hPn hDn hSn => ?_)
  clear hP hD hS
  have hP : va_P E.1 classes ([wO E o fo] ++ wX E x es eo ec ds dw dc h a1 a2 a3 he hd ak nx st) Hn := hPn
  have hD : va_D A ([wO E o fo] ++ wX E x es eo ec ds dw dc h a1 a2 a3 he hd ak nx st) := hDn
  have hS := hSn
  clear hPn hDn hSn
  refine lv_i2l (v := Int32.toInt64 r) hx hb d_La_state_8 rfl ?_
  refine va_last (D := E.1) (x := Int32.toInt64 r) hx hb hK hP hD hS 0 2 rfl rfl (vp_in_nI (n := 0) (by decide) (by decide)) d_La_state_9 (fun Hn locsn hPn hDn hSn => ?_)
  clear hP hD hS
  have hP : va_P E.1 classes ([wO E o (vp_updL fo 0 (Int32.toInt64 r))] ++ wX E x es eo ec ds dw dc h a1 a2 a3 he hd ak nx st) Hn := hPn
  have hD : va_D A ([wO E o (vp_updL fo 0 (Int32.toInt64 r))] ++ wX E x es eo ec ds dw dc h a1 a2 a3 he hd ak nx st) := hDn
  have hS := hSn
  clear hPn hDn hSn
  refine lv_goto (tgt := 17) hx hb d_La_state_10 (by decide) ?_
  refine lv_iconst (v := 0) hx hb d_La_state_17 (by decide) ?_
  replace hP := hP.sub (ws' := wX E x es eo ec ds dw dc h a1 a2 a3 he hd ak nx st ++ [wO E o (vp_updL fo 0 (Int32.toInt64 r))]) [1, 2, 3, 4, 5, 6, 7, 8, 9, 10, 11, 12, 13, 14, 0] rfl
  replace hD := hD.sub (ws' := wX E x es eo ec ds dw dc h a1 a2 a3 he hd ak nx st ++ [wO E o (vp_updL fo 0 (Int32.toInt64 r))]) [1, 2, 3, 4, 5, 6, 7, 8, 9, 10, 11, 12, 13, 14, 0] (by decide) rfl
  exact ar_iret hx hb hr hlocks hK hS (st, vp_updL fo 0 (Int32.toInt64 r)) (by rw [← hw]; exact ⟨rfl, rfl⟩) hP hD d_La_state_18
set_option maxHeartbeats 4000000 in
set_option maxRecDepth 100000 in
theorem c_La_state_T0 (l : Launch) (hlt : l.stackTraces = false) (E : Ev) (A : Nat → Prop) (x es eo ec ds dw dc h a1 a2 a3 he hd ak nx o : Nat) (st : XS) (fo : Nat → Int64) (p0 : Int32) (p1 : Int32) (hok : k_X_state_T0 nx p0 p1 st) :
    KtW l y_La_state b_La_state 5 (some .int) [(0, 10, 13, 13)] 8 1 6 E A [.ref x, .int p0, .int p1, .ref o] (wX E x es eo ec ds dw dc h a1 a2 a3 he hd ak nx st ++ [wO E o fo]) (va_Qi (fun (r : Int32) (u : XS × (Nat → Int64)) => r = 1 ∧ u = (st, fo)) (ar_W E A (fun u : XS × (Nat → Int64) => wX E x es eo ec ds dw dc h a1 a2 a3 he hd ak nx u.1 ++ [wO E o u.2])) A) := by
  refine KtW.of (by decide) (Nat.le_of_ble_eq_true rfl) ?_
  intro p e s m below meth c ls hx hb hml hown hts hr hlocks hex hA hZ hP hK hD hl
  have hS : va_S A s.heap s.heap [] := va_S.rf
  have hl : lv_has ls 5 [(0, .ref x), (1, .int p0), (2, .int p1), (3, .ref o)] := hl
  refine lv_aload_n hx hb d_La_state_0 rfl (lv_at hl 3 rfl) ?_
  refine lv_iconst (v := 0) hx hb d_La_state_1 (by decide) ?_
  refine lv_aload_n hx hb d_La_state_2 rfl (lv_at hl 0 rfl) ?_
  refine lv_iload_n hx hb d_La_state_3 rfl (lv_at hl 1 rfl) ?_
  refine lv_iload_n hx hb d_La_state_4 rfl (lv_at hl 2 rfl) ?_
  refine ar_thrV (n := 2) (As := [.int p0, .int p1]) (rest := [.int 0, .ref o]) (wr := [wO E o fo]) (ci := 4) (q0 := 0) hx hb hml hown hts hP hD hS hA hK hZ (c_X_state_T0 l hlt E _ x es eo ec ds dw dc h a1 a2 a3 he hd ak nx st p0 p1 hok) m_536 m_537 m_538 m_1 m_539 (by decide +kernel) ⟨Nat.le_of_ble_eq_true rfl, Nat.le_of_ble_eq_true rfl⟩ [0, 1, 2, 3, 4, 5, 6, 7, 8, 9, 10, 11, 12, 13] [14] rfl rfl rfl rfl rfl (by decide) rfl rfl rfl rfl hl.1 rfl (Nat.le_of_ble_eq_true rfl) d_La_state_5 ⟨Nat.le_of_ble_eq_true rfl, Nat.le_of_ble_eq_true rfl⟩ (fun qx cx Hn locsn hPn hDn hSn hce hcv hcc => ?_)
  clear hP hD hS
  have hP := hPn.sub (ws' := wX E x es eo ec ds dw dc h a1 a2 a3 he hd ak nx st ++ [wO E o fo]) [1, 2, 3, 4, 5, 6, 7, 8, 9, 10, 11, 12, 13, 14, 0] rfl
  have hD := hDn.sub (ws' := wX E x es eo ec ds dw dc h a1 a2 a3 he hd ak nx st ++ [wO E o fo]) [1, 2, 3, 4, 5, 6, 7, 8, 9, 10, 11, 12, 13, 14, 0] (by decide) rfl
  have hS := hSn
  clear hPn hDn hSn
  refine ar_catch (own := "ArithmeticRowsLaw") (name := "java/lang/IndexOutOfBoundsException") (Ex := "java/lang/IndexOutOfBoundsException") hown [] (ar_e (0, 10, 13, 13)) [] hex (fun z hz => absurd hz List.not_mem_nil) (by decide) (by decide) (hts _ m_299) (va_Nw.use rfl (hZ.2.2.2.2.2.2.1 0 (by decide))) hce hcv hcc ?_
  refine lv_astore (lv' := [(4, .ref qx), (0, .ref x), (1, .int p0), (2, .int p1), (3, .ref o)]) hx hb d_La_state_13 hl (by decide) rfl (fun ls hl => ?_)
  refine lv_iconst (v := 1) hx hb d_La_state_15 (by decide) ?_
  exact ar_iret hx hb hr hlocks hK hS (st, fo) ⟨rfl, rfl⟩ hP hD d_La_state_16
set_option maxHeartbeats 4000000 in
set_option maxRecDepth 100000 in
theorem c_La_whole (l : Launch) (E : Ev) (A : Nat → Prop) (x es eo ec ds dw dc h a1 a2 a3 he hd ak nx o : Nat) (st : XS) (fo : Nat → Int64) (p0 : Int32) (p1 : Int32) (hok : k_X_whole nx p0 p1 st) :
    KtW l y_La_whole b_La_whole 5 (some .int) [(0, 10, 13, 13), (0, 10, 17, 15)] 7 0 0 E A [.ref x, .int p0, .int p1, .ref o] (wX E x es eo ec ds dw dc h a1 a2 a3 he hd ak nx st ++ [wO E o fo]) (va_Qi (fun (r : Int32) (u : XS × (Nat → Int64)) => r = 0 ∧ u = ((f_X_whole nx p0 p1 st).2, vp_updL fo 0 (Int32.toInt64 (f_X_whole nx p0 p1 st).1))) (ar_W E A (fun u : XS × (Nat → Int64) => wX E x es eo ec ds dw dc h a1 a2 a3 he hd ak nx u.1 ++ [wO E o u.2])) A) := by
  refine KtW.of (by decide) (Nat.le_of_ble_eq_true rfl) ?_
  intro p e s m below meth c ls hx hb hml hown hts hr hlocks hex hA hZ hP hK hD hl
  have hS : va_S A s.heap s.heap [] := va_S.rf
  have hl : lv_has ls 5 [(0, .ref x), (1, .int p0), (2, .int p1), (3, .ref o)] := hl
  refine lv_aload_n hx hb d_La_whole_0 rfl (lv_at hl 3 rfl) ?_
  refine lv_iconst (v := 0) hx hb d_La_whole_1 (by decide) ?_
  refine lv_aload_n hx hb d_La_whole_2 rfl (lv_at hl 0 rfl) ?_
  refine lv_iload_n hx hb d_La_whole_3 rfl (lv_at hl 1 rfl) ?_
  refine lv_iload_n hx hb d_La_whole_4 rfl (lv_at hl 2 rfl) ?_
  refine ar_usei (wr := [wO E o fo]) hP hD hS hA [0, 1, 2, 3, 4, 5, 6, 7, 8, 9, 10, 11, 12, 13] [14] rfl rfl rfl (by decide) (ar_runV (n := 2) (As := [.int p0, .int p1]) (rest := [.int 0, .ref o]) (ci := 4) (q0 := 0) hx hb hml hown hts hP hD hS hA hK hZ (c_X_whole l E _ x es eo ec ds dw dc h a1 a2 a3 he hd ak nx st p0 p1 hok) m_545 m_546 m_547 m_1 m_548 (by decide +kernel) ⟨Nat.le_of_ble_eq_true rfl, Nat.le_of_ble_eq_true rfl⟩ [0, 1, 2, 3, 4, 5, 6, 7, 8, 9, 10, 11, 12, 13] rfl rfl rfl rfl rfl rfl rfl hl.1 rfl (Nat.le_of_ble_eq_true rfl) d_La_whole_5 ⟨Nat.le_of_ble_eq_true rfl, Nat.le_of_ble_eq_true rfl⟩) (fun r u Hn locsn hw hPn hDn hSn => ?_)
  clear hP hD hS
  have hP : va_P E.1 classes ([wO E o fo] ++ wX E x es eo ec ds dw dc h a1 a2 a3 he hd ak nx u) Hn := hPn
  have hD : va_D A ([wO E o fo] ++ wX E x es eo ec ds dw dc h a1 a2 a3 he hd ak nx u) := hDn
  have hS := hSn
  clear hPn hDn hSn
  refine lv_i2l (v := Int32.toInt64 r) hx hb d_La_whole_8 rfl ?_
  refine va_last (D := E.1) (x := Int32.toInt64 r) hx hb hK hP hD hS 0 2 rfl rfl (vp_in_nI (n := 0) (by decide) (by decide)) d_La_whole_9 (fun Hn locsn hPn hDn hSn => ?_)
  clear hP hD hS
  have hP : va_P E.1 classes ([wO E o (vp_updL fo 0 (Int32.toInt64 r))] ++ wX E x es eo ec ds dw dc h a1 a2 a3 he hd ak nx u) Hn := hPn
  have hD : va_D A ([wO E o (vp_updL fo 0 (Int32.toInt64 r))] ++ wX E x es eo ec ds dw dc h a1 a2 a3 he hd ak nx u) := hDn
  have hS := hSn
  clear hPn hDn hSn
  refine lv_goto (tgt := 21) hx hb d_La_whole_10 (by decide) ?_
  refine lv_iconst (v := 0) hx hb d_La_whole_21 (by decide) ?_
  replace hP := hP.sub (ws' := wX E x es eo ec ds dw dc h a1 a2 a3 he hd ak nx u ++ [wO E o (vp_updL fo 0 (Int32.toInt64 r))]) [1, 2, 3, 4, 5, 6, 7, 8, 9, 10, 11, 12, 13, 14, 0] rfl
  replace hD := hD.sub (ws' := wX E x es eo ec ds dw dc h a1 a2 a3 he hd ak nx u ++ [wO E o (vp_updL fo 0 (Int32.toInt64 r))]) [1, 2, 3, 4, 5, 6, 7, 8, 9, 10, 11, 12, 13, 14, 0] (by decide) rfl
  exact ar_iret hx hb hr hlocks hK hS (u, vp_updL fo 0 (Int32.toInt64 r)) (by rw [← hw.1, ← hw.2]; exact ⟨rfl, rfl⟩) hP hD d_La_whole_22
set_option maxHeartbeats 4000000 in
set_option maxRecDepth 100000 in
theorem c_La_whole_T0 (l : Launch) (hlt : l.stackTraces = false) (E : Ev) (A : Nat → Prop) (x es eo ec ds dw dc h a1 a2 a3 he hd ak nx o : Nat) (st : XS) (fo : Nat → Int64) (p0 : Int32) (p1 : Int32) (hok : k_X_whole_T0 nx p0 p1 st) :
    KtW l y_La_whole b_La_whole 5 (some .int) [(0, 10, 13, 13), (0, 10, 17, 15)] 8 1 6 E A [.ref x, .int p0, .int p1, .ref o] (wX E x es eo ec ds dw dc h a1 a2 a3 he hd ak nx st ++ [wO E o fo]) (va_Qi (fun (r : Int32) (u : XS × (Nat → Int64)) => r = 1 ∧ u = (st, fo)) (ar_W E A (fun u : XS × (Nat → Int64) => wX E x es eo ec ds dw dc h a1 a2 a3 he hd ak nx u.1 ++ [wO E o u.2])) A) := by
  refine KtW.of (by decide) (Nat.le_of_ble_eq_true rfl) ?_
  intro p e s m below meth c ls hx hb hml hown hts hr hlocks hex hA hZ hP hK hD hl
  have hS : va_S A s.heap s.heap [] := va_S.rf
  have hl : lv_has ls 5 [(0, .ref x), (1, .int p0), (2, .int p1), (3, .ref o)] := hl
  refine lv_aload_n hx hb d_La_whole_0 rfl (lv_at hl 3 rfl) ?_
  refine lv_iconst (v := 0) hx hb d_La_whole_1 (by decide) ?_
  refine lv_aload_n hx hb d_La_whole_2 rfl (lv_at hl 0 rfl) ?_
  refine lv_iload_n hx hb d_La_whole_3 rfl (lv_at hl 1 rfl) ?_
  refine lv_iload_n hx hb d_La_whole_4 rfl (lv_at hl 2 rfl) ?_
  refine ar_thrV (n := 2) (As := [.int p0, .int p1]) (rest := [.int 0, .ref o]) (wr := [wO E o fo]) (ci := 4) (q0 := 0) hx hb hml hown hts hP hD hS hA hK hZ (c_X_whole_T0 l hlt E _ x es eo ec ds dw dc h a1 a2 a3 he hd ak nx st p0 p1 hok) m_545 m_546 m_547 m_1 m_548 (by decide +kernel) ⟨Nat.le_of_ble_eq_true rfl, Nat.le_of_ble_eq_true rfl⟩ [0, 1, 2, 3, 4, 5, 6, 7, 8, 9, 10, 11, 12, 13] [14] rfl rfl rfl rfl rfl (by decide) rfl rfl rfl rfl hl.1 rfl (Nat.le_of_ble_eq_true rfl) d_La_whole_5 ⟨Nat.le_of_ble_eq_true rfl, Nat.le_of_ble_eq_true rfl⟩ (fun qx cx Hn locsn hPn hDn hSn hce hcv hcc => ?_)
  clear hP hD hS
  have hP := hPn.sub (ws' := wX E x es eo ec ds dw dc h a1 a2 a3 he hd ak nx st ++ [wO E o fo]) [1, 2, 3, 4, 5, 6, 7, 8, 9, 10, 11, 12, 13, 14, 0] rfl
  have hD := hDn.sub (ws' := wX E x es eo ec ds dw dc h a1 a2 a3 he hd ak nx st ++ [wO E o fo]) [1, 2, 3, 4, 5, 6, 7, 8, 9, 10, 11, 12, 13, 14, 0] (by decide) rfl
  have hS := hSn
  clear hPn hDn hSn
  refine ar_catch (own := "ArithmeticRowsLaw") (name := "java/lang/IndexOutOfBoundsException") (Ex := "java/lang/IndexOutOfBoundsException") hown [] (ar_e (0, 10, 13, 13)) [ar_e (0, 10, 17, 15)] hex (fun z hz => absurd hz List.not_mem_nil) (by decide) (by decide) (hts _ m_299) (va_Nw.use rfl (hZ.2.2.2.2.2.2.1 0 (by decide))) hce hcv hcc ?_
  refine lv_astore (lv' := [(4, .ref qx), (0, .ref x), (1, .int p0), (2, .int p1), (3, .ref o)]) hx hb d_La_whole_13 hl (by decide) rfl (fun ls hl => ?_)
  refine lv_iconst (v := 1) hx hb d_La_whole_15 (by decide) ?_
  exact ar_iret hx hb hr hlocks hK hS (st, fo) ⟨rfl, rfl⟩ hP hD d_La_whole_16
set_option maxHeartbeats 4000000 in
set_option maxRecDepth 100000 in
theorem c_La_whole_T1 (l : Launch) (hlt : l.stackTraces = false) (E : Ev) (A : Nat → Prop) (x es eo ec ds dw dc h a1 a2 a3 he hd ak nx o : Nat) (st : XS) (fo : Nat → Int64) (p0 : Int32) (p1 : Int32) (hok : k_X_whole_T1 nx p0 p1 st) :
    KtW l y_La_whole b_La_whole 5 (some .int) [(0, 10, 13, 13), (0, 10, 17, 15)] 8 1 6 E A [.ref x, .int p0, .int p1, .ref o] (wX E x es eo ec ds dw dc h a1 a2 a3 he hd ak nx st ++ [wO E o fo]) (va_Qi (fun (r : Int32) (u : XS × (Nat → Int64)) => r = 2 ∧ u = (st, fo)) (ar_W E A (fun u : XS × (Nat → Int64) => wX E x es eo ec ds dw dc h a1 a2 a3 he hd ak nx u.1 ++ [wO E o u.2])) A) := by
  refine KtW.of (by decide) (Nat.le_of_ble_eq_true rfl) ?_
  intro p e s m below meth c ls hx hb hml hown hts hr hlocks hex hA hZ hP hK hD hl
  have hS : va_S A s.heap s.heap [] := va_S.rf
  have hl : lv_has ls 5 [(0, .ref x), (1, .int p0), (2, .int p1), (3, .ref o)] := hl
  refine lv_aload_n hx hb d_La_whole_0 rfl (lv_at hl 3 rfl) ?_
  refine lv_iconst (v := 0) hx hb d_La_whole_1 (by decide) ?_
  refine lv_aload_n hx hb d_La_whole_2 rfl (lv_at hl 0 rfl) ?_
  refine lv_iload_n hx hb d_La_whole_3 rfl (lv_at hl 1 rfl) ?_
  refine lv_iload_n hx hb d_La_whole_4 rfl (lv_at hl 2 rfl) ?_
  refine ar_thrV (n := 2) (As := [.int p0, .int p1]) (rest := [.int 0, .ref o]) (wr := [wO E o fo]) (ci := 4) (q0 := 0) hx hb hml hown hts hP hD hS hA hK hZ (c_X_whole_T1 l hlt E _ x es eo ec ds dw dc h a1 a2 a3 he hd ak nx st p0 p1 hok) m_545 m_546 m_547 m_1 m_548 (by decide +kernel) ⟨Nat.le_of_ble_eq_true rfl, Nat.le_of_ble_eq_true rfl⟩ [0, 1, 2, 3, 4, 5, 6, 7, 8, 9, 10, 11, 12, 13] [14] rfl rfl rfl rfl rfl (by decide) rfl rfl rfl rfl hl.1 rfl (Nat.le_of_ble_eq_true rfl) d_La_whole_5 ⟨Nat.le_of_ble_eq_true rfl, Nat.le_of_ble_eq_true rfl⟩ (fun qx cx Hn locsn hPn hDn hSn hce hcv hcc => ?_)
  clear hP hD hS
  have hP := hPn.sub (ws' := wX E x es eo ec ds dw dc h a1 a2 a3 he hd ak nx st ++ [wO E o fo]) [1, 2, 3, 4, 5, 6, 7, 8, 9, 10, 11, 12, 13, 14, 0] rfl
  have hD := hDn.sub (ws' := wX E x es eo ec ds dw dc h a1 a2 a3 he hd ak nx st ++ [wO E o fo]) [1, 2, 3, 4, 5, 6, 7, 8, 9, 10, 11, 12, 13, 14, 0] (by decide) rfl
  have hS := hSn
  clear hPn hDn hSn
  refine ar_catch (own := "ArithmeticRowsLaw") (name := "java/lang/IllegalStateException") (Ex := "java/lang/IllegalStateException") hown [ar_e (0, 10, 13, 13)] (ar_e (0, 10, 17, 15)) [] hex (List.forall_mem_cons.mpr ⟨Or.inr ⟨by decide, "java/lang/IndexOutOfBoundsException", hts _ m_299, hZ.2.2.2.2.2.2.2.2.2 1 0 (by decide) (by decide) (by decide)⟩, fun _ hz => absurd hz List.not_mem_nil⟩) (by decide) (by decide) (hts _ m_300) (va_Nw.use rfl (hZ.2.2.2.2.2.2.1 1 (by decide))) hce hcv hcc ?_
  refine lv_astore (lv' := [(4, .ref qx), (0, .ref x), (1, .int p0), (2, .int p1), (3, .ref o)]) hx hb d_La_whole_17 hl (by decide) rfl (fun ls hl => ?_)
  refine lv_iconst (v := 2) hx hb d_La_whole_19 (by decide) ?_
  exact ar_iret hx hb hr hlocks hK hS (st, fo) ⟨rfl, rfl⟩ hP hD d_La_whole_20
set_option maxHeartbeats 4000000 in
set_option maxRecDepth 100000 in
theorem c_La_readWhole (l : Launch) (E : Ev) (A : Nat → Prop) (x es eo ec ds dw dc h a1 a2 a3 he hd ak nx o : Nat) (st : XS) (fo : Nat → Int64) (p0 : Int32) (hok : k_X_readWhole nx p0 st) :
    KtW l y_La_readWhole b_La_readWhole 4 (some .int) [(0, 9, 12, 13), (0, 9, 15, 15)] 7 0 0 E A [.ref x, .int p0, .ref o] (wX E x es eo ec ds dw dc h a1 a2 a3 he hd ak nx st ++ [wO E o fo]) (va_Qi (fun (r : Int32) (u : XS × (Nat → Int64)) => r = 0 ∧ u = ((f_X_readWhole nx p0 st).2, vp_updL fo 0 (Int32.toInt64 (f_X_readWhole nx p0 st).1))) (ar_W E A (fun u : XS × (Nat → Int64) => wX E x es eo ec ds dw dc h a1 a2 a3 he hd ak nx u.1 ++ [wO E o u.2])) A) := by
  refine KtW.of (by decide) (Nat.le_of_ble_eq_true rfl) ?_
  intro p e s m below meth c ls hx hb hml hown hts hr hlocks hex hA hZ hP hK hD hl
  have hS : va_S A s.heap s.heap [] := va_S.rf
  have hl : lv_has ls 4 [(0, .ref x), (1, .int p0), (2, .ref o)] := hl
  refine lv_aload_n hx hb d_La_readWhole_0 rfl (lv_at hl 2 rfl) ?_
  refine lv_iconst (v := 0) hx hb d_La_readWhole_1 (by decide) ?_
  refine lv_aload_n hx hb d_La_readWhole_2 rfl (lv_at hl 0 rfl) ?_
  refine lv_iload_n hx hb d_La_readWhole_3 rfl (lv_at hl 1 rfl) ?_
  refine ar_usei (wr := [wO E o fo]) hP hD hS hA [0, 1, 2, 3, 4, 5, 6, 7, 8, 9, 10, 11, 12, 13] [14] rfl rfl rfl (by decide) (ar_runV (n := 1) (As := [.int p0]) (rest := [.int 0, .ref o]) (ci := 4) (q0 := 0) hx hb hml hown hts hP hD hS hA hK hZ (c_X_readWhole l E _ x es eo ec ds dw dc h a1 a2 a3 he hd ak nx st p0 hok) m_579 m_580 m_581 m_1 m_582 (by decide +kernel) ⟨Nat.le_of_ble_eq_true rfl, Nat.le_of_ble_eq_true rfl⟩ [0, 1, 2, 3, 4, 5, 6, 7, 8, 9, 10, 11, 12, 13] rfl rfl rfl rfl rfl rfl rfl hl.1 rfl (Nat.le_of_ble_eq_true rfl) d_La_readWhole_4 ⟨Nat.le_of_ble_eq_true rfl, Nat.le_of_ble_eq_true rfl⟩) (fun r u Hn locsn hw hPn hDn hSn => ?_)
  clear hP hD hS
  have hP : va_P E.1 classes ([wO E o fo] ++ wX E x es eo ec ds dw dc h a1 a2 a3 he hd ak nx u) Hn := hPn
  have hD : va_D A ([wO E o fo] ++ wX E x es eo ec ds dw dc h a1 a2 a3 he hd ak nx u) := hDn
  have hS := hSn
  clear hPn hDn hSn
  refine lv_i2l (v := Int32.toInt64 r) hx hb d_La_readWhole_7 rfl ?_
  refine va_last (D := E.1) (x := Int32.toInt64 r) hx hb hK hP hD hS 0 2 rfl rfl (vp_in_nI (n := 0) (by decide) (by decide)) d_La_readWhole_8 (fun Hn locsn hPn hDn hSn => ?_)
  clear hP hD hS
  have hP : va_P E.1 classes ([wO E o (vp_updL fo 0 (Int32.toInt64 r))] ++ wX E x es eo ec ds dw dc h a1 a2 a3 he hd ak nx u) Hn := hPn
  have hD : va_D A ([wO E o (vp_updL fo 0 (Int32.toInt64 r))] ++ wX E x es eo ec ds dw dc h a1 a2 a3 he hd ak nx u) := hDn
  have hS := hSn
  clear hPn hDn hSn
  refine lv_goto (tgt := 18) hx hb d_La_readWhole_9 (by decide) ?_
  refine lv_iconst (v := 0) hx hb d_La_readWhole_18 (by decide) ?_
  replace hP := hP.sub (ws' := wX E x es eo ec ds dw dc h a1 a2 a3 he hd ak nx u ++ [wO E o (vp_updL fo 0 (Int32.toInt64 r))]) [1, 2, 3, 4, 5, 6, 7, 8, 9, 10, 11, 12, 13, 14, 0] rfl
  replace hD := hD.sub (ws' := wX E x es eo ec ds dw dc h a1 a2 a3 he hd ak nx u ++ [wO E o (vp_updL fo 0 (Int32.toInt64 r))]) [1, 2, 3, 4, 5, 6, 7, 8, 9, 10, 11, 12, 13, 14, 0] (by decide) rfl
  exact ar_iret hx hb hr hlocks hK hS (u, vp_updL fo 0 (Int32.toInt64 r)) (by rw [← hw.1, ← hw.2]; exact ⟨rfl, rfl⟩) hP hD d_La_readWhole_19
set_option maxHeartbeats 4000000 in
set_option maxRecDepth 100000 in
theorem c_La_readWhole_T0 (l : Launch) (hlt : l.stackTraces = false) (E : Ev) (A : Nat → Prop) (x es eo ec ds dw dc h a1 a2 a3 he hd ak nx o : Nat) (st : XS) (fo : Nat → Int64) (p0 : Int32) (hok : k_X_readWhole_T0 nx p0 st) :
    KtW l y_La_readWhole b_La_readWhole 4 (some .int) [(0, 9, 12, 13), (0, 9, 15, 15)] 8 1 6 E A [.ref x, .int p0, .ref o] (wX E x es eo ec ds dw dc h a1 a2 a3 he hd ak nx st ++ [wO E o fo]) (va_Qi (fun (r : Int32) (u : XS × (Nat → Int64)) => r = 1 ∧ u = (st, fo)) (ar_W E A (fun u : XS × (Nat → Int64) => wX E x es eo ec ds dw dc h a1 a2 a3 he hd ak nx u.1 ++ [wO E o u.2])) A) := by
  refine KtW.of (by decide) (Nat.le_of_ble_eq_true rfl) ?_
  intro p e s m below meth c ls hx hb hml hown hts hr hlocks hex hA hZ hP hK hD hl
  have hS : va_S A s.heap s.heap [] := va_S.rf
  have hl : lv_has ls 4 [(0, .ref x), (1, .int p0), (2, .ref o)] := hl
  refine lv_aload_n hx hb d_La_readWhole_0 rfl (lv_at hl 2 rfl) ?_
  refine lv_iconst (v := 0) hx hb d_La_readWhole_1 (by decide) ?_
  refine lv_aload_n hx hb d_La_readWhole_2 rfl (lv_at hl 0 rfl) ?_
  refine lv_iload_n hx hb d_La_readWhole_3 rfl (lv_at hl 1 rfl) ?_
  refine ar_thrV (n := 1) (As := [.int p0]) (rest := [.int 0, .ref o]) (wr := [wO E o fo]) (ci := 4) (q0 := 0) hx hb hml hown hts hP hD hS hA hK hZ (c_X_readWhole_T0 l hlt E _ x es eo ec ds dw dc h a1 a2 a3 he hd ak nx st p0 hok) m_579 m_580 m_581 m_1 m_582 (by decide +kernel) ⟨Nat.le_of_ble_eq_true rfl, Nat.le_of_ble_eq_true rfl⟩ [0, 1, 2, 3, 4, 5, 6, 7, 8, 9, 10, 11, 12, 13] [14] rfl rfl rfl rfl rfl (by decide) rfl rfl rfl rfl hl.1 rfl (Nat.le_of_ble_eq_true rfl) d_La_readWhole_4 ⟨Nat.le_of_ble_eq_true rfl, Nat.le_of_ble_eq_true rfl⟩ (fun qx cx Hn locsn hPn hDn hSn hce hcv hcc => ?_)
  clear hP hD hS
  have hP := hPn.sub (ws' := wX E x es eo ec ds dw dc h a1 a2 a3 he hd ak nx st ++ [wO E o fo]) [1, 2, 3, 4, 5, 6, 7, 8, 9, 10, 11, 12, 13, 14, 0] rfl
  have hD := hDn.sub (ws' := wX E x es eo ec ds dw dc h a1 a2 a3 he hd ak nx st ++ [wO E o fo]) [1, 2, 3, 4, 5, 6, 7, 8, 9, 10, 11, 12, 13, 14, 0] (by decide) rfl
  have hS := hSn
  clear hPn hDn hSn
  refine ar_catch (own := "ArithmeticRowsLaw") (name := "java/lang/IndexOutOfBoundsException") (Ex := "java/lang/IndexOutOfBoundsException") hown [] (ar_e (0, 9, 12, 13)) [ar_e (0, 9, 15, 15)] hex (fun z hz => absurd hz List.not_mem_nil) (by decide) (by decide) (hts _ m_299) (va_Nw.use rfl (hZ.2.2.2.2.2.2.1 0 (by decide))) hce hcv hcc ?_
  refine lv_astore_n (lv' := [(3, .ref qx), (0, .ref x), (1, .int p0), (2, .ref o)]) hx hb d_La_readWhole_12 rfl hl (by decide) rfl (fun ls hl => ?_)
  refine lv_iconst (v := 1) hx hb d_La_readWhole_13 (by decide) ?_
  exact ar_iret hx hb hr hlocks hK hS (st, fo) ⟨rfl, rfl⟩ hP hD d_La_readWhole_14
set_option maxHeartbeats 4000000 in
set_option maxRecDepth 100000 in
theorem c_La_readWhole_T1 (l : Launch) (hlt : l.stackTraces = false) (E : Ev) (A : Nat → Prop) (x es eo ec ds dw dc h a1 a2 a3 he hd ak nx o : Nat) (st : XS) (fo : Nat → Int64) (p0 : Int32) (hok : k_X_readWhole_T1 nx p0 st) :
    KtW l y_La_readWhole b_La_readWhole 4 (some .int) [(0, 9, 12, 13), (0, 9, 15, 15)] 8 1 6 E A [.ref x, .int p0, .ref o] (wX E x es eo ec ds dw dc h a1 a2 a3 he hd ak nx st ++ [wO E o fo]) (va_Qi (fun (r : Int32) (u : XS × (Nat → Int64)) => r = 2 ∧ u = (st, fo)) (ar_W E A (fun u : XS × (Nat → Int64) => wX E x es eo ec ds dw dc h a1 a2 a3 he hd ak nx u.1 ++ [wO E o u.2])) A) := by
  refine KtW.of (by decide) (Nat.le_of_ble_eq_true rfl) ?_
  intro p e s m below meth c ls hx hb hml hown hts hr hlocks hex hA hZ hP hK hD hl
  have hS : va_S A s.heap s.heap [] := va_S.rf
  have hl : lv_has ls 4 [(0, .ref x), (1, .int p0), (2, .ref o)] := hl
  refine lv_aload_n hx hb d_La_readWhole_0 rfl (lv_at hl 2 rfl) ?_
  refine lv_iconst (v := 0) hx hb d_La_readWhole_1 (by decide) ?_
  refine lv_aload_n hx hb d_La_readWhole_2 rfl (lv_at hl 0 rfl) ?_
  refine lv_iload_n hx hb d_La_readWhole_3 rfl (lv_at hl 1 rfl) ?_
  refine ar_thrV (n := 1) (As := [.int p0]) (rest := [.int 0, .ref o]) (wr := [wO E o fo]) (ci := 4) (q0 := 0) hx hb hml hown hts hP hD hS hA hK hZ (c_X_readWhole_T1 l hlt E _ x es eo ec ds dw dc h a1 a2 a3 he hd ak nx st p0 hok) m_579 m_580 m_581 m_1 m_582 (by decide +kernel) ⟨Nat.le_of_ble_eq_true rfl, Nat.le_of_ble_eq_true rfl⟩ [0, 1, 2, 3, 4, 5, 6, 7, 8, 9, 10, 11, 12, 13] [14] rfl rfl rfl rfl rfl (by decide) rfl rfl rfl rfl hl.1 rfl (Nat.le_of_ble_eq_true rfl) d_La_readWhole_4 ⟨Nat.le_of_ble_eq_true rfl, Nat.le_of_ble_eq_true rfl⟩ (fun qx cx Hn locsn hPn hDn hSn hce hcv hcc => ?_)
  clear hP hD hS
  have hP := hPn.sub (ws' := wX E x es eo ec ds dw dc h a1 a2 a3 he hd ak nx st ++ [wO E o fo]) [1, 2, 3, 4, 5, 6, 7, 8, 9, 10, 11, 12, 13, 14, 0] rfl
  have hD := hDn.sub (ws' := wX E x es eo ec ds dw dc h a1 a2 a3 he hd ak nx st ++ [wO E o fo]) [1, 2, 3, 4, 5, 6, 7, 8, 9, 10, 11, 12, 13, 14, 0] (by decide) rfl
  have hS := hSn
  clear hPn hDn hSn
  refine ar_catch (own := "ArithmeticRowsLaw") (name := "java/lang/IllegalStateException") (Ex := "java/lang/IllegalStateException") hown [ar_e (0, 9, 12, 13)] (ar_e (0, 9, 15, 15)) [] hex (List.forall_mem_cons.mpr ⟨Or.inr ⟨by decide, "java/lang/IndexOutOfBoundsException", hts _ m_299, hZ.2.2.2.2.2.2.2.2.2 1 0 (by decide) (by decide) (by decide)⟩, fun _ hz => absurd hz List.not_mem_nil⟩) (by decide) (by decide) (hts _ m_300) (va_Nw.use rfl (hZ.2.2.2.2.2.2.1 1 (by decide))) hce hcv hcc ?_
  refine lv_astore_n (lv' := [(3, .ref qx), (0, .ref x), (1, .int p0), (2, .ref o)]) hx hb d_La_readWhole_15 rfl hl (by decide) rfl (fun ls hl => ?_)
  refine lv_iconst (v := 2) hx hb d_La_readWhole_16 (by decide) ?_
  exact ar_iret hx hb hr hlocks hK hS (st, fo) ⟨rfl, rfl⟩ hP hD d_La_readWhole_17
set_option maxHeartbeats 4000000 in
set_option maxRecDepth 100000 in
theorem c_La_save_0 (l : Launch) (E : Ev) (A : Nat → Prop) (x es eo ec ds dw dc h a1 a2 a3 he hd ak nx o : Nat) (st : XS) (fo : Nat → Int64)  (hok : k_X_save_0 nx  st) :
    KtW l y_La_save b_La_save 3 (some .int) [(0, 8, 11, 15)] 3 0 0 E A [.ref x, .ref o] (wX E x es eo ec ds dw dc h a1 a2 a3 he hd ak nx st ++ [wO E o fo]) (va_Qi (fun (r : Int32) (u : XS × (Nat → Int64)) => r = 0 ∧ u = ((f_X_save_0 nx st).2, vp_updL fo 0 (Int32.toInt64 (f_X_save_0 nx st).1))) (ar_W E A (fun u : XS × (Nat → Int64) => wX E x es eo ec ds dw dc h a1 a2 a3 he hd ak nx u.1 ++ [wO E o u.2])) A) := by
  refine KtW.of (by decide) (Nat.le_of_ble_eq_true rfl) ?_
  intro p e s m below meth c ls hx hb hml hown hts hr hlocks hex hA hZ hP hK hD hl
  have hS : va_S A s.heap s.heap [] := va_S.rf
  have hl : lv_has ls 3 [(0, .ref x), (1, .ref o)] := hl
  refine lv_aload_n hx hb d_La_save_0 rfl (lv_at hl 1 rfl) ?_
  refine lv_iconst (v := 0) hx hb d_La_save_1 (by decide) ?_
  refine lv_aload_n hx hb d_La_save_2 rfl (lv_at hl 0 rfl) ?_
  refine ar_usei (wr := [wO E o fo]) hP hD hS hA [0, 1, 2, 3, 4, 5, 6, 7, 8, 9, 10, 11, 12, 13] [14] rfl rfl rfl (by decide) (ar_runV (n := 0) (As := []) (rest := [.int 0, .ref o]) (ci := 4) (q0 := 0) hx hb hml hown hts hP hD hS hA hK hZ (c_X_save_0 l E _ x es eo ec ds dw dc h a1 a2 a3 he hd ak nx st hok) m_590 m_591 m_592 m_1 m_593 (by decide +kernel) ⟨Nat.le_of_ble_eq_true rfl, Nat.le_of_ble_eq_true rfl⟩ [0, 1, 2, 3, 4, 5, 6, 7, 8, 9, 10, 11, 12, 13] rfl rfl rfl rfl rfl rfl rfl hl.1 rfl (Nat.le_of_ble_eq_true rfl) d_La_save_3 ⟨Nat.le_of_ble_eq_true rfl, Nat.le_of_ble_eq_true rfl⟩) (fun r u Hn locsn hw hPn hDn hSn => ?_)
  clear hP hD hS
  have hP : va_P E.1 classes ([wO E o fo] ++ wX E x es eo ec ds dw dc h a1 a2 a3 he hd ak nx u) Hn := hPn
  have hD : va_D A ([wO E o fo] ++ wX E x es eo ec ds dw dc h a1 a2 a3 he hd ak nx u) := hDn
  have hS := hSn
  clear hPn hDn hSn
  refine lv_i2l (v := Int32.toInt64 r) hx hb d_La_save_6 rfl ?_
  refine va_last (D := E.1) (x := Int32.toInt64 r) hx hb hK hP hD hS 0 2 rfl rfl (vp_in_nI (n := 0) (by decide) (by decide)) d_La_save_7 (fun Hn locsn hPn hDn hSn => ?_)
  clear hP hD hS
  have hP : va_P E.1 classes ([wO E o (vp_updL fo 0 (Int32.toInt64 r))] ++ wX E x es eo ec ds dw dc h a1 a2 a3 he hd ak nx u) Hn := hPn
  have hD : va_D A ([wO E o (vp_updL fo 0 (Int32.toInt64 r))] ++ wX E x es eo ec ds dw dc h a1 a2 a3 he hd ak nx u) := hDn
  have hS := hSn
  clear hPn hDn hSn
  refine lv_goto (tgt := 14) hx hb d_La_save_8 (by decide) ?_
  refine lv_iconst (v := 0) hx hb d_La_save_14 (by decide) ?_
  replace hP := hP.sub (ws' := wX E x es eo ec ds dw dc h a1 a2 a3 he hd ak nx u ++ [wO E o (vp_updL fo 0 (Int32.toInt64 r))]) [1, 2, 3, 4, 5, 6, 7, 8, 9, 10, 11, 12, 13, 14, 0] rfl
  replace hD := hD.sub (ws' := wX E x es eo ec ds dw dc h a1 a2 a3 he hd ak nx u ++ [wO E o (vp_updL fo 0 (Int32.toInt64 r))]) [1, 2, 3, 4, 5, 6, 7, 8, 9, 10, 11, 12, 13, 14, 0] (by decide) rfl
  exact ar_iret hx hb hr hlocks hK hS (u, vp_updL fo 0 (Int32.toInt64 r)) (by rw [← hw.1, ← hw.2]; exact ⟨rfl, rfl⟩) hP hD d_La_save_15
set_option maxHeartbeats 4000000 in
set_option maxRecDepth 100000 in
theorem c_La_save_1 (l : Launch) (E : Ev) (A : Nat → Prop) (x es eo ec ds dw dc h a1 a2 a3 he hd ak nx o : Nat) (st : XS) (fo : Nat → Int64)  (hok : k_X_save_1 nx  st) :
    KtW l y_La_save b_La_save 3 (some .int) [(0, 8, 11, 15)] 3 0 0 E A [.ref x, .ref o] (wX E x es eo ec ds dw dc h a1 a2 a3 he hd ak nx st ++ [wO E o fo]) (va_Qi (fun (r : Int32) (u : XS × (Nat → Int64)) => r = 0 ∧ u = ((f_X_save_1 nx st).2, vp_updL fo 0 (Int32.toInt64 (f_X_save_1 nx st).1))) (ar_W E A (fun u : XS × (Nat → Int64) => wX E x es eo ec ds dw dc h a1 a2 a3 he hd ak nx u.1 ++ [wO E o u.2])) A) := by
  refine KtW.of (by decide) (Nat.le_of_ble_eq_true rfl) ?_
  intro p e s m below meth c ls hx hb hml hown hts hr hlocks hex hA hZ hP hK hD hl
  have hS : va_S A s.heap s.heap [] := va_S.rf
  have hl : lv_has ls 3 [(0, .ref x), (1, .ref o)] := hl
  refine lv_aload_n hx hb d_La_save_0 rfl (lv_at hl 1 rfl) ?_
  refine lv_iconst (v := 0) hx hb d_La_save_1 (by decide) ?_
  refine lv_aload_n hx hb d_La_save_2 rfl (lv_at hl 0 rfl) ?_
  refine ar_usei (wr := [wO E o fo]) hP hD hS hA [0, 1, 2, 3, 4, 5, 6, 7, 8, 9, 10, 11, 12, 13] [14] rfl rfl rfl (by decide) (ar_runV (n := 0) (As := []) (rest := [.int 0, .ref o]) (ci := 4) (q0 := 0) hx hb hml hown hts hP hD hS hA hK hZ (c_X_save_1 l E _ x es eo ec ds dw dc h a1 a2 a3 he hd ak nx st hok) m_590 m_591 m_592 m_1 m_593 (by decide +kernel) ⟨Nat.le_of_ble_eq_true rfl, Nat.le_of_ble_eq_true rfl⟩ [0, 1, 2, 3, 4, 5, 6, 7, 8, 9, 10, 11, 12, 13] rfl rfl rfl rfl rfl rfl rfl hl.1 rfl (Nat.le_of_ble_eq_true rfl) d_La_save_3 ⟨Nat.le_of_ble_eq_true rfl, Nat.le_of_ble_eq_true rfl⟩) (fun r u Hn locsn hw hPn hDn hSn => ?_)
  clear hP hD hS
  have hP : va_P E.1 classes ([wO E o fo] ++ wX E x es eo ec ds dw dc h a1 a2 a3 he hd ak nx u) Hn := hPn
  have hD : va_D A ([wO E o fo] ++ wX E x es eo ec ds dw dc h a1 a2 a3 he hd ak nx u) := hDn
  have hS := hSn
  clear hPn hDn hSn
  refine lv_i2l (v := Int32.toInt64 r) hx hb d_La_save_6 rfl ?_
  refine va_last (D := E.1) (x := Int32.toInt64 r) hx hb hK hP hD hS 0 2 rfl rfl (vp_in_nI (n := 0) (by decide) (by decide)) d_La_save_7 (fun Hn locsn hPn hDn hSn => ?_)
  clear hP hD hS
  have hP : va_P E.1 classes ([wO E o (vp_updL fo 0 (Int32.toInt64 r))] ++ wX E x es eo ec ds dw dc h a1 a2 a3 he hd ak nx u) Hn := hPn
  have hD : va_D A ([wO E o (vp_updL fo 0 (Int32.toInt64 r))] ++ wX E x es eo ec ds dw dc h a1 a2 a3 he hd ak nx u) := hDn
  have hS := hSn
  clear hPn hDn hSn
  refine lv_goto (tgt := 14) hx hb d_La_save_8 (by decide) ?_
  refine lv_iconst (v := 0) hx hb d_La_save_14 (by decide) ?_
  replace hP := hP.sub (ws' := wX E x es eo ec ds dw dc h a1 a2 a3 he hd ak nx u ++ [wO E o (vp_updL fo 0 (Int32.toInt64 r))]) [1, 2, 3, 4, 5, 6, 7, 8, 9, 10, 11, 12, 13, 14, 0] rfl
  replace hD := hD.sub (ws' := wX E x es eo ec ds dw dc h a1 a2 a3 he hd ak nx u ++ [wO E o (vp_updL fo 0 (Int32.toInt64 r))]) [1, 2, 3, 4, 5, 6, 7, 8, 9, 10, 11, 12, 13, 14, 0] (by decide) rfl
  exact ar_iret hx hb hr hlocks hK hS (u, vp_updL fo 0 (Int32.toInt64 r)) (by rw [← hw.1, ← hw.2]; exact ⟨rfl, rfl⟩) hP hD d_La_save_15
set_option maxHeartbeats 4000000 in
set_option maxRecDepth 100000 in
theorem c_La_save_T1 (l : Launch) (hlt : l.stackTraces = false) (E : Ev) (A : Nat → Prop) (x es eo ec ds dw dc h a1 a2 a3 he hd ak nx o : Nat) (st : XS) (fo : Nat → Int64)  (hok : k_X_save_T1 nx  st) :
    KtW l y_La_save b_La_save 3 (some .int) [(0, 8, 11, 15)] 8 1 6 E A [.ref x, .ref o] (wX E x es eo ec ds dw dc h a1 a2 a3 he hd ak nx st ++ [wO E o fo]) (va_Qi (fun (r : Int32) (u : XS × (Nat → Int64)) => r = 1 ∧ u = (st, fo)) (ar_W E A (fun u : XS × (Nat → Int64) => wX E x es eo ec ds dw dc h a1 a2 a3 he hd ak nx u.1 ++ [wO E o u.2])) A) := by
  refine KtW.of (by decide) (Nat.le_of_ble_eq_true rfl) ?_
  intro p e s m below meth c ls hx hb hml hown hts hr hlocks hex hA hZ hP hK hD hl
  have hS : va_S A s.heap s.heap [] := va_S.rf
  have hl : lv_has ls 3 [(0, .ref x), (1, .ref o)] := hl
  refine lv_aload_n hx hb d_La_save_0 rfl (lv_at hl 1 rfl) ?_
  refine lv_iconst (v := 0) hx hb d_La_save_1 (by decide) ?_
  refine lv_aload_n hx hb d_La_save_2 rfl (lv_at hl 0 rfl) ?_
  refine ar_thrV (n := 0) (As := []) (rest := [.int 0, .ref o]) (wr := [wO E o fo]) (ci := 4) (q0 := 0) hx hb hml hown hts hP hD hS hA hK hZ (c_X_save_T1 l hlt E _ x es eo ec ds dw dc h a1 a2 a3 he hd ak nx st hok) m_590 m_591 m_592 m_1 m_593 (by decide +kernel) ⟨Nat.le_of_ble_eq_true rfl, Nat.le_of_ble_eq_true rfl⟩ [0, 1, 2, 3, 4, 5, 6, 7, 8, 9, 10, 11, 12, 13] [14] rfl rfl rfl rfl rfl (by decide) rfl rfl rfl rfl hl.1 rfl (Nat.le_of_ble_eq_true rfl) d_La_save_3 ⟨Nat.le_of_ble_eq_true rfl, Nat.le_of_ble_eq_true rfl⟩ (fun qx cx Hn locsn hPn hDn hSn hce hcv hcc => ?_)
  clear hP hD hS
  have hP := hPn.sub (ws' := wX E x es eo ec ds dw dc h a1 a2 a3 he hd ak nx st ++ [wO E o fo]) [1, 2, 3, 4, 5, 6, 7, 8, 9, 10, 11, 12, 13, 14, 0] rfl
  have hD := hDn.sub (ws' := wX E x es eo ec ds dw dc h a1 a2 a3 he hd ak nx st ++ [wO E o fo]) [1, 2, 3, 4, 5, 6, 7, 8, 9, 10, 11, 12, 13, 14, 0] (by decide) rfl
  have hS := hSn
  clear hPn hDn hSn
  refine ar_catch (own := "ArithmeticRowsLaw") (name := "java/lang/IllegalStateException") (Ex := "java/lang/IllegalStateException") hown [] (ar_e (0, 8, 11, 15)) [] hex (fun z hz => absurd hz List.not_mem_nil) (by decide) (by decide) (hts _ m_300) (va_Nw.use rfl (hZ.2.2.2.2.2.2.1 1 (by decide))) hce hcv hcc ?_
  refine lv_astore_n (lv' := [(2, .ref qx), (0, .ref x), (1, .ref o)]) hx hb d_La_save_11 rfl hl (by decide) rfl (fun ls hl => ?_)
  refine lv_iconst (v := 1) hx hb d_La_save_12 (by decide) ?_
  exact ar_iret hx hb hr hlocks hK hS (st, fo) ⟨rfl, rfl⟩ hP hD d_La_save_13
