/-! Encoder: contracts -/
noncomputable def f_En_begin (p0 : Bool) (st : EnS) : EnS :=
  (p0, 32768, 0, 12, 0, 0, 8)
theorem f_En_begin_s (p0 : Bool) (st : EnS) : f_En_begin p0 st = ((
  (p0, 32768, 0, 12, 0, 0, 8)
  : EnS)) := rfl
set_option maxHeartbeats 4000000 in
set_option maxRecDepth 100000 in
theorem c_En_begin (l : Launch) (E : Ev) (A : Nat → Prop) (he h : Nat) (st : EnS) (p0 : Bool)  :
    Kt l y_En_begin b_En_begin 2 none 0 0 0 E A [.ref he, .int (bI p0)] [(he, .inr (2, [.ref h, .int (bI st.1), .int st.2.1, .int st.2.2.1, .int st.2.2.2.1, .int st.2.2.2.2.1, .int st.2.2.2.2.2.1, .int st.2.2.2.2.2.2]))] (va_Qv (fun u : EnS => u = f_En_begin p0 st) (ar_W E A (fun u : EnS => [(he, .inr (2, [.ref h, .int (bI u.1), .int u.2.1, .int u.2.2.1, .int u.2.2.2.1, .int u.2.2.2.2.1, .int u.2.2.2.2.2.1, .int u.2.2.2.2.2.2]))])) A) := by
  refine Kt.of (by decide) (Nat.le_of_ble_eq_true rfl) ?_
  intro p e s m below meth c ls hx hb hml hown hts hr hlocks hex hin hA hZ hP hK hD hl
  have hS : va_S A s.heap s.heap [] := va_S.rf
  have hl : lv_has ls 2 [(0, .ref he), (1, .int (bI p0))] := hl
  refine lv_aload_n hx hb d_En_begin_0 rfl (lv_at hl 0 rfl) ?_
  refine lv_iload_n hx hb d_En_begin_1 rfl (lv_at hl 1 rfl) ?_
  refine va_put (D := E.1) (ci := 2) (v := .int (bI p0)) (ty := .boolean) (C := R_En) (T := T_En) (N := 8) hx hb hts in_En t_En t_En_ok n_En hown hK hP hD hS 0 rfl rfl 1 (by decide) (hts _ m_87) (fun _ h9 => h9) rfl (by decide +kernel) (bI_nar p0) (bI_fit p0) (Nat.le_of_ble_eq_true rfl) d_En_begin_2 (fun Hn locsn hPn hDn hSn => ?_)
  clear hP hD hS
  have hP : va_P E.1 classes [(he, .inr (2, [.ref h, .int (bI p0), .int st.2.1, .int st.2.2.1, .int st.2.2.2.1, .int st.2.2.2.2.1, .int st.2.2.2.2.2.1, .int st.2.2.2.2.2.2]))] Hn := hPn
  have hD : va_D A [(he, .inr (2, [.ref h, .int (bI p0), .int st.2.1, .int st.2.2.1, .int st.2.2.2.1, .int st.2.2.2.2.1, .int st.2.2.2.2.2.1, .int st.2.2.2.2.2.2]))] := hDn
  have hS := hSn
  clear hPn hDn hSn
  refine lv_aload_n hx hb d_En_begin_5 rfl (lv_at hl 0 rfl) ?_
  refine lv_ldc (v := 32768) hx hb hown (hts _ m_85) d_En_begin_6 ?_
  refine va_put (D := E.1) (ci := 2) (v := .int 32768) (ty := .int) (C := R_En) (T := T_En) (N := 8) hx hb hts in_En t_En t_En_ok n_En hown hK hP hD hS 0 rfl rfl 2 (by decide) (hts _ m_88) (fun _ h9 => h9) rfl (by decide +kernel) rfl rfl (Nat.le_of_ble_eq_true rfl) d_En_begin_8 (fun Hn locsn hPn hDn hSn => ?_)
  clear hP hD hS
  have hP : va_P E.1 classes [(he, .inr (2, [.ref h, .int (bI p0), .int 32768, .int st.2.2.1, .int st.2.2.2.1, .int st.2.2.2.2.1, .int st.2.2.2.2.2.1, .int st.2.2.2.2.2.2]))] Hn := hPn
  have hD : va_D A [(he, .inr (2, [.ref h, .int (bI p0), .int 32768, .int st.2.2.1, .int st.2.2.2.1, .int st.2.2.2.2.1, .int st.2.2.2.2.2.1, .int st.2.2.2.2.2.2]))] := hDn
  have hS := hSn
  clear hPn hDn hSn
  refine lv_aload_n hx hb d_En_begin_11 rfl (lv_at hl 0 rfl) ?_
  refine lv_iconst (v := 0) hx hb d_En_begin_12 (by decide) ?_
  refine va_put (D := E.1) (ci := 2) (v := .int 0) (ty := .int) (C := R_En) (T := T_En) (N := 8) hx hb hts in_En t_En t_En_ok n_En hown hK hP hD hS 0 rfl rfl 3 (by decide) (hts _ m_89) (fun _ h9 => h9) rfl (by decide +kernel) rfl rfl (Nat.le_of_ble_eq_true rfl) d_En_begin_13 (fun Hn locsn hPn hDn hSn => ?_)
  clear hP hD hS
  have hP : va_P E.1 classes [(he, .inr (2, [.ref h, .int (bI p0), .int 32768, .int 0, .int st.2.2.2.1, .int st.2.2.2.2.1, .int st.2.2.2.2.2.1, .int st.2.2.2.2.2.2]))] Hn := hPn
  have hD : va_D A [(he, .inr (2, [.ref h, .int (bI p0), .int 32768, .int 0, .int st.2.2.2.1, .int st.2.2.2.2.1, .int st.2.2.2.2.2.1, .int st.2.2.2.2.2.2]))] := hDn
  have hS := hSn
  clear hPn hDn hSn
  refine lv_aload_n hx hb d_En_begin_16 rfl (lv_at hl 0 rfl) ?_
  refine lv_bipush (v := 12) hx hb d_En_begin_17 (by decide) ?_
  refine va_put (D := E.1) (ci := 2) (v := .int 12) (ty := .int) (C := R_En) (T := T_En) (N := 8) hx hb hts in_En t_En t_En_ok n_En hown hK hP hD hS 0 rfl rfl 4 (by decide) (hts _ m_90) (fun _ h9 => h9) rfl (by decide +kernel) rfl rfl (Nat.le_of_ble_eq_true rfl) d_En_begin_19 (fun Hn locsn hPn hDn hSn => ?_)
  clear hP hD hS
  have hP : va_P E.1 classes [(he, .inr (2, [.ref h, .int (bI p0), .int 32768, .int 0, .int 12, .int st.2.2.2.2.1, .int st.2.2.2.2.2.1, .int st.2.2.2.2.2.2]))] Hn := hPn
  have hD : va_D A [(he, .inr (2, [.ref h, .int (bI p0), .int 32768, .int 0, .int 12, .int st.2.2.2.2.1, .int st.2.2.2.2.2.1, .int st.2.2.2.2.2.2]))] := hDn
  have hS := hSn
  clear hPn hDn hSn
  refine lv_aload_n hx hb d_En_begin_22 rfl (lv_at hl 0 rfl) ?_
  refine lv_iconst (v := 0) hx hb d_En_begin_23 (by decide) ?_
  refine va_put (D := E.1) (ci := 2) (v := .int 0) (ty := .int) (C := R_En) (T := T_En) (N := 8) hx hb hts in_En t_En t_En_ok n_En hown hK hP hD hS 0 rfl rfl 5 (by decide) (hts _ m_91) (fun _ h9 => h9) rfl (by decide +kernel) rfl rfl (Nat.le_of_ble_eq_true rfl) d_En_begin_24 (fun Hn locsn hPn hDn hSn => ?_)
  clear hP hD hS
  have hP : va_P E.1 classes [(he, .inr (2, [.ref h, .int (bI p0), .int 32768, .int 0, .int 12, .int 0, .int st.2.2.2.2.2.1, .int st.2.2.2.2.2.2]))] Hn := hPn
  have hD : va_D A [(he, .inr (2, [.ref h, .int (bI p0), .int 32768, .int 0, .int 12, .int 0, .int st.2.2.2.2.2.1, .int st.2.2.2.2.2.2]))] := hDn
  have hS := hSn
  clear hPn hDn hSn
  refine lv_aload_n hx hb d_En_begin_27 rfl (lv_at hl 0 rfl) ?_
  refine lv_iconst (v := 0) hx hb d_En_begin_28 (by decide) ?_
  refine va_put (D := E.1) (ci := 2) (v := .int 0) (ty := .int) (C := R_En) (T := T_En) (N := 8) hx hb hts in_En t_En t_En_ok n_En hown hK hP hD hS 0 rfl rfl 6 (by decide) (hts _ m_92) (fun _ h9 => h9) rfl (by decide +kernel) rfl rfl (Nat.le_of_ble_eq_true rfl) d_En_begin_29 (fun Hn locsn hPn hDn hSn => ?_)
  clear hP hD hS
  have hP : va_P E.1 classes [(he, .inr (2, [.ref h, .int (bI p0), .int 32768, .int 0, .int 12, .int 0, .int 0, .int st.2.2.2.2.2.2]))] Hn := hPn
  have hD : va_D A [(he, .inr (2, [.ref h, .int (bI p0), .int 32768, .int 0, .int 12, .int 0, .int 0, .int st.2.2.2.2.2.2]))] := hDn
  have hS := hSn
  clear hPn hDn hSn
  refine lv_aload_n hx hb d_En_begin_32 rfl (lv_at hl 0 rfl) ?_
  refine lv_bipush (v := 8) hx hb d_En_begin_33 (by decide) ?_
  refine va_put (D := E.1) (ci := 2) (v := .int 8) (ty := .int) (C := R_En) (T := T_En) (N := 8) hx hb hts in_En t_En t_En_ok n_En hown hK hP hD hS 0 rfl rfl 7 (by decide) (hts _ m_93) (fun _ h9 => h9) rfl (by decide +kernel) rfl rfl (Nat.le_of_ble_eq_true rfl) d_En_begin_35 (fun Hn locsn hPn hDn hSn => ?_)
  clear hP hD hS
  have hP : va_P E.1 classes [(he, .inr (2, [.ref h, .int (bI p0), .int 32768, .int 0, .int 12, .int 0, .int 0, .int 8]))] Hn := hPn
  have hD : va_D A [(he, .inr (2, [.ref h, .int (bI p0), .int 32768, .int 0, .int 12, .int 0, .int 0, .int 8]))] := hDn
  have hS := hSn
  clear hPn hDn hSn
  exact ar_vret hx hb hr hlocks hK hS (p0, 32768, 0, 12, 0, 0, 8) (by exact Eq.symm (Eq.trans (f_En_begin_s p0 st) rfl)) hP hD d_En_begin_38

noncomputable def f_En_putOut  (st : (EnS) × (RoS)) : (EnS) × (RoS) :=
  let r1 := f_Ro_last   st.2
  if r1 < 0 then
    if r1 = 255 then
      let u6 := f_Ro_add  (ushr st.1.2.2.1 20) st.2
      let x7 := (st.1.2.2.1 &&& 1048575)
      ((st.1.1, st.1.2.1, x7, 7, st.1.2.2.2.2.1, st.1.2.2.2.2.2.1, st.1.2.2.2.2.2.2), u6)
    else
      let u4 := f_Ro_add  (ushr st.1.2.2.1 19) st.2
      let x5 := (st.1.2.2.1 &&& 524287)
      ((st.1.1, st.1.2.1, x5, 8, st.1.2.2.2.2.1, st.1.2.2.2.2.2.1, st.1.2.2.2.2.2.2), u4)
  else
    if 255 ≤ r1 then
      if r1 = 255 then
        let u12 := f_Ro_add  (ushr st.1.2.2.1 20) st.2
        let x13 := (st.1.2.2.1 &&& 1048575)
        ((st.1.1, st.1.2.1, x13, 7, st.1.2.2.2.2.1, st.1.2.2.2.2.2.1, st.1.2.2.2.2.2.2), u12)
      else
        let u10 := f_Ro_add  (ushr st.1.2.2.1 19) st.2
        let x11 := (st.1.2.2.1 &&& 524287)
        ((st.1.1, st.1.2.1, x11, 8, st.1.2.2.2.2.1, st.1.2.2.2.2.2.1, st.1.2.2.2.2.2.2), u10)
    else
      if st.1.2.2.1 < 134217728 then
        if r1 = 255 then
          let u18 := f_Ro_add  (ushr st.1.2.2.1 20) st.2
          let x19 := (st.1.2.2.1 &&& 1048575)
          ((st.1.1, st.1.2.1, x19, 7, st.1.2.2.2.2.1, st.1.2.2.2.2.2.1, st.1.2.2.2.2.2.2), u18)
        else
          let u16 := f_Ro_add  (ushr st.1.2.2.1 19) st.2
          let x17 := (st.1.2.2.1 &&& 524287)
          ((st.1.1, st.1.2.1, x17, 8, st.1.2.2.2.2.1, st.1.2.2.2.2.2.1, st.1.2.2.2.2.2.2), u16)
      else
        let u20 := f_Ro_raiseLast   st.2
        let x21 := r1 + 1
        let x22 := (st.1.2.2.1 &&& 134217727)
        if x21 = 255 then
          let u26 := f_Ro_add  (ushr x22 20) u20
          let x27 := (x22 &&& 1048575)
          ((st.1.1, st.1.2.1, x27, 7, st.1.2.2.2.2.1, st.1.2.2.2.2.2.1, st.1.2.2.2.2.2.2), u26)
        else
          let u24 := f_Ro_add  (ushr x22 19) u20
          let x25 := (x22 &&& 524287)
          ((st.1.1, st.1.2.1, x25, 8, st.1.2.2.2.2.1, st.1.2.2.2.2.2.1, st.1.2.2.2.2.2.2), u24)
theorem f_En_putOut_s  (st : (EnS) × (RoS)) : f_En_putOut  st = ((
  let r1 := f_Ro_last   st.2
  if r1 < 0 then
    if r1 = 255 then
      let u6 := f_Ro_add  (ushr st.1.2.2.1 20) st.2
      let x7 := (st.1.2.2.1 &&& 1048575)
      ((st.1.1, st.1.2.1, x7, 7, st.1.2.2.2.2.1, st.1.2.2.2.2.2.1, st.1.2.2.2.2.2.2), u6)
    else
      let u4 := f_Ro_add  (ushr st.1.2.2.1 19) st.2
      let x5 := (st.1.2.2.1 &&& 524287)
      ((st.1.1, st.1.2.1, x5, 8, st.1.2.2.2.2.1, st.1.2.2.2.2.2.1, st.1.2.2.2.2.2.2), u4)
  else
    if 255 ≤ r1 then
      if r1 = 255 then
        let u12 := f_Ro_add  (ushr st.1.2.2.1 20) st.2
        let x13 := (st.1.2.2.1 &&& 1048575)
        ((st.1.1, st.1.2.1, x13, 7, st.1.2.2.2.2.1, st.1.2.2.2.2.2.1, st.1.2.2.2.2.2.2), u12)
      else
        let u10 := f_Ro_add  (ushr st.1.2.2.1 19) st.2
        let x11 := (st.1.2.2.1 &&& 524287)
        ((st.1.1, st.1.2.1, x11, 8, st.1.2.2.2.2.1, st.1.2.2.2.2.2.1, st.1.2.2.2.2.2.2), u10)
    else
      if st.1.2.2.1 < 134217728 then
        if r1 = 255 then
          let u18 := f_Ro_add  (ushr st.1.2.2.1 20) st.2
          let x19 := (st.1.2.2.1 &&& 1048575)
          ((st.1.1, st.1.2.1, x19, 7, st.1.2.2.2.2.1, st.1.2.2.2.2.2.1, st.1.2.2.2.2.2.2), u18)
        else
          let u16 := f_Ro_add  (ushr st.1.2.2.1 19) st.2
          let x17 := (st.1.2.2.1 &&& 524287)
          ((st.1.1, st.1.2.1, x17, 8, st.1.2.2.2.2.1, st.1.2.2.2.2.2.1, st.1.2.2.2.2.2.2), u16)
      else
        let u20 := f_Ro_raiseLast   st.2
        let x21 := r1 + 1
        let x22 := (st.1.2.2.1 &&& 134217727)
        if x21 = 255 then
          let u26 := f_Ro_add  (ushr x22 20) u20
          let x27 := (x22 &&& 1048575)
          ((st.1.1, st.1.2.1, x27, 7, st.1.2.2.2.2.1, st.1.2.2.2.2.2.1, st.1.2.2.2.2.2.2), u26)
        else
          let u24 := f_Ro_add  (ushr x22 19) u20
          let x25 := (x22 &&& 524287)
          ((st.1.1, st.1.2.1, x25, 8, st.1.2.2.2.2.1, st.1.2.2.2.2.2.1, st.1.2.2.2.2.2.2), u24)
  : (EnS) × (RoS))) := rfl
set_option maxHeartbeats 4000000 in
set_option maxRecDepth 100000 in
theorem c_En_putOut (l : Launch) (E : Ev) (A : Nat → Prop) (he h a1 a2 a3 : Nat) (st : (EnS) × (RoS))   :
    Kt l y_En_putOut b_En_putOut 2 none 1 0 0 E A [.ref he] [(he, .inr (2, [.ref h, .int (bI st.1.1), .int st.1.2.1, .int st.1.2.2.1, .int st.1.2.2.2.1, .int st.1.2.2.2.2.1, .int st.1.2.2.2.2.2.1, .int st.1.2.2.2.2.2.2])), (h, .inr (0, [.ref a1, .ref a2, .ref a3, .int st.2.1, .int st.2.2.1, .int st.2.2.2.1])), (a1, .inl (E.2.1 0, 42000, .inl st.2.2.2.2.1)), (a2, .inl (E.2.1 0, 513, .inl st.2.2.2.2.2.1)), (a3, .inl (E.2.1 1, 513, .inl st.2.2.2.2.2.2))] (va_Qv (fun u : (EnS) × (RoS) => u = f_En_putOut  st) (ar_W E A (fun u : (EnS) × (RoS) => [(he, .inr (2, [.ref h, .int (bI u.1.1), .int u.1.2.1, .int u.1.2.2.1, .int u.1.2.2.2.1, .int u.1.2.2.2.2.1, .int u.1.2.2.2.2.2.1, .int u.1.2.2.2.2.2.2])), (h, .inr (0, [.ref a1, .ref a2, .ref a3, .int u.2.1, .int u.2.2.1, .int u.2.2.2.1])), (a1, .inl (E.2.1 0, 42000, .inl u.2.2.2.2.1)), (a2, .inl (E.2.1 0, 513, .inl u.2.2.2.2.2.1)), (a3, .inl (E.2.1 1, 513, .inl u.2.2.2.2.2.2))])) A) := by
  refine Kt.of (by decide) (Nat.le_of_ble_eq_true rfl) ?_
  intro p e s m below meth c ls hx hb hml hown hts hr hlocks hex hin hA hZ hP hK hD hl
  have hS : va_S A s.heap s.heap [] := va_S.rf
  have hl : lv_has ls 2 [(0, .ref he)] := hl
  refine lv_aload_n hx hb d_En_putOut_0 rfl (lv_at hl 0 rfl) ?_
  refine va_get (D := E.1) (ci := 2) (v := .ref h) (C := R_En) (T := T_En) (N := 8) hx hb hts in_En hown hK hP 0 rfl rfl 0 (by decide) (hts _ m_86) (fun _ h9 => h9) rfl d_En_putOut_1 ?_
  refine ar_usei (wr := [(he, .inr (2, [.ref h, .int (bI st.1.1), .int st.1.2.1, .int st.1.2.2.1, .int st.1.2.2.2.1, .int st.1.2.2.2.2.1, .int st.1.2.2.2.2.2.1, .int st.1.2.2.2.2.2.2]))]) hP hD hS hA [1, 2, 3, 4] [0] rfl rfl rfl (by decide) (ar_runV (n := 0) (As := []) (rest := []) (ci := 0) (q0 := 0) hx hb hml hown hts hP hD hS hA hK hZ (c_Ro_last l E _ h a1 a2 a3 st.2  ) m_246 m_247 m_248 m_4 m_249 (by decide +kernel) ⟨Nat.le_of_ble_eq_true rfl, Nat.le_of_ble_eq_true rfl⟩ [1, 2, 3, 4] rfl rfl rfl rfl rfl rfl rfl hl.1 rfl (Nat.le_of_ble_eq_true rfl) d_En_putOut_4 ⟨Nat.le_of_ble_eq_true rfl, Nat.le_of_ble_eq_true rfl⟩) (fun r1 _ Hn locsn hw1 hPn hDn hSn => ?_)
  clear hP hD hS
  have hP : va_P E.1 classes [(he, .inr (2, [.ref h, .int (bI st.1.1), .int st.1.2.1, .int st.1.2.2.1, .int st.1.2.2.2.1, .int st.1.2.2.2.2.1, .int st.1.2.2.2.2.2.1, .int st.1.2.2.2.2.2.2])), (h, .inr (0, [.ref a1, .ref a2, .ref a3, .int st.2.1, .int st.2.2.1, .int st.2.2.2.1])), (a1, .inl (E.2.1 0, 42000, .inl st.2.2.2.2.1)), (a2, .inl (E.2.1 0, 513, .inl st.2.2.2.2.2.1)), (a3, .inl (E.2.1 1, 513, .inl st.2.2.2.2.2.2))] Hn := hPn
  have hD : va_D A [(he, .inr (2, [.ref h, .int (bI st.1.1), .int st.1.2.1, .int st.1.2.2.1, .int st.1.2.2.2.1, .int st.1.2.2.2.2.1, .int st.1.2.2.2.2.2.1, .int st.1.2.2.2.2.2.2])), (h, .inr (0, [.ref a1, .ref a2, .ref a3, .int st.2.1, .int st.2.2.1, .int st.2.2.2.1])), (a1, .inl (E.2.1 0, 42000, .inl st.2.2.2.2.1)), (a2, .inl (E.2.1 0, 513, .inl st.2.2.2.2.2.1)), (a3, .inl (E.2.1 1, 513, .inl st.2.2.2.2.2.2))] := hDn
  have hS := hSn
  clear hPn hDn hSn
  refine lv_istore_n (lv' := [(1, .int r1), (0, .ref he)]) hx hb d_En_putOut_7 rfl hl (by decide) rfl (fun ls hl => ?_)
  refine lv_iload_n hx hb d_En_putOut_8 rfl (lv_at hl 0 rfl) ?_
  refine lv_if_lt (tgt := 49) hx hb d_En_putOut_9 (by decide) (fun c2 => ?_) (fun c2 => ?_)
  · skip
    refine lv_iload_n hx hb d_En_putOut_49 rfl (lv_at hl 0 rfl) ?_
    refine lv_sipush (v := 255) hx hb d_En_putOut_50 (by decide) ?_
    refine lv_icmp_ne (tgt := 90) hx hb d_En_putOut_53 (by decide) (fun c3 => ?_) (fun c3 => ?_)
    · skip
      refine lv_aload_n hx hb d_En_putOut_90 rfl (lv_at hl 1 rfl) ?_
      refine va_get (D := E.1) (ci := 2) (v := .ref h) (C := R_En) (T := T_En) (N := 8) hx hb hts in_En hown hK hP 0 rfl rfl 0 (by decide) (hts _ m_86) (fun _ h9 => h9) rfl d_En_putOut_91 ?_
      refine lv_aload_n hx hb d_En_putOut_94 rfl (lv_at hl 1 rfl) ?_
      refine va_get (D := E.1) (ci := 2) (v := .int st.1.2.2.1) (C := R_En) (T := T_En) (N := 8) hx hb hts in_En hown hK hP 0 rfl rfl 3 (by decide) (hts _ m_89) (fun _ h9 => h9) rfl d_En_putOut_95 ?_
      refine lv_bipush (v := 19) hx hb d_En_putOut_98 (by decide) ?_
      refine lv_iushr (v := (ushr st.1.2.2.1 19)) hx hb d_En_putOut_100 rfl ?_
      refine ar_usev (wr := [(he, .inr (2, [.ref h, .int (bI st.1.1), .int st.1.2.1, .int st.1.2.2.1, .int st.1.2.2.2.1, .int st.1.2.2.2.2.1, .int st.1.2.2.2.2.2.1, .int st.1.2.2.2.2.2.2]))]) hP hD hS hA [1, 2, 3, 4] [0] rfl rfl rfl (by decide) (ar_runV (n := 1) (As := [.int (ushr st.1.2.2.1 19)]) (rest := []) (ci := 0) (q0 := 0) hx hb hml hown hts hP hD hS hA hK hZ (c_Ro_add l E _ h a1 a2 a3 st.2 (ushr st.1.2.2.1 19) ) m_233 m_234 m_235 m_4 m_236 (by decide +kernel) ⟨Nat.le_of_ble_eq_true rfl, Nat.le_of_ble_eq_true rfl⟩ [1, 2, 3, 4] rfl rfl rfl rfl rfl rfl rfl hl.1 rfl (Nat.le_of_ble_eq_true rfl) d_En_putOut_101 ⟨Nat.le_of_ble_eq_true rfl, Nat.le_of_ble_eq_true rfl⟩) (fun u4 Hn locsn hw4 hPn hDn hSn => ?_)
      clear hP hD hS
      have hP : va_P E.1 classes [(he, .inr (2, [.ref h, .int (bI st.1.1), .int st.1.2.1, .int st.1.2.2.1, .int st.1.2.2.2.1, .int st.1.2.2.2.2.1, .int st.1.2.2.2.2.2.1, .int st.1.2.2.2.2.2.2])), (h, .inr (0, [.ref a1, .ref a2, .ref a3, .int u4.1, .int u4.2.1, .int u4.2.2.1])), (a1, .inl (E.2.1 0, 42000, .inl u4.2.2.2.1)), (a2, .inl (E.2.1 0, 513, .inl u4.2.2.2.2.1)), (a3, .inl (E.2.1 1, 513, .inl u4.2.2.2.2.2))] Hn := hPn
      have hD : va_D A [(he, .inr (2, [.ref h, .int (bI st.1.1), .int st.1.2.1, .int st.1.2.2.1, .int st.1.2.2.2.1, .int st.1.2.2.2.2.1, .int st.1.2.2.2.2.2.1, .int st.1.2.2.2.2.2.2])), (h, .inr (0, [.ref a1, .ref a2, .ref a3, .int u4.1, .int u4.2.1, .int u4.2.2.1])), (a1, .inl (E.2.1 0, 42000, .inl u4.2.2.2.1)), (a2, .inl (E.2.1 0, 513, .inl u4.2.2.2.2.1)), (a3, .inl (E.2.1 1, 513, .inl u4.2.2.2.2.2))] := hDn
      have hS := hSn
      clear hPn hDn hSn
      refine lv_aload_n hx hb d_En_putOut_104 rfl (lv_at hl 1 rfl) ?_
      refine lv_dup hx hb d_En_putOut_105 rfl ?_
      refine va_get (D := E.1) (ci := 2) (v := .int st.1.2.2.1) (C := R_En) (T := T_En) (N := 8) hx hb hts in_En hown hK hP 0 rfl rfl 3 (by decide) (hts _ m_89) (fun _ h9 => h9) rfl d_En_putOut_106 ?_
      refine lv_ldc (v := 524287) hx hb hown (hts _ m_257) d_En_putOut_109 ?_
      refine lv_iand hx hb d_En_putOut_111 ?_
      refine lv_topi (fun x5 ex5 => ?_)
      refine va_put (D := E.1) (ci := 2) (v := .int x5) (ty := .int) (C := R_En) (T := T_En) (N := 8) hx hb hts in_En t_En t_En_ok n_En hown hK hP hD hS 0 rfl rfl 3 (by decide) (hts _ m_89) (fun _ h9 => h9) rfl (by decide +kernel) rfl rfl (Nat.le_of_ble_eq_true rfl) d_En_putOut_112 (fun Hn locsn hPn hDn hSn => ?_)
      clear hP hD hS
      have hP : va_P E.1 classes [(he, .inr (2, [.ref h, .int (bI st.1.1), .int st.1.2.1, .int x5, .int st.1.2.2.2.1, .int st.1.2.2.2.2.1, .int st.1.2.2.2.2.2.1, .int st.1.2.2.2.2.2.2])), (h, .inr (0, [.ref a1, .ref a2, .ref a3, .int u4.1, .int u4.2.1, .int u4.2.2.1])), (a1, .inl (E.2.1 0, 42000, .inl u4.2.2.2.1)), (a2, .inl (E.2.1 0, 513, .inl u4.2.2.2.2.1)), (a3, .inl (E.2.1 1, 513, .inl u4.2.2.2.2.2))] Hn := hPn
      have hD : va_D A [(he, .inr (2, [.ref h, .int (bI st.1.1), .int st.1.2.1, .int x5, .int st.1.2.2.2.1, .int st.1.2.2.2.2.1, .int st.1.2.2.2.2.2.1, .int st.1.2.2.2.2.2.2])), (h, .inr (0, [.ref a1, .ref a2, .ref a3, .int u4.1, .int u4.2.1, .int u4.2.2.1])), (a1, .inl (E.2.1 0, 42000, .inl u4.2.2.2.1)), (a2, .inl (E.2.1 0, 513, .inl u4.2.2.2.2.1)), (a3, .inl (E.2.1 1, 513, .inl u4.2.2.2.2.2))] := hDn
      have hS := hSn
      clear hPn hDn hSn
      refine lv_aload_n hx hb d_En_putOut_115 rfl (lv_at hl 1 rfl) ?_
      refine lv_bipush (v := 8) hx hb d_En_putOut_116 (by decide) ?_
      refine va_put (D := E.1) (ci := 2) (v := .int 8) (ty := .int) (C := R_En) (T := T_En) (N := 8) hx hb hts in_En t_En t_En_ok n_En hown hK hP hD hS 0 rfl rfl 4 (by decide) (hts _ m_90) (fun _ h9 => h9) rfl (by decide +kernel) rfl rfl (Nat.le_of_ble_eq_true rfl) d_En_putOut_118 (fun Hn locsn hPn hDn hSn => ?_)
      clear hP hD hS
      have hP : va_P E.1 classes [(he, .inr (2, [.ref h, .int (bI st.1.1), .int st.1.2.1, .int x5, .int 8, .int st.1.2.2.2.2.1, .int st.1.2.2.2.2.2.1, .int st.1.2.2.2.2.2.2])), (h, .inr (0, [.ref a1, .ref a2, .ref a3, .int u4.1, .int u4.2.1, .int u4.2.2.1])), (a1, .inl (E.2.1 0, 42000, .inl u4.2.2.2.1)), (a2, .inl (E.2.1 0, 513, .inl u4.2.2.2.2.1)), (a3, .inl (E.2.1 1, 513, .inl u4.2.2.2.2.2))] Hn := hPn
      have hD : va_D A [(he, .inr (2, [.ref h, .int (bI st.1.1), .int st.1.2.1, .int x5, .int 8, .int st.1.2.2.2.2.1, .int st.1.2.2.2.2.2.1, .int st.1.2.2.2.2.2.2])), (h, .inr (0, [.ref a1, .ref a2, .ref a3, .int u4.1, .int u4.2.1, .int u4.2.2.1])), (a1, .inl (E.2.1 0, 42000, .inl u4.2.2.2.1)), (a2, .inl (E.2.1 0, 513, .inl u4.2.2.2.2.1)), (a3, .inl (E.2.1 1, 513, .inl u4.2.2.2.2.2))] := hDn
      have hS := hSn
      clear hPn hDn hSn
      exact ar_vret hx hb hr hlocks hK hS ((st.1.1, st.1.2.1, x5, 8, st.1.2.2.2.2.1, st.1.2.2.2.2.2.1, st.1.2.2.2.2.2.2), u4) (by subst ex5; subst hw4; subst hw1; exact Eq.symm (Eq.trans (f_En_putOut_s  st) (Eq.trans (if_pos c2) (Eq.trans (if_neg c3) rfl)))) hP hD d_En_putOut_121
    · skip
      refine lv_aload_n hx hb d_En_putOut_56 rfl (lv_at hl 1 rfl) ?_
      refine va_get (D := E.1) (ci := 2) (v := .ref h) (C := R_En) (T := T_En) (N := 8) hx hb hts in_En hown hK hP 0 rfl rfl 0 (by decide) (hts _ m_86) (fun _ h9 => h9) rfl d_En_putOut_57 ?_
      refine lv_aload_n hx hb d_En_putOut_60 rfl (lv_at hl 1 rfl) ?_
      refine va_get (D := E.1) (ci := 2) (v := .int st.1.2.2.1) (C := R_En) (T := T_En) (N := 8) hx hb hts in_En hown hK hP 0 rfl rfl 3 (by decide) (hts _ m_89) (fun _ h9 => h9) rfl d_En_putOut_61 ?_
      refine lv_bipush (v := 20) hx hb d_En_putOut_64 (by decide) ?_
      refine lv_iushr (v := (ushr st.1.2.2.1 20)) hx hb d_En_putOut_66 rfl ?_
      refine ar_usev (wr := [(he, .inr (2, [.ref h, .int (bI st.1.1), .int st.1.2.1, .int st.1.2.2.1, .int st.1.2.2.2.1, .int st.1.2.2.2.2.1, .int st.1.2.2.2.2.2.1, .int st.1.2.2.2.2.2.2]))]) hP hD hS hA [1, 2, 3, 4] [0] rfl rfl rfl (by decide) (ar_runV (n := 1) (As := [.int (ushr st.1.2.2.1 20)]) (rest := []) (ci := 0) (q0 := 0) hx hb hml hown hts hP hD hS hA hK hZ (c_Ro_add l E _ h a1 a2 a3 st.2 (ushr st.1.2.2.1 20) ) m_233 m_234 m_235 m_4 m_236 (by decide +kernel) ⟨Nat.le_of_ble_eq_true rfl, Nat.le_of_ble_eq_true rfl⟩ [1, 2, 3, 4] rfl rfl rfl rfl rfl rfl rfl hl.1 rfl (Nat.le_of_ble_eq_true rfl) d_En_putOut_67 ⟨Nat.le_of_ble_eq_true rfl, Nat.le_of_ble_eq_true rfl⟩) (fun u6 Hn locsn hw6 hPn hDn hSn => ?_)
      clear hP hD hS
      have hP : va_P E.1 classes [(he, .inr (2, [.ref h, .int (bI st.1.1), .int st.1.2.1, .int st.1.2.2.1, .int st.1.2.2.2.1, .int st.1.2.2.2.2.1, .int st.1.2.2.2.2.2.1, .int st.1.2.2.2.2.2.2])), (h, .inr (0, [.ref a1, .ref a2, .ref a3, .int u6.1, .int u6.2.1, .int u6.2.2.1])), (a1, .inl (E.2.1 0, 42000, .inl u6.2.2.2.1)), (a2, .inl (E.2.1 0, 513, .inl u6.2.2.2.2.1)), (a3, .inl (E.2.1 1, 513, .inl u6.2.2.2.2.2))] Hn := hPn
      have hD : va_D A [(he, .inr (2, [.ref h, .int (bI st.1.1), .int st.1.2.1, .int st.1.2.2.1, .int st.1.2.2.2.1, .int st.1.2.2.2.2.1, .int st.1.2.2.2.2.2.1, .int st.1.2.2.2.2.2.2])), (h, .inr (0, [.ref a1, .ref a2, .ref a3, .int u6.1, .int u6.2.1, .int u6.2.2.1])), (a1, .inl (E.2.1 0, 42000, .inl u6.2.2.2.1)), (a2, .inl (E.2.1 0, 513, .inl u6.2.2.2.2.1)), (a3, .inl (E.2.1 1, 513, .inl u6.2.2.2.2.2))] := hDn
      have hS := hSn
      clear hPn hDn hSn
      refine lv_aload_n hx hb d_En_putOut_70 rfl (lv_at hl 1 rfl) ?_
      refine lv_dup hx hb d_En_putOut_71 rfl ?_
      refine va_get (D := E.1) (ci := 2) (v := .int st.1.2.2.1) (C := R_En) (T := T_En) (N := 8) hx hb hts in_En hown hK hP 0 rfl rfl 3 (by decide) (hts _ m_89) (fun _ h9 => h9) rfl d_En_putOut_72 ?_
      refine lv_ldc (v := 1048575) hx hb hown (hts _ m_256) d_En_putOut_75 ?_
      refine lv_iand hx hb d_En_putOut_77 ?_
      refine lv_topi (fun x7 ex7 => ?_)
      refine va_put (D := E.1) (ci := 2) (v := .int x7) (ty := .int) (C := R_En) (T := T_En) (N := 8) hx hb hts in_En t_En t_En_ok n_En hown hK hP hD hS 0 rfl rfl 3 (by decide) (hts _ m_89) (fun _ h9 => h9) rfl (by decide +kernel) rfl rfl (Nat.le_of_ble_eq_true rfl) d_En_putOut_78 (fun Hn locsn hPn hDn hSn => ?_)
      clear hP hD hS
      have hP : va_P E.1 classes [(he, .inr (2, [.ref h, .int (bI st.1.1), .int st.1.2.1, .int x7, .int st.1.2.2.2.1, .int st.1.2.2.2.2.1, .int st.1.2.2.2.2.2.1, .int st.1.2.2.2.2.2.2])), (h, .inr (0, [.ref a1, .ref a2, .ref a3, .int u6.1, .int u6.2.1, .int u6.2.2.1])), (a1, .inl (E.2.1 0, 42000, .inl u6.2.2.2.1)), (a2, .inl (E.2.1 0, 513, .inl u6.2.2.2.2.1)), (a3, .inl (E.2.1 1, 513, .inl u6.2.2.2.2.2))] Hn := hPn
      have hD : va_D A [(he, .inr (2, [.ref h, .int (bI st.1.1), .int st.1.2.1, .int x7, .int st.1.2.2.2.1, .int st.1.2.2.2.2.1, .int st.1.2.2.2.2.2.1, .int st.1.2.2.2.2.2.2])), (h, .inr (0, [.ref a1, .ref a2, .ref a3, .int u6.1, .int u6.2.1, .int u6.2.2.1])), (a1, .inl (E.2.1 0, 42000, .inl u6.2.2.2.1)), (a2, .inl (E.2.1 0, 513, .inl u6.2.2.2.2.1)), (a3, .inl (E.2.1 1, 513, .inl u6.2.2.2.2.2))] := hDn
      have hS := hSn
      clear hPn hDn hSn
      refine lv_aload_n hx hb d_En_putOut_81 rfl (lv_at hl 1 rfl) ?_
      refine lv_bipush (v := 7) hx hb d_En_putOut_82 (by decide) ?_
      refine va_put (D := E.1) (ci := 2) (v := .int 7) (ty := .int) (C := R_En) (T := T_En) (N := 8) hx hb hts in_En t_En t_En_ok n_En hown hK hP hD hS 0 rfl rfl 4 (by decide) (hts _ m_90) (fun _ h9 => h9) rfl (by decide +kernel) rfl rfl (Nat.le_of_ble_eq_true rfl) d_En_putOut_84 (fun Hn locsn hPn hDn hSn => ?_)
      clear hP hD hS
      have hP : va_P E.1 classes [(he, .inr (2, [.ref h, .int (bI st.1.1), .int st.1.2.1, .int x7, .int 7, .int st.1.2.2.2.2.1, .int st.1.2.2.2.2.2.1, .int st.1.2.2.2.2.2.2])), (h, .inr (0, [.ref a1, .ref a2, .ref a3, .int u6.1, .int u6.2.1, .int u6.2.2.1])), (a1, .inl (E.2.1 0, 42000, .inl u6.2.2.2.1)), (a2, .inl (E.2.1 0, 513, .inl u6.2.2.2.2.1)), (a3, .inl (E.2.1 1, 513, .inl u6.2.2.2.2.2))] Hn := hPn
      have hD : va_D A [(he, .inr (2, [.ref h, .int (bI st.1.1), .int st.1.2.1, .int x7, .int 7, .int st.1.2.2.2.2.1, .int st.1.2.2.2.2.2.1, .int st.1.2.2.2.2.2.2])), (h, .inr (0, [.ref a1, .ref a2, .ref a3, .int u6.1, .int u6.2.1, .int u6.2.2.1])), (a1, .inl (E.2.1 0, 42000, .inl u6.2.2.2.1)), (a2, .inl (E.2.1 0, 513, .inl u6.2.2.2.2.1)), (a3, .inl (E.2.1 1, 513, .inl u6.2.2.2.2.2))] := hDn
      have hS := hSn
      clear hPn hDn hSn
      refine lv_goto (tgt := 121) hx hb d_En_putOut_87 (by decide) ?_
      exact ar_vret hx hb hr hlocks hK hS ((st.1.1, st.1.2.1, x7, 7, st.1.2.2.2.2.1, st.1.2.2.2.2.2.1, st.1.2.2.2.2.2.2), u6) (by subst ex7; subst hw6; subst hw1; exact Eq.symm (Eq.trans (f_En_putOut_s  st) (Eq.trans (if_pos c2) (Eq.trans (if_pos c3) rfl)))) hP hD d_En_putOut_121
  · skip
    refine lv_iload_n hx hb d_En_putOut_12 rfl (lv_at hl 0 rfl) ?_
    refine lv_sipush (v := 255) hx hb d_En_putOut_13 (by decide) ?_
    refine lv_icmp_ge (tgt := 49) hx hb d_En_putOut_16 (by decide) (fun c8 => ?_) (fun c8 => ?_)
    · skip
      refine lv_iload_n hx hb d_En_putOut_49 rfl (lv_at hl 0 rfl) ?_
      refine lv_sipush (v := 255) hx hb d_En_putOut_50 (by decide) ?_
      refine lv_icmp_ne (tgt := 90) hx hb d_En_putOut_53 (by decide) (fun c9 => ?_) (fun c9 => ?_)
      · skip
        refine lv_aload_n hx hb d_En_putOut_90 rfl (lv_at hl 1 rfl) ?_
        refine va_get (D := E.1) (ci := 2) (v := .ref h) (C := R_En) (T := T_En) (N := 8) hx hb hts in_En hown hK hP 0 rfl rfl 0 (by decide) (hts _ m_86) (fun _ h9 => h9) rfl d_En_putOut_91 ?_
        refine lv_aload_n hx hb d_En_putOut_94 rfl (lv_at hl 1 rfl) ?_
        refine va_get (D := E.1) (ci := 2) (v := .int st.1.2.2.1) (C := R_En) (T := T_En) (N := 8) hx hb hts in_En hown hK hP 0 rfl rfl 3 (by decide) (hts _ m_89) (fun _ h9 => h9) rfl d_En_putOut_95 ?_
        refine lv_bipush (v := 19) hx hb d_En_putOut_98 (by decide) ?_
        refine lv_iushr (v := (ushr st.1.2.2.1 19)) hx hb d_En_putOut_100 rfl ?_
        refine ar_usev (wr := [(he, .inr (2, [.ref h, .int (bI st.1.1), .int st.1.2.1, .int st.1.2.2.1, .int st.1.2.2.2.1, .int st.1.2.2.2.2.1, .int st.1.2.2.2.2.2.1, .int st.1.2.2.2.2.2.2]))]) hP hD hS hA [1, 2, 3, 4] [0] rfl rfl rfl (by decide) (ar_runV (n := 1) (As := [.int (ushr st.1.2.2.1 19)]) (rest := []) (ci := 0) (q0 := 0) hx hb hml hown hts hP hD hS hA hK hZ (c_Ro_add l E _ h a1 a2 a3 st.2 (ushr st.1.2.2.1 19) ) m_233 m_234 m_235 m_4 m_236 (by decide +kernel) ⟨Nat.le_of_ble_eq_true rfl, Nat.le_of_ble_eq_true rfl⟩ [1, 2, 3, 4] rfl rfl rfl rfl rfl rfl rfl hl.1 rfl (Nat.le_of_ble_eq_true rfl) d_En_putOut_101 ⟨Nat.le_of_ble_eq_true rfl, Nat.le_of_ble_eq_true rfl⟩) (fun u10 Hn locsn hw10 hPn hDn hSn => ?_)
        clear hP hD hS
        have hP : va_P E.1 classes [(he, .inr (2, [.ref h, .int (bI st.1.1), .int st.1.2.1, .int st.1.2.2.1, .int st.1.2.2.2.1, .int st.1.2.2.2.2.1, .int st.1.2.2.2.2.2.1, .int st.1.2.2.2.2.2.2])), (h, .inr (0, [.ref a1, .ref a2, .ref a3, .int u10.1, .int u10.2.1, .int u10.2.2.1])), (a1, .inl (E.2.1 0, 42000, .inl u10.2.2.2.1)), (a2, .inl (E.2.1 0, 513, .inl u10.2.2.2.2.1)), (a3, .inl (E.2.1 1, 513, .inl u10.2.2.2.2.2))] Hn := hPn
        have hD : va_D A [(he, .inr (2, [.ref h, .int (bI st.1.1), .int st.1.2.1, .int st.1.2.2.1, .int st.1.2.2.2.1, .int st.1.2.2.2.2.1, .int st.1.2.2.2.2.2.1, .int st.1.2.2.2.2.2.2])), (h, .inr (0, [.ref a1, .ref a2, .ref a3, .int u10.1, .int u10.2.1, .int u10.2.2.1])), (a1, .inl (E.2.1 0, 42000, .inl u10.2.2.2.1)), (a2, .inl (E.2.1 0, 513, .inl u10.2.2.2.2.1)), (a3, .inl (E.2.1 1, 513, .inl u10.2.2.2.2.2))] := hDn
        have hS := hSn
        clear hPn hDn hSn
        refine lv_aload_n hx hb d_En_putOut_104 rfl (lv_at hl 1 rfl) ?_
        refine lv_dup hx hb d_En_putOut_105 rfl ?_
        refine va_get (D := E.1) (ci := 2) (v := .int st.1.2.2.1) (C := R_En) (T := T_En) (N := 8) hx hb hts in_En hown hK hP 0 rfl rfl 3 (by decide) (hts _ m_89) (fun _ h9 => h9) rfl d_En_putOut_106 ?_
        refine lv_ldc (v := 524287) hx hb hown (hts _ m_257) d_En_putOut_109 ?_
        refine lv_iand hx hb d_En_putOut_111 ?_
        refine lv_topi (fun x11 ex11 => ?_)
        refine va_put (D := E.1) (ci := 2) (v := .int x11) (ty := .int) (C := R_En) (T := T_En) (N := 8) hx hb hts in_En t_En t_En_ok n_En hown hK hP hD hS 0 rfl rfl 3 (by decide) (hts _ m_89) (fun _ h9 => h9) rfl (by decide +kernel) rfl rfl (Nat.le_of_ble_eq_true rfl) d_En_putOut_112 (fun Hn locsn hPn hDn hSn => ?_)
        clear hP hD hS
        have hP : va_P E.1 classes [(he, .inr (2, [.ref h, .int (bI st.1.1), .int st.1.2.1, .int x11, .int st.1.2.2.2.1, .int st.1.2.2.2.2.1, .int st.1.2.2.2.2.2.1, .int st.1.2.2.2.2.2.2])), (h, .inr (0, [.ref a1, .ref a2, .ref a3, .int u10.1, .int u10.2.1, .int u10.2.2.1])), (a1, .inl (E.2.1 0, 42000, .inl u10.2.2.2.1)), (a2, .inl (E.2.1 0, 513, .inl u10.2.2.2.2.1)), (a3, .inl (E.2.1 1, 513, .inl u10.2.2.2.2.2))] Hn := hPn
        have hD : va_D A [(he, .inr (2, [.ref h, .int (bI st.1.1), .int st.1.2.1, .int x11, .int st.1.2.2.2.1, .int st.1.2.2.2.2.1, .int st.1.2.2.2.2.2.1, .int st.1.2.2.2.2.2.2])), (h, .inr (0, [.ref a1, .ref a2, .ref a3, .int u10.1, .int u10.2.1, .int u10.2.2.1])), (a1, .inl (E.2.1 0, 42000, .inl u10.2.2.2.1)), (a2, .inl (E.2.1 0, 513, .inl u10.2.2.2.2.1)), (a3, .inl (E.2.1 1, 513, .inl u10.2.2.2.2.2))] := hDn
        have hS := hSn
        clear hPn hDn hSn
        refine lv_aload_n hx hb d_En_putOut_115 rfl (lv_at hl 1 rfl) ?_
        refine lv_bipush (v := 8) hx hb d_En_putOut_116 (by decide) ?_
        refine va_put (D := E.1) (ci := 2) (v := .int 8) (ty := .int) (C := R_En) (T := T_En) (N := 8) hx hb hts in_En t_En t_En_ok n_En hown hK hP hD hS 0 rfl rfl 4 (by decide) (hts _ m_90) (fun _ h9 => h9) rfl (by decide +kernel) rfl rfl (Nat.le_of_ble_eq_true rfl) d_En_putOut_118 (fun Hn locsn hPn hDn hSn => ?_)
        clear hP hD hS
        have hP : va_P E.1 classes [(he, .inr (2, [.ref h, .int (bI st.1.1), .int st.1.2.1, .int x11, .int 8, .int st.1.2.2.2.2.1, .int st.1.2.2.2.2.2.1, .int st.1.2.2.2.2.2.2])), (h, .inr (0, [.ref a1, .ref a2, .ref a3, .int u10.1, .int u10.2.1, .int u10.2.2.1])), (a1, .inl (E.2.1 0, 42000, .inl u10.2.2.2.1)), (a2, .inl (E.2.1 0, 513, .inl u10.2.2.2.2.1)), (a3, .inl (E.2.1 1, 513, .inl u10.2.2.2.2.2))] Hn := hPn
        have hD : va_D A [(he, .inr (2, [.ref h, .int (bI st.1.1), .int st.1.2.1, .int x11, .int 8, .int st.1.2.2.2.2.1, .int st.1.2.2.2.2.2.1, .int st.1.2.2.2.2.2.2])), (h, .inr (0, [.ref a1, .ref a2, .ref a3, .int u10.1, .int u10.2.1, .int u10.2.2.1])), (a1, .inl (E.2.1 0, 42000, .inl u10.2.2.2.1)), (a2, .inl (E.2.1 0, 513, .inl u10.2.2.2.2.1)), (a3, .inl (E.2.1 1, 513, .inl u10.2.2.2.2.2))] := hDn
        have hS := hSn
        clear hPn hDn hSn
        exact ar_vret hx hb hr hlocks hK hS ((st.1.1, st.1.2.1, x11, 8, st.1.2.2.2.2.1, st.1.2.2.2.2.2.1, st.1.2.2.2.2.2.2), u10) (by subst ex11; subst hw10; subst hw1; exact Eq.symm (Eq.trans (f_En_putOut_s  st) (Eq.trans (if_neg c2) (Eq.trans (if_pos c8) (Eq.trans (if_neg c9) rfl))))) hP hD d_En_putOut_121
      · skip
        refine lv_aload_n hx hb d_En_putOut_56 rfl (lv_at hl 1 rfl) ?_
        refine va_get (D := E.1) (ci := 2) (v := .ref h) (C := R_En) (T := T_En) (N := 8) hx hb hts in_En hown hK hP 0 rfl rfl 0 (by decide) (hts _ m_86) (fun _ h9 => h9) rfl d_En_putOut_57 ?_
        refine lv_aload_n hx hb d_En_putOut_60 rfl (lv_at hl 1 rfl) ?_
        refine va_get (D := E.1) (ci := 2) (v := .int st.1.2.2.1) (C := R_En) (T := T_En) (N := 8) hx hb hts in_En hown hK hP 0 rfl rfl 3 (by decide) (hts _ m_89) (fun _ h9 => h9) rfl d_En_putOut_61 ?_
        refine lv_bipush (v := 20) hx hb d_En_putOut_64 (by decide) ?_
        refine lv_iushr (v := (ushr st.1.2.2.1 20)) hx hb d_En_putOut_66 rfl ?_
        refine ar_usev (wr := [(he, .inr (2, [.ref h, .int (bI st.1.1), .int st.1.2.1, .int st.1.2.2.1, .int st.1.2.2.2.1, .int st.1.2.2.2.2.1, .int st.1.2.2.2.2.2.1, .int st.1.2.2.2.2.2.2]))]) hP hD hS hA [1, 2, 3, 4] [0] rfl rfl rfl (by decide) (ar_runV (n := 1) (As := [.int (ushr st.1.2.2.1 20)]) (rest := []) (ci := 0) (q0 := 0) hx hb hml hown hts hP hD hS hA hK hZ (c_Ro_add l E _ h a1 a2 a3 st.2 (ushr st.1.2.2.1 20) ) m_233 m_234 m_235 m_4 m_236 (by decide +kernel) ⟨Nat.le_of_ble_eq_true rfl, Nat.le_of_ble_eq_true rfl⟩ [1, 2, 3, 4] rfl rfl rfl rfl rfl rfl rfl hl.1 rfl (Nat.le_of_ble_eq_true rfl) d_En_putOut_67 ⟨Nat.le_of_ble_eq_true rfl, Nat.le_of_ble_eq_true rfl⟩) (fun u12 Hn locsn hw12 hPn hDn hSn => ?_)
        clear hP hD hS
        have hP : va_P E.1 classes [(he, .inr (2, [.ref h, .int (bI st.1.1), .int st.1.2.1, .int st.1.2.2.1, .int st.1.2.2.2.1, .int st.1.2.2.2.2.1, .int st.1.2.2.2.2.2.1, .int st.1.2.2.2.2.2.2])), (h, .inr (0, [.ref a1, .ref a2, .ref a3, .int u12.1, .int u12.2.1, .int u12.2.2.1])), (a1, .inl (E.2.1 0, 42000, .inl u12.2.2.2.1)), (a2, .inl (E.2.1 0, 513, .inl u12.2.2.2.2.1)), (a3, .inl (E.2.1 1, 513, .inl u12.2.2.2.2.2))] Hn := hPn
        have hD : va_D A [(he, .inr (2, [.ref h, .int (bI st.1.1), .int st.1.2.1, .int st.1.2.2.1, .int st.1.2.2.2.1, .int st.1.2.2.2.2.1, .int st.1.2.2.2.2.2.1, .int st.1.2.2.2.2.2.2])), (h, .inr (0, [.ref a1, .ref a2, .ref a3, .int u12.1, .int u12.2.1, .int u12.2.2.1])), (a1, .inl (E.2.1 0, 42000, .inl u12.2.2.2.1)), (a2, .inl (E.2.1 0, 513, .inl u12.2.2.2.2.1)), (a3, .inl (E.2.1 1, 513, .inl u12.2.2.2.2.2))] := hDn
        have hS := hSn
        clear hPn hDn hSn
        refine lv_aload_n hx hb d_En_putOut_70 rfl (lv_at hl 1 rfl) ?_
        refine lv_dup hx hb d_En_putOut_71 rfl ?_
        refine va_get (D := E.1) (ci := 2) (v := .int st.1.2.2.1) (C := R_En) (T := T_En) (N := 8) hx hb hts in_En hown hK hP 0 rfl rfl 3 (by decide) (hts _ m_89) (fun _ h9 => h9) rfl d_En_putOut_72 ?_
        refine lv_ldc (v := 1048575) hx hb hown (hts _ m_256) d_En_putOut_75 ?_
        refine lv_iand hx hb d_En_putOut_77 ?_
        refine lv_topi (fun x13 ex13 => ?_)
        refine va_put (D := E.1) (ci := 2) (v := .int x13) (ty := .int) (C := R_En) (T := T_En) (N := 8) hx hb hts in_En t_En t_En_ok n_En hown hK hP hD hS 0 rfl rfl 3 (by decide) (hts _ m_89) (fun _ h9 => h9) rfl (by decide +kernel) rfl rfl (Nat.le_of_ble_eq_true rfl) d_En_putOut_78 (fun Hn locsn hPn hDn hSn => ?_)
        clear hP hD hS
        have hP : va_P E.1 classes [(he, .inr (2, [.ref h, .int (bI st.1.1), .int st.1.2.1, .int x13, .int st.1.2.2.2.1, .int st.1.2.2.2.2.1, .int st.1.2.2.2.2.2.1, .int st.1.2.2.2.2.2.2])), (h, .inr (0, [.ref a1, .ref a2, .ref a3, .int u12.1, .int u12.2.1, .int u12.2.2.1])), (a1, .inl (E.2.1 0, 42000, .inl u12.2.2.2.1)), (a2, .inl (E.2.1 0, 513, .inl u12.2.2.2.2.1)), (a3, .inl (E.2.1 1, 513, .inl u12.2.2.2.2.2))] Hn := hPn
        have hD : va_D A [(he, .inr (2, [.ref h, .int (bI st.1.1), .int st.1.2.1, .int x13, .int st.1.2.2.2.1, .int st.1.2.2.2.2.1, .int st.1.2.2.2.2.2.1, .int st.1.2.2.2.2.2.2])), (h, .inr (0, [.ref a1, .ref a2, .ref a3, .int u12.1, .int u12.2.1, .int u12.2.2.1])), (a1, .inl (E.2.1 0, 42000, .inl u12.2.2.2.1)), (a2, .inl (E.2.1 0, 513, .inl u12.2.2.2.2.1)), (a3, .inl (E.2.1 1, 513, .inl u12.2.2.2.2.2))] := hDn
        have hS := hSn
        clear hPn hDn hSn
        refine lv_aload_n hx hb d_En_putOut_81 rfl (lv_at hl 1 rfl) ?_
        refine lv_bipush (v := 7) hx hb d_En_putOut_82 (by decide) ?_
        refine va_put (D := E.1) (ci := 2) (v := .int 7) (ty := .int) (C := R_En) (T := T_En) (N := 8) hx hb hts in_En t_En t_En_ok n_En hown hK hP hD hS 0 rfl rfl 4 (by decide) (hts _ m_90) (fun _ h9 => h9) rfl (by decide +kernel) rfl rfl (Nat.le_of_ble_eq_true rfl) d_En_putOut_84 (fun Hn locsn hPn hDn hSn => ?_)
        clear hP hD hS
        have hP : va_P E.1 classes [(he, .inr (2, [.ref h, .int (bI st.1.1), .int st.1.2.1, .int x13, .int 7, .int st.1.2.2.2.2.1, .int st.1.2.2.2.2.2.1, .int st.1.2.2.2.2.2.2])), (h, .inr (0, [.ref a1, .ref a2, .ref a3, .int u12.1, .int u12.2.1, .int u12.2.2.1])), (a1, .inl (E.2.1 0, 42000, .inl u12.2.2.2.1)), (a2, .inl (E.2.1 0, 513, .inl u12.2.2.2.2.1)), (a3, .inl (E.2.1 1, 513, .inl u12.2.2.2.2.2))] Hn := hPn
        have hD : va_D A [(he, .inr (2, [.ref h, .int (bI st.1.1), .int st.1.2.1, .int x13, .int 7, .int st.1.2.2.2.2.1, .int st.1.2.2.2.2.2.1, .int st.1.2.2.2.2.2.2])), (h, .inr (0, [.ref a1, .ref a2, .ref a3, .int u12.1, .int u12.2.1, .int u12.2.2.1])), (a1, .inl (E.2.1 0, 42000, .inl u12.2.2.2.1)), (a2, .inl (E.2.1 0, 513, .inl u12.2.2.2.2.1)), (a3, .inl (E.2.1 1, 513, .inl u12.2.2.2.2.2))] := hDn
        have hS := hSn
        clear hPn hDn hSn
        refine lv_goto (tgt := 121) hx hb d_En_putOut_87 (by decide) ?_
        exact ar_vret hx hb hr hlocks hK hS ((st.1.1, st.1.2.1, x13, 7, st.1.2.2.2.2.1, st.1.2.2.2.2.2.1, st.1.2.2.2.2.2.2), u12) (by subst ex13; subst hw12; subst hw1; exact Eq.symm (Eq.trans (f_En_putOut_s  st) (Eq.trans (if_neg c2) (Eq.trans (if_pos c8) (Eq.trans (if_pos c9) rfl))))) hP hD d_En_putOut_121
    · skip
      refine lv_aload_n hx hb d_En_putOut_19 rfl (lv_at hl 1 rfl) ?_
      refine va_get (D := E.1) (ci := 2) (v := .int st.1.2.2.1) (C := R_En) (T := T_En) (N := 8) hx hb hts in_En hown hK hP 0 rfl rfl 3 (by decide) (hts _ m_89) (fun _ h9 => h9) rfl d_En_putOut_20 ?_
      refine lv_ldc (v := 134217728) hx hb hown (hts _ m_250) d_En_putOut_23 ?_
      refine lv_icmp_lt (tgt := 49) hx hb d_En_putOut_25 (by decide) (fun c14 => ?_) (fun c14 => ?_)
      · skip
        refine lv_iload_n hx hb d_En_putOut_49 rfl (lv_at hl 0 rfl) ?_
        refine lv_sipush (v := 255) hx hb d_En_putOut_50 (by decide) ?_
        refine lv_icmp_ne (tgt := 90) hx hb d_En_putOut_53 (by decide) (fun c15 => ?_) (fun c15 => ?_)
        · skip
          refine lv_aload_n hx hb d_En_putOut_90 rfl (lv_at hl 1 rfl) ?_
          refine va_get (D := E.1) (ci := 2) (v := .ref h) (C := R_En) (T := T_En) (N := 8) hx hb hts in_En hown hK hP 0 rfl rfl 0 (by decide) (hts _ m_86) (fun _ h9 => h9) rfl d_En_putOut_91 ?_
          refine lv_aload_n hx hb d_En_putOut_94 rfl (lv_at hl 1 rfl) ?_
          refine va_get (D := E.1) (ci := 2) (v := .int st.1.2.2.1) (C := R_En) (T := T_En) (N := 8) hx hb hts in_En hown hK hP 0 rfl rfl 3 (by decide) (hts _ m_89) (fun _ h9 => h9) rfl d_En_putOut_95 ?_
          refine lv_bipush (v := 19) hx hb d_En_putOut_98 (by decide) ?_
          refine lv_iushr (v := (ushr st.1.2.2.1 19)) hx hb d_En_putOut_100 rfl ?_
          refine ar_usev (wr := [(he, .inr (2, [.ref h, .int (bI st.1.1), .int st.1.2.1, .int st.1.2.2.1, .int st.1.2.2.2.1, .int st.1.2.2.2.2.1, .int st.1.2.2.2.2.2.1, .int st.1.2.2.2.2.2.2]))]) hP hD hS hA [1, 2, 3, 4] [0] rfl rfl rfl (by decide) (ar_runV (n := 1) (As := [.int (ushr st.1.2.2.1 19)]) (rest := []) (ci := 0) (q0 := 0) hx hb hml hown hts hP hD hS hA hK hZ (c_Ro_add l E _ h a1 a2 a3 st.2 (ushr st.1.2.2.1 19) ) m_233 m_234 m_235 m_4 m_236 (by decide +kernel) ⟨Nat.le_of_ble_eq_true rfl, Nat.le_of_ble_eq_true rfl⟩ [1, 2, 3, 4] rfl rfl rfl rfl rfl rfl rfl hl.1 rfl (Nat.le_of_ble_eq_true rfl) d_En_putOut_101 ⟨Nat.le_of_ble_eq_true rfl, Nat.le_of_ble_eq_true rfl⟩) (fun u16 Hn locsn hw16 hPn hDn hSn => ?_)
          clear hP hD hS
          have hP : va_P E.1 classes [(he, .inr (2, [.ref h, .int (bI st.1.1), .int st.1.2.1, .int st.1.2.2.1, .int st.1.2.2.2.1, .int st.1.2.2.2.2.1, .int st.1.2.2.2.2.2.1, .int st.1.2.2.2.2.2.2])), (h, .inr (0, [.ref a1, .ref a2, .ref a3, .int u16.1, .int u16.2.1, .int u16.2.2.1])), (a1, .inl (E.2.1 0, 42000, .inl u16.2.2.2.1)), (a2, .inl (E.2.1 0, 513, .inl u16.2.2.2.2.1)), (a3, .inl (E.2.1 1, 513, .inl u16.2.2.2.2.2))] Hn := hPn
          have hD : va_D A [(he, .inr (2, [.ref h, .int (bI st.1.1), .int st.1.2.1, .int st.1.2.2.1, .int st.1.2.2.2.1, .int st.1.2.2.2.2.1, .int st.1.2.2.2.2.2.1, .int st.1.2.2.2.2.2.2])), (h, .inr (0, [.ref a1, .ref a2, .ref a3, .int u16.1, .int u16.2.1, .int u16.2.2.1])), (a1, .inl (E.2.1 0, 42000, .inl u16.2.2.2.1)), (a2, .inl (E.2.1 0, 513, .inl u16.2.2.2.2.1)), (a3, .inl (E.2.1 1, 513, .inl u16.2.2.2.2.2))] := hDn
          have hS := hSn
          clear hPn hDn hSn
          refine lv_aload_n hx hb d_En_putOut_104 rfl (lv_at hl 1 rfl) ?_
          refine lv_dup hx hb d_En_putOut_105 rfl ?_
          refine va_get (D := E.1) (ci := 2) (v := .int st.1.2.2.1) (C := R_En) (T := T_En) (N := 8) hx hb hts in_En hown hK hP 0 rfl rfl 3 (by decide) (hts _ m_89) (fun _ h9 => h9) rfl d_En_putOut_106 ?_
          refine lv_ldc (v := 524287) hx hb hown (hts _ m_257) d_En_putOut_109 ?_
          refine lv_iand hx hb d_En_putOut_111 ?_
          refine lv_topi (fun x17 ex17 => ?_)
          refine va_put (D := E.1) (ci := 2) (v := .int x17) (ty := .int) (C := R_En) (T := T_En) (N := 8) hx hb hts in_En t_En t_En_ok n_En hown hK hP hD hS 0 rfl rfl 3 (by decide) (hts _ m_89) (fun _ h9 => h9) rfl (by decide +kernel) rfl rfl (Nat.le_of_ble_eq_true rfl) d_En_putOut_112 (fun Hn locsn hPn hDn hSn => ?_)
          clear hP hD hS
          have hP : va_P E.1 classes [(he, .inr (2, [.ref h, .int (bI st.1.1), .int st.1.2.1, .int x17, .int st.1.2.2.2.1, .int st.1.2.2.2.2.1, .int st.1.2.2.2.2.2.1, .int st.1.2.2.2.2.2.2])), (h, .inr (0, [.ref a1, .ref a2, .ref a3, .int u16.1, .int u16.2.1, .int u16.2.2.1])), (a1, .inl (E.2.1 0, 42000, .inl u16.2.2.2.1)), (a2, .inl (E.2.1 0, 513, .inl u16.2.2.2.2.1)), (a3, .inl (E.2.1 1, 513, .inl u16.2.2.2.2.2))] Hn := hPn
          have hD : va_D A [(he, .inr (2, [.ref h, .int (bI st.1.1), .int st.1.2.1, .int x17, .int st.1.2.2.2.1, .int st.1.2.2.2.2.1, .int st.1.2.2.2.2.2.1, .int st.1.2.2.2.2.2.2])), (h, .inr (0, [.ref a1, .ref a2, .ref a3, .int u16.1, .int u16.2.1, .int u16.2.2.1])), (a1, .inl (E.2.1 0, 42000, .inl u16.2.2.2.1)), (a2, .inl (E.2.1 0, 513, .inl u16.2.2.2.2.1)), (a3, .inl (E.2.1 1, 513, .inl u16.2.2.2.2.2))] := hDn
          have hS := hSn
          clear hPn hDn hSn
          refine lv_aload_n hx hb d_En_putOut_115 rfl (lv_at hl 1 rfl) ?_
          refine lv_bipush (v := 8) hx hb d_En_putOut_116 (by decide) ?_
          refine va_put (D := E.1) (ci := 2) (v := .int 8) (ty := .int) (C := R_En) (T := T_En) (N := 8) hx hb hts in_En t_En t_En_ok n_En hown hK hP hD hS 0 rfl rfl 4 (by decide) (hts _ m_90) (fun _ h9 => h9) rfl (by decide +kernel) rfl rfl (Nat.le_of_ble_eq_true rfl) d_En_putOut_118 (fun Hn locsn hPn hDn hSn => ?_)
          clear hP hD hS
          have hP : va_P E.1 classes [(he, .inr (2, [.ref h, .int (bI st.1.1), .int st.1.2.1, .int x17, .int 8, .int st.1.2.2.2.2.1, .int st.1.2.2.2.2.2.1, .int st.1.2.2.2.2.2.2])), (h, .inr (0, [.ref a1, .ref a2, .ref a3, .int u16.1, .int u16.2.1, .int u16.2.2.1])), (a1, .inl (E.2.1 0, 42000, .inl u16.2.2.2.1)), (a2, .inl (E.2.1 0, 513, .inl u16.2.2.2.2.1)), (a3, .inl (E.2.1 1, 513, .inl u16.2.2.2.2.2))] Hn := hPn
          have hD : va_D A [(he, .inr (2, [.ref h, .int (bI st.1.1), .int st.1.2.1, .int x17, .int 8, .int st.1.2.2.2.2.1, .int st.1.2.2.2.2.2.1, .int st.1.2.2.2.2.2.2])), (h, .inr (0, [.ref a1, .ref a2, .ref a3, .int u16.1, .int u16.2.1, .int u16.2.2.1])), (a1, .inl (E.2.1 0, 42000, .inl u16.2.2.2.1)), (a2, .inl (E.2.1 0, 513, .inl u16.2.2.2.2.1)), (a3, .inl (E.2.1 1, 513, .inl u16.2.2.2.2.2))] := hDn
          have hS := hSn
          clear hPn hDn hSn
          exact ar_vret hx hb hr hlocks hK hS ((st.1.1, st.1.2.1, x17, 8, st.1.2.2.2.2.1, st.1.2.2.2.2.2.1, st.1.2.2.2.2.2.2), u16) (by subst ex17; subst hw16; subst hw1; exact Eq.symm (Eq.trans (f_En_putOut_s  st) (Eq.trans (if_neg c2) (Eq.trans (if_neg c8) (Eq.trans (if_pos c14) (Eq.trans (if_neg c15) rfl)))))) hP hD d_En_putOut_121
        · skip
          refine lv_aload_n hx hb d_En_putOut_56 rfl (lv_at hl 1 rfl) ?_
          refine va_get (D := E.1) (ci := 2) (v := .ref h) (C := R_En) (T := T_En) (N := 8) hx hb hts in_En hown hK hP 0 rfl rfl 0 (by decide) (hts _ m_86) (fun _ h9 => h9) rfl d_En_putOut_57 ?_
          refine lv_aload_n hx hb d_En_putOut_60 rfl (lv_at hl 1 rfl) ?_
          refine va_get (D := E.1) (ci := 2) (v := .int st.1.2.2.1) (C := R_En) (T := T_En) (N := 8) hx hb hts in_En hown hK hP 0 rfl rfl 3 (by decide) (hts _ m_89) (fun _ h9 => h9) rfl d_En_putOut_61 ?_
          refine lv_bipush (v := 20) hx hb d_En_putOut_64 (by decide) ?_
          refine lv_iushr (v := (ushr st.1.2.2.1 20)) hx hb d_En_putOut_66 rfl ?_
          refine ar_usev (wr := [(he, .inr (2, [.ref h, .int (bI st.1.1), .int st.1.2.1, .int st.1.2.2.1, .int st.1.2.2.2.1, .int st.1.2.2.2.2.1, .int st.1.2.2.2.2.2.1, .int st.1.2.2.2.2.2.2]))]) hP hD hS hA [1, 2, 3, 4] [0] rfl rfl rfl (by decide) (ar_runV (n := 1) (As := [.int (ushr st.1.2.2.1 20)]) (rest := []) (ci := 0) (q0 := 0) hx hb hml hown hts hP hD hS hA hK hZ (c_Ro_add l E _ h a1 a2 a3 st.2 (ushr st.1.2.2.1 20) ) m_233 m_234 m_235 m_4 m_236 (by decide +kernel) ⟨Nat.le_of_ble_eq_true rfl, Nat.le_of_ble_eq_true rfl⟩ [1, 2, 3, 4] rfl rfl rfl rfl rfl rfl rfl hl.1 rfl (Nat.le_of_ble_eq_true rfl) d_En_putOut_67 ⟨Nat.le_of_ble_eq_true rfl, Nat.le_of_ble_eq_true rfl⟩) (fun u18 Hn locsn hw18 hPn hDn hSn => ?_)
          clear hP hD hS
          have hP : va_P E.1 classes [(he, .inr (2, [.ref h, .int (bI st.1.1), .int st.1.2.1, .int st.1.2.2.1, .int st.1.2.2.2.1, .int st.1.2.2.2.2.1, .int st.1.2.2.2.2.2.1, .int st.1.2.2.2.2.2.2])), (h, .inr (0, [.ref a1, .ref a2, .ref a3, .int u18.1, .int u18.2.1, .int u18.2.2.1])), (a1, .inl (E.2.1 0, 42000, .inl u18.2.2.2.1)), (a2, .inl (E.2.1 0, 513, .inl u18.2.2.2.2.1)), (a3, .inl (E.2.1 1, 513, .inl u18.2.2.2.2.2))] Hn := hPn
          have hD : va_D A [(he, .inr (2, [.ref h, .int (bI st.1.1), .int st.1.2.1, .int st.1.2.2.1, .int st.1.2.2.2.1, .int st.1.2.2.2.2.1, .int st.1.2.2.2.2.2.1, .int st.1.2.2.2.2.2.2])), (h, .inr (0, [.ref a1, .ref a2, .ref a3, .int u18.1, .int u18.2.1, .int u18.2.2.1])), (a1, .inl (E.2.1 0, 42000, .inl u18.2.2.2.1)), (a2, .inl (E.2.1 0, 513, .inl u18.2.2.2.2.1)), (a3, .inl (E.2.1 1, 513, .inl u18.2.2.2.2.2))] := hDn
          have hS := hSn
          clear hPn hDn hSn
          refine lv_aload_n hx hb d_En_putOut_70 rfl (lv_at hl 1 rfl) ?_
          refine lv_dup hx hb d_En_putOut_71 rfl ?_
          refine va_get (D := E.1) (ci := 2) (v := .int st.1.2.2.1) (C := R_En) (T := T_En) (N := 8) hx hb hts in_En hown hK hP 0 rfl rfl 3 (by decide) (hts _ m_89) (fun _ h9 => h9) rfl d_En_putOut_72 ?_
          refine lv_ldc (v := 1048575) hx hb hown (hts _ m_256) d_En_putOut_75 ?_
          refine lv_iand hx hb d_En_putOut_77 ?_
          refine lv_topi (fun x19 ex19 => ?_)
          refine va_put (D := E.1) (ci := 2) (v := .int x19) (ty := .int) (C := R_En) (T := T_En) (N := 8) hx hb hts in_En t_En t_En_ok n_En hown hK hP hD hS 0 rfl rfl 3 (by decide) (hts _ m_89) (fun _ h9 => h9) rfl (by decide +kernel) rfl rfl (Nat.le_of_ble_eq_true rfl) d_En_putOut_78 (fun Hn locsn hPn hDn hSn => ?_)
          clear hP hD hS
          have hP : va_P E.1 classes [(he, .inr (2, [.ref h, .int (bI st.1.1), .int st.1.2.1, .int x19, .int st.1.2.2.2.1, .int st.1.2.2.2.2.1, .int st.1.2.2.2.2.2.1, .int st.1.2.2.2.2.2.2])), (h, .inr (0, [.ref a1, .ref a2, .ref a3, .int u18.1, .int u18.2.1, .int u18.2.2.1])), (a1, .inl (E.2.1 0, 42000, .inl u18.2.2.2.1)), (a2, .inl (E.2.1 0, 513, .inl u18.2.2.2.2.1)), (a3, .inl (E.2.1 1, 513, .inl u18.2.2.2.2.2))] Hn := hPn
          have hD : va_D A [(he, .inr (2, [.ref h, .int (bI st.1.1), .int st.1.2.1, .int x19, .int st.1.2.2.2.1, .int st.1.2.2.2.2.1, .int st.1.2.2.2.2.2.1, .int st.1.2.2.2.2.2.2])), (h, .inr (0, [.ref a1, .ref a2, .ref a3, .int u18.1, .int u18.2.1, .int u18.2.2.1])), (a1, .inl (E.2.1 0, 42000, .inl u18.2.2.2.1)), (a2, .inl (E.2.1 0, 513, .inl u18.2.2.2.2.1)), (a3, .inl (E.2.1 1, 513, .inl u18.2.2.2.2.2))] := hDn
          have hS := hSn
          clear hPn hDn hSn
          refine lv_aload_n hx hb d_En_putOut_81 rfl (lv_at hl 1 rfl) ?_
          refine lv_bipush (v := 7) hx hb d_En_putOut_82 (by decide) ?_
          refine va_put (D := E.1) (ci := 2) (v := .int 7) (ty := .int) (C := R_En) (T := T_En) (N := 8) hx hb hts in_En t_En t_En_ok n_En hown hK hP hD hS 0 rfl rfl 4 (by decide) (hts _ m_90) (fun _ h9 => h9) rfl (by decide +kernel) rfl rfl (Nat.le_of_ble_eq_true rfl) d_En_putOut_84 (fun Hn locsn hPn hDn hSn => ?_)
          clear hP hD hS
          have hP : va_P E.1 classes [(he, .inr (2, [.ref h, .int (bI st.1.1), .int st.1.2.1, .int x19, .int 7, .int st.1.2.2.2.2.1, .int st.1.2.2.2.2.2.1, .int st.1.2.2.2.2.2.2])), (h, .inr (0, [.ref a1, .ref a2, .ref a3, .int u18.1, .int u18.2.1, .int u18.2.2.1])), (a1, .inl (E.2.1 0, 42000, .inl u18.2.2.2.1)), (a2, .inl (E.2.1 0, 513, .inl u18.2.2.2.2.1)), (a3, .inl (E.2.1 1, 513, .inl u18.2.2.2.2.2))] Hn := hPn
          have hD : va_D A [(he, .inr (2, [.ref h, .int (bI st.1.1), .int st.1.2.1, .int x19, .int 7, .int st.1.2.2.2.2.1, .int st.1.2.2.2.2.2.1, .int st.1.2.2.2.2.2.2])), (h, .inr (0, [.ref a1, .ref a2, .ref a3, .int u18.1, .int u18.2.1, .int u18.2.2.1])), (a1, .inl (E.2.1 0, 42000, .inl u18.2.2.2.1)), (a2, .inl (E.2.1 0, 513, .inl u18.2.2.2.2.1)), (a3, .inl (E.2.1 1, 513, .inl u18.2.2.2.2.2))] := hDn
          have hS := hSn
          clear hPn hDn hSn
          refine lv_goto (tgt := 121) hx hb d_En_putOut_87 (by decide) ?_
          exact ar_vret hx hb hr hlocks hK hS ((st.1.1, st.1.2.1, x19, 7, st.1.2.2.2.2.1, st.1.2.2.2.2.2.1, st.1.2.2.2.2.2.2), u18) (by subst ex19; subst hw18; subst hw1; exact Eq.symm (Eq.trans (f_En_putOut_s  st) (Eq.trans (if_neg c2) (Eq.trans (if_neg c8) (Eq.trans (if_pos c14) (Eq.trans (if_pos c15) rfl)))))) hP hD d_En_putOut_121
      · skip
        refine lv_aload_n hx hb d_En_putOut_28 rfl (lv_at hl 1 rfl) ?_
        refine va_get (D := E.1) (ci := 2) (v := .ref h) (C := R_En) (T := T_En) (N := 8) hx hb hts in_En hown hK hP 0 rfl rfl 0 (by decide) (hts _ m_86) (fun _ h9 => h9) rfl d_En_putOut_29 ?_
        refine ar_usev (wr := [(he, .inr (2, [.ref h, .int (bI st.1.1), .int st.1.2.1, .int st.1.2.2.1, .int st.1.2.2.2.1, .int st.1.2.2.2.2.1, .int st.1.2.2.2.2.2.1, .int st.1.2.2.2.2.2.2]))]) hP hD hS hA [1, 2, 3, 4] [0] rfl rfl rfl (by decide) (ar_runV (n := 0) (As := []) (rest := []) (ci := 0) (q0 := 0) hx hb hml hown hts hP hD hS hA hK hZ (c_Ro_raiseLast l E _ h a1 a2 a3 st.2  ) m_251 m_252 m_253 m_4 m_254 (by decide +kernel) ⟨Nat.le_of_ble_eq_true rfl, Nat.le_of_ble_eq_true rfl⟩ [1, 2, 3, 4] rfl rfl rfl rfl rfl rfl rfl hl.1 rfl (Nat.le_of_ble_eq_true rfl) d_En_putOut_32 ⟨Nat.le_of_ble_eq_true rfl, Nat.le_of_ble_eq_true rfl⟩) (fun u20 Hn locsn hw20 hPn hDn hSn => ?_)
        clear hP hD hS
        have hP : va_P E.1 classes [(he, .inr (2, [.ref h, .int (bI st.1.1), .int st.1.2.1, .int st.1.2.2.1, .int st.1.2.2.2.1, .int st.1.2.2.2.2.1, .int st.1.2.2.2.2.2.1, .int st.1.2.2.2.2.2.2])), (h, .inr (0, [.ref a1, .ref a2, .ref a3, .int u20.1, .int u20.2.1, .int u20.2.2.1])), (a1, .inl (E.2.1 0, 42000, .inl u20.2.2.2.1)), (a2, .inl (E.2.1 0, 513, .inl u20.2.2.2.2.1)), (a3, .inl (E.2.1 1, 513, .inl u20.2.2.2.2.2))] Hn := hPn
        have hD : va_D A [(he, .inr (2, [.ref h, .int (bI st.1.1), .int st.1.2.1, .int st.1.2.2.1, .int st.1.2.2.2.1, .int st.1.2.2.2.2.1, .int st.1.2.2.2.2.2.1, .int st.1.2.2.2.2.2.2])), (h, .inr (0, [.ref a1, .ref a2, .ref a3, .int u20.1, .int u20.2.1, .int u20.2.2.1])), (a1, .inl (E.2.1 0, 42000, .inl u20.2.2.2.1)), (a2, .inl (E.2.1 0, 513, .inl u20.2.2.2.2.1)), (a3, .inl (E.2.1 1, 513, .inl u20.2.2.2.2.2))] := hDn
        have hS := hSn
        clear hPn hDn hSn
        obtain ⟨x21, ex21⟩ : ∃ y : Int32, y = r1 + 1 := ⟨_, rfl⟩
        refine lv_iinc (v := x21) (lv' := [(1, .int x21), (0, .ref he)]) hx hb d_En_putOut_35 hl (k := 0) rfl (by rw [ex21]; rfl) (by decide) rfl (fun ls hl => ?_)
        refine lv_aload_n hx hb d_En_putOut_38 rfl (lv_at hl 1 rfl) ?_
        refine lv_dup hx hb d_En_putOut_39 rfl ?_
        refine va_get (D := E.1) (ci := 2) (v := .int st.1.2.2.1) (C := R_En) (T := T_En) (N := 8) hx hb hts in_En hown hK hP 0 rfl rfl 3 (by decide) (hts _ m_89) (fun _ h9 => h9) rfl d_En_putOut_40 ?_
        refine lv_ldc (v := 134217727) hx hb hown (hts _ m_255) d_En_putOut_43 ?_
        refine lv_iand hx hb d_En_putOut_45 ?_
        refine lv_topi (fun x22 ex22 => ?_)
        refine va_put (D := E.1) (ci := 2) (v := .int x22) (ty := .int) (C := R_En) (T := T_En) (N := 8) hx hb hts in_En t_En t_En_ok n_En hown hK hP hD hS 0 rfl rfl 3 (by decide) (hts _ m_89) (fun _ h9 => h9) rfl (by decide +kernel) rfl rfl (Nat.le_of_ble_eq_true rfl) d_En_putOut_46 (fun Hn locsn hPn hDn hSn => ?_)
        clear hP hD hS
        have hP : va_P E.1 classes [(he, .inr (2, [.ref h, .int (bI st.1.1), .int st.1.2.1, .int x22, .int st.1.2.2.2.1, .int st.1.2.2.2.2.1, .int st.1.2.2.2.2.2.1, .int st.1.2.2.2.2.2.2])), (h, .inr (0, [.ref a1, .ref a2, .ref a3, .int u20.1, .int u20.2.1, .int u20.2.2.1])), (a1, .inl (E.2.1 0, 42000, .inl u20.2.2.2.1)), (a2, .inl (E.2.1 0, 513, .inl u20.2.2.2.2.1)), (a3, .inl (E.2.1 1, 513, .inl u20.2.2.2.2.2))] Hn := hPn
        have hD : va_D A [(he, .inr (2, [.ref h, .int (bI st.1.1), .int st.1.2.1, .int x22, .int st.1.2.2.2.1, .int st.1.2.2.2.2.1, .int st.1.2.2.2.2.2.1, .int st.1.2.2.2.2.2.2])), (h, .inr (0, [.ref a1, .ref a2, .ref a3, .int u20.1, .int u20.2.1, .int u20.2.2.1])), (a1, .inl (E.2.1 0, 42000, .inl u20.2.2.2.1)), (a2, .inl (E.2.1 0, 513, .inl u20.2.2.2.2.1)), (a3, .inl (E.2.1 1, 513, .inl u20.2.2.2.2.2))] := hDn
        have hS := hSn
        clear hPn hDn hSn
        refine lv_iload_n hx hb d_En_putOut_49 rfl (lv_at hl 0 rfl) ?_
        refine lv_sipush (v := 255) hx hb d_En_putOut_50 (by decide) ?_
        refine lv_icmp_ne (tgt := 90) hx hb d_En_putOut_53 (by decide) (fun c23 => ?_) (fun c23 => ?_)
        · skip
          refine lv_aload_n hx hb d_En_putOut_90 rfl (lv_at hl 1 rfl) ?_
          refine va_get (D := E.1) (ci := 2) (v := .ref h) (C := R_En) (T := T_En) (N := 8) hx hb hts in_En hown hK hP 0 rfl rfl 0 (by decide) (hts _ m_86) (fun _ h9 => h9) rfl d_En_putOut_91 ?_
          refine lv_aload_n hx hb d_En_putOut_94 rfl (lv_at hl 1 rfl) ?_
          refine va_get (D := E.1) (ci := 2) (v := .int x22) (C := R_En) (T := T_En) (N := 8) hx hb hts in_En hown hK hP 0 rfl rfl 3 (by decide) (hts _ m_89) (fun _ h9 => h9) rfl d_En_putOut_95 ?_
          refine lv_bipush (v := 19) hx hb d_En_putOut_98 (by decide) ?_
          refine lv_iushr (v := (ushr x22 19)) hx hb d_En_putOut_100 rfl ?_
          refine ar_usev (wr := [(he, .inr (2, [.ref h, .int (bI st.1.1), .int st.1.2.1, .int x22, .int st.1.2.2.2.1, .int st.1.2.2.2.2.1, .int st.1.2.2.2.2.2.1, .int st.1.2.2.2.2.2.2]))]) hP hD hS hA [1, 2, 3, 4] [0] rfl rfl rfl (by decide) (ar_runV (n := 1) (As := [.int (ushr x22 19)]) (rest := []) (ci := 0) (q0 := 0) hx hb hml hown hts hP hD hS hA hK hZ (c_Ro_add l E _ h a1 a2 a3 u20 (ushr x22 19) ) m_233 m_234 m_235 m_4 m_236 (by decide +kernel) ⟨Nat.le_of_ble_eq_true rfl, Nat.le_of_ble_eq_true rfl⟩ [1, 2, 3, 4] rfl rfl rfl rfl rfl rfl rfl hl.1 rfl (Nat.le_of_ble_eq_true rfl) d_En_putOut_101 ⟨Nat.le_of_ble_eq_true rfl, Nat.le_of_ble_eq_true rfl⟩) (fun u24 Hn locsn hw24 hPn hDn hSn => ?_)
          clear hP hD hS
          have hP : va_P E.1 classes [(he, .inr (2, [.ref h, .int (bI st.1.1), .int st.1.2.1, .int x22, .int st.1.2.2.2.1, .int st.1.2.2.2.2.1, .int st.1.2.2.2.2.2.1, .int st.1.2.2.2.2.2.2])), (h, .inr (0, [.ref a1, .ref a2, .ref a3, .int u24.1, .int u24.2.1, .int u24.2.2.1])), (a1, .inl (E.2.1 0, 42000, .inl u24.2.2.2.1)), (a2, .inl (E.2.1 0, 513, .inl u24.2.2.2.2.1)), (a3, .inl (E.2.1 1, 513, .inl u24.2.2.2.2.2))] Hn := hPn
          have hD : va_D A [(he, .inr (2, [.ref h, .int (bI st.1.1), .int st.1.2.1, .int x22, .int st.1.2.2.2.1, .int st.1.2.2.2.2.1, .int st.1.2.2.2.2.2.1, .int st.1.2.2.2.2.2.2])), (h, .inr (0, [.ref a1, .ref a2, .ref a3, .int u24.1, .int u24.2.1, .int u24.2.2.1])), (a1, .inl (E.2.1 0, 42000, .inl u24.2.2.2.1)), (a2, .inl (E.2.1 0, 513, .inl u24.2.2.2.2.1)), (a3, .inl (E.2.1 1, 513, .inl u24.2.2.2.2.2))] := hDn
          have hS := hSn
          clear hPn hDn hSn
          refine lv_aload_n hx hb d_En_putOut_104 rfl (lv_at hl 1 rfl) ?_
          refine lv_dup hx hb d_En_putOut_105 rfl ?_
          refine va_get (D := E.1) (ci := 2) (v := .int x22) (C := R_En) (T := T_En) (N := 8) hx hb hts in_En hown hK hP 0 rfl rfl 3 (by decide) (hts _ m_89) (fun _ h9 => h9) rfl d_En_putOut_106 ?_
          refine lv_ldc (v := 524287) hx hb hown (hts _ m_257) d_En_putOut_109 ?_
          refine lv_iand hx hb d_En_putOut_111 ?_
          refine lv_topi (fun x25 ex25 => ?_)
          refine va_put (D := E.1) (ci := 2) (v := .int x25) (ty := .int) (C := R_En) (T := T_En) (N := 8) hx hb hts in_En t_En t_En_ok n_En hown hK hP hD hS 0 rfl rfl 3 (by decide) (hts _ m_89) (fun _ h9 => h9) rfl (by decide +kernel) rfl rfl (Nat.le_of_ble_eq_true rfl) d_En_putOut_112 (fun Hn locsn hPn hDn hSn => ?_)
          clear hP hD hS
          have hP : va_P E.1 classes [(he, .inr (2, [.ref h, .int (bI st.1.1), .int st.1.2.1, .int x25, .int st.1.2.2.2.1, .int st.1.2.2.2.2.1, .int st.1.2.2.2.2.2.1, .int st.1.2.2.2.2.2.2])), (h, .inr (0, [.ref a1, .ref a2, .ref a3, .int u24.1, .int u24.2.1, .int u24.2.2.1])), (a1, .inl (E.2.1 0, 42000, .inl u24.2.2.2.1)), (a2, .inl (E.2.1 0, 513, .inl u24.2.2.2.2.1)), (a3, .inl (E.2.1 1, 513, .inl u24.2.2.2.2.2))] Hn := hPn
          have hD : va_D A [(he, .inr (2, [.ref h, .int (bI st.1.1), .int st.1.2.1, .int x25, .int st.1.2.2.2.1, .int st.1.2.2.2.2.1, .int st.1.2.2.2.2.2.1, .int st.1.2.2.2.2.2.2])), (h, .inr (0, [.ref a1, .ref a2, .ref a3, .int u24.1, .int u24.2.1, .int u24.2.2.1])), (a1, .inl (E.2.1 0, 42000, .inl u24.2.2.2.1)), (a2, .inl (E.2.1 0, 513, .inl u24.2.2.2.2.1)), (a3, .inl (E.2.1 1, 513, .inl u24.2.2.2.2.2))] := hDn
          have hS := hSn
          clear hPn hDn hSn
          refine lv_aload_n hx hb d_En_putOut_115 rfl (lv_at hl 1 rfl) ?_
          refine lv_bipush (v := 8) hx hb d_En_putOut_116 (by decide) ?_
          refine va_put (D := E.1) (ci := 2) (v := .int 8) (ty := .int) (C := R_En) (T := T_En) (N := 8) hx hb hts in_En t_En t_En_ok n_En hown hK hP hD hS 0 rfl rfl 4 (by decide) (hts _ m_90) (fun _ h9 => h9) rfl (by decide +kernel) rfl rfl (Nat.le_of_ble_eq_true rfl) d_En_putOut_118 (fun Hn locsn hPn hDn hSn => ?_)
          clear hP hD hS
          have hP : va_P E.1 classes [(he, .inr (2, [.ref h, .int (bI st.1.1), .int st.1.2.1, .int x25, .int 8, .int st.1.2.2.2.2.1, .int st.1.2.2.2.2.2.1, .int st.1.2.2.2.2.2.2])), (h, .inr (0, [.ref a1, .ref a2, .ref a3, .int u24.1, .int u24.2.1, .int u24.2.2.1])), (a1, .inl (E.2.1 0, 42000, .inl u24.2.2.2.1)), (a2, .inl (E.2.1 0, 513, .inl u24.2.2.2.2.1)), (a3, .inl (E.2.1 1, 513, .inl u24.2.2.2.2.2))] Hn := hPn
          have hD : va_D A [(he, .inr (2, [.ref h, .int (bI st.1.1), .int st.1.2.1, .int x25, .int 8, .int st.1.2.2.2.2.1, .int st.1.2.2.2.2.2.1, .int st.1.2.2.2.2.2.2])), (h, .inr (0, [.ref a1, .ref a2, .ref a3, .int u24.1, .int u24.2.1, .int u24.2.2.1])), (a1, .inl (E.2.1 0, 42000, .inl u24.2.2.2.1)), (a2, .inl (E.2.1 0, 513, .inl u24.2.2.2.2.1)), (a3, .inl (E.2.1 1, 513, .inl u24.2.2.2.2.2))] := hDn
          have hS := hSn
          clear hPn hDn hSn
          exact ar_vret hx hb hr hlocks hK hS ((st.1.1, st.1.2.1, x25, 8, st.1.2.2.2.2.1, st.1.2.2.2.2.2.1, st.1.2.2.2.2.2.2), u24) (by subst ex25; subst hw24; subst ex22; subst ex21; subst hw20; subst hw1; exact Eq.symm (Eq.trans (f_En_putOut_s  st) (Eq.trans (if_neg c2) (Eq.trans (if_neg c8) (Eq.trans (if_neg c14) (Eq.trans (if_neg c23) rfl)))))) hP hD d_En_putOut_121
        · skip
          refine lv_aload_n hx hb d_En_putOut_56 rfl (lv_at hl 1 rfl) ?_
          refine va_get (D := E.1) (ci := 2) (v := .ref h) (C := R_En) (T := T_En) (N := 8) hx hb hts in_En hown hK hP 0 rfl rfl 0 (by decide) (hts _ m_86) (fun _ h9 => h9) rfl d_En_putOut_57 ?_
          refine lv_aload_n hx hb d_En_putOut_60 rfl (lv_at hl 1 rfl) ?_
          refine va_get (D := E.1) (ci := 2) (v := .int x22) (C := R_En) (T := T_En) (N := 8) hx hb hts in_En hown hK hP 0 rfl rfl 3 (by decide) (hts _ m_89) (fun _ h9 => h9) rfl d_En_putOut_61 ?_
          refine lv_bipush (v := 20) hx hb d_En_putOut_64 (by decide) ?_
          refine lv_iushr (v := (ushr x22 20)) hx hb d_En_putOut_66 rfl ?_
          refine ar_usev (wr := [(he, .inr (2, [.ref h, .int (bI st.1.1), .int st.1.2.1, .int x22, .int st.1.2.2.2.1, .int st.1.2.2.2.2.1, .int st.1.2.2.2.2.2.1, .int st.1.2.2.2.2.2.2]))]) hP hD hS hA [1, 2, 3, 4] [0] rfl rfl rfl (by decide) (ar_runV (n := 1) (As := [.int (ushr x22 20)]) (rest := []) (ci := 0) (q0 := 0) hx hb hml hown hts hP hD hS hA hK hZ (c_Ro_add l E _ h a1 a2 a3 u20 (ushr x22 20) ) m_233 m_234 m_235 m_4 m_236 (by decide +kernel) ⟨Nat.le_of_ble_eq_true rfl, Nat.le_of_ble_eq_true rfl⟩ [1, 2, 3, 4] rfl rfl rfl rfl rfl rfl rfl hl.1 rfl (Nat.le_of_ble_eq_true rfl) d_En_putOut_67 ⟨Nat.le_of_ble_eq_true rfl, Nat.le_of_ble_eq_true rfl⟩) (fun u26 Hn locsn hw26 hPn hDn hSn => ?_)
          clear hP hD hS
          have hP : va_P E.1 classes [(he, .inr (2, [.ref h, .int (bI st.1.1), .int st.1.2.1, .int x22, .int st.1.2.2.2.1, .int st.1.2.2.2.2.1, .int st.1.2.2.2.2.2.1, .int st.1.2.2.2.2.2.2])), (h, .inr (0, [.ref a1, .ref a2, .ref a3, .int u26.1, .int u26.2.1, .int u26.2.2.1])), (a1, .inl (E.2.1 0, 42000, .inl u26.2.2.2.1)), (a2, .inl (E.2.1 0, 513, .inl u26.2.2.2.2.1)), (a3, .inl (E.2.1 1, 513, .inl u26.2.2.2.2.2))] Hn := hPn
          have hD : va_D A [(he, .inr (2, [.ref h, .int (bI st.1.1), .int st.1.2.1, .int x22, .int st.1.2.2.2.1, .int st.1.2.2.2.2.1, .int st.1.2.2.2.2.2.1, .int st.1.2.2.2.2.2.2])), (h, .inr (0, [.ref a1, .ref a2, .ref a3, .int u26.1, .int u26.2.1, .int u26.2.2.1])), (a1, .inl (E.2.1 0, 42000, .inl u26.2.2.2.1)), (a2, .inl (E.2.1 0, 513, .inl u26.2.2.2.2.1)), (a3, .inl (E.2.1 1, 513, .inl u26.2.2.2.2.2))] := hDn
          have hS := hSn
          clear hPn hDn hSn
          refine lv_aload_n hx hb d_En_putOut_70 rfl (lv_at hl 1 rfl) ?_
          refine lv_dup hx hb d_En_putOut_71 rfl ?_
          refine va_get (D := E.1) (ci := 2) (v := .int x22) (C := R_En) (T := T_En) (N := 8) hx hb hts in_En hown hK hP 0 rfl rfl 3 (by decide) (hts _ m_89) (fun _ h9 => h9) rfl d_En_putOut_72 ?_
          refine lv_ldc (v := 1048575) hx hb hown (hts _ m_256) d_En_putOut_75 ?_
          refine lv_iand hx hb d_En_putOut_77 ?_
          refine lv_topi (fun x27 ex27 => ?_)
          refine va_put (D := E.1) (ci := 2) (v := .int x27) (ty := .int) (C := R_En) (T := T_En) (N := 8) hx hb hts in_En t_En t_En_ok n_En hown hK hP hD hS 0 rfl rfl 3 (by decide) (hts _ m_89) (fun _ h9 => h9) rfl (by decide +kernel) rfl rfl (Nat.le_of_ble_eq_true rfl) d_En_putOut_78 (fun Hn locsn hPn hDn hSn => ?_)
          clear hP hD hS
          have hP : va_P E.1 classes [(he, .inr (2, [.ref h, .int (bI st.1.1), .int st.1.2.1, .int x27, .int st.1.2.2.2.1, .int st.1.2.2.2.2.1, .int st.1.2.2.2.2.2.1, .int st.1.2.2.2.2.2.2])), (h, .inr (0, [.ref a1, .ref a2, .ref a3, .int u26.1, .int u26.2.1, .int u26.2.2.1])), (a1, .inl (E.2.1 0, 42000, .inl u26.2.2.2.1)), (a2, .inl (E.2.1 0, 513, .inl u26.2.2.2.2.1)), (a3, .inl (E.2.1 1, 513, .inl u26.2.2.2.2.2))] Hn := hPn
          have hD : va_D A [(he, .inr (2, [.ref h, .int (bI st.1.1), .int st.1.2.1, .int x27, .int st.1.2.2.2.1, .int st.1.2.2.2.2.1, .int st.1.2.2.2.2.2.1, .int st.1.2.2.2.2.2.2])), (h, .inr (0, [.ref a1, .ref a2, .ref a3, .int u26.1, .int u26.2.1, .int u26.2.2.1])), (a1, .inl (E.2.1 0, 42000, .inl u26.2.2.2.1)), (a2, .inl (E.2.1 0, 513, .inl u26.2.2.2.2.1)), (a3, .inl (E.2.1 1, 513, .inl u26.2.2.2.2.2))] := hDn
          have hS := hSn
          clear hPn hDn hSn
          refine lv_aload_n hx hb d_En_putOut_81 rfl (lv_at hl 1 rfl) ?_
          refine lv_bipush (v := 7) hx hb d_En_putOut_82 (by decide) ?_
          refine va_put (D := E.1) (ci := 2) (v := .int 7) (ty := .int) (C := R_En) (T := T_En) (N := 8) hx hb hts in_En t_En t_En_ok n_En hown hK hP hD hS 0 rfl rfl 4 (by decide) (hts _ m_90) (fun _ h9 => h9) rfl (by decide +kernel) rfl rfl (Nat.le_of_ble_eq_true rfl) d_En_putOut_84 (fun Hn locsn hPn hDn hSn => ?_)
          clear hP hD hS
          have hP : va_P E.1 classes [(he, .inr (2, [.ref h, .int (bI st.1.1), .int st.1.2.1, .int x27, .int 7, .int st.1.2.2.2.2.1, .int st.1.2.2.2.2.2.1, .int st.1.2.2.2.2.2.2])), (h, .inr (0, [.ref a1, .ref a2, .ref a3, .int u26.1, .int u26.2.1, .int u26.2.2.1])), (a1, .inl (E.2.1 0, 42000, .inl u26.2.2.2.1)), (a2, .inl (E.2.1 0, 513, .inl u26.2.2.2.2.1)), (a3, .inl (E.2.1 1, 513, .inl u26.2.2.2.2.2))] Hn := hPn
          have hD : va_D A [(he, .inr (2, [.ref h, .int (bI st.1.1), .int st.1.2.1, .int x27, .int 7, .int st.1.2.2.2.2.1, .int st.1.2.2.2.2.2.1, .int st.1.2.2.2.2.2.2])), (h, .inr (0, [.ref a1, .ref a2, .ref a3, .int u26.1, .int u26.2.1, .int u26.2.2.1])), (a1, .inl (E.2.1 0, 42000, .inl u26.2.2.2.1)), (a2, .inl (E.2.1 0, 513, .inl u26.2.2.2.2.1)), (a3, .inl (E.2.1 1, 513, .inl u26.2.2.2.2.2))] := hDn
          have hS := hSn
          clear hPn hDn hSn
          refine lv_goto (tgt := 121) hx hb d_En_putOut_87 (by decide) ?_
          exact ar_vret hx hb hr hlocks hK hS ((st.1.1, st.1.2.1, x27, 7, st.1.2.2.2.2.1, st.1.2.2.2.2.2.1, st.1.2.2.2.2.2.2), u26) (by subst ex27; subst hw26; subst ex22; subst ex21; subst hw20; subst hw1; exact Eq.symm (Eq.trans (f_En_putOut_s  st) (Eq.trans (if_neg c2) (Eq.trans (if_neg c8) (Eq.trans (if_neg c14) (Eq.trans (if_pos c23) rfl)))))) hP hD d_En_putOut_121

noncomputable def g_En_renew  : Nat → ((EnS) × (RoS)) → Int32 → (EnS) × (RoS)
  | 0, st, k1 => st
  | n + 1, st, k1 =>
    if 16 ≤ k1 then
      st
    else
      if 32768 ≤ st.1.2.1 then
        st
      else
        let x3 := (st.1.2.1 <<< (1 &&& 31))
        let x4 := (st.1.2.2.1 <<< (1 &&& 31))
        let x5 := (st.1.2.2.2.1 - 1)
        if x5 = 0 then
          let u8 := f_En_putOut   ((st.1.1, x3, x4, x5, st.1.2.2.2.2.1, st.1.2.2.2.2.2.1, st.1.2.2.2.2.2.2), st.2)
          let x9 := k1 + 1
          g_En_renew  n u8 x9
        else
          let x7 := k1 + 1
          g_En_renew  n ((st.1.1, x3, x4, x5, st.1.2.2.2.2.1, st.1.2.2.2.2.2.1, st.1.2.2.2.2.2.2), st.2) x7
theorem g_En_renew_s  (n : Nat) (st : (EnS) × (RoS)) (k1 : Int32) : g_En_renew  (n + 1) st k1 = ((
    if 16 ≤ k1 then
      st
    else
      if 32768 ≤ st.1.2.1 then
        st
      else
        let x3 := (st.1.2.1 <<< (1 &&& 31))
        let x4 := (st.1.2.2.1 <<< (1 &&& 31))
        let x5 := (st.1.2.2.2.1 - 1)
        if x5 = 0 then
          let u8 := f_En_putOut   ((st.1.1, x3, x4, x5, st.1.2.2.2.2.1, st.1.2.2.2.2.2.1, st.1.2.2.2.2.2.2), st.2)
          let x9 := k1 + 1
          g_En_renew  n u8 x9
        else
          let x7 := k1 + 1
          g_En_renew  n ((st.1.1, x3, x4, x5, st.1.2.2.2.2.1, st.1.2.2.2.2.2.1, st.1.2.2.2.2.2.2), st.2) x7
  : (EnS) × (RoS))) := rfl
def kl_En_renew  : Nat → ((EnS) × (RoS)) → Int32 → Prop
  | 0, st, k1 => False
  | n + 1, st, k1 => ((16 ≤ k1) → True) ∧ (¬ (16 ≤ k1) → ((32768 ≤ st.1.2.1) → True) ∧ (¬ (32768 ≤ st.1.2.1) → (∀ x3, x3 = (st.1.2.1 <<< (1 &&& 31)) → (∀ x4, x4 = (st.1.2.2.1 <<< (1 &&& 31)) → (∀ x5, x5 = (st.1.2.2.2.1 - 1) → ((x5 = 0) → (∀ u8, u8 = f_En_putOut   ((st.1.1, x3, x4, x5, st.1.2.2.2.2.1, st.1.2.2.2.2.2.1, st.1.2.2.2.2.2.2), st.2) → (∀ x9, x9 = k1 + 1 → kl_En_renew  n u8 x9))) ∧ (¬ (x5 = 0) → (∀ x7, x7 = k1 + 1 → kl_En_renew  n ((st.1.1, x3, x4, x5, st.1.2.2.2.2.1, st.1.2.2.2.2.2.1, st.1.2.2.2.2.2.2), st.2) x7)))))))
theorem kl_En_renew_s  (n : Nat) (st : (EnS) × (RoS)) (k1 : Int32) : kl_En_renew  (n + 1) st k1 = (((16 ≤ k1) → True) ∧ (¬ (16 ≤ k1) → ((32768 ≤ st.1.2.1) → True) ∧ (¬ (32768 ≤ st.1.2.1) → (∀ x3, x3 = (st.1.2.1 <<< (1 &&& 31)) → (∀ x4, x4 = (st.1.2.2.1 <<< (1 &&& 31)) → (∀ x5, x5 = (st.1.2.2.2.1 - 1) → ((x5 = 0) → (∀ u8, u8 = f_En_putOut   ((st.1.1, x3, x4, x5, st.1.2.2.2.2.1, st.1.2.2.2.2.2.1, st.1.2.2.2.2.2.2), st.2) → (∀ x9, x9 = k1 + 1 → kl_En_renew  n u8 x9))) ∧ (¬ (x5 = 0) → (∀ x7, x7 = k1 + 1 → kl_En_renew  n ((st.1.1, x3, x4, x5, st.1.2.2.2.2.1, st.1.2.2.2.2.2.1, st.1.2.2.2.2.2.2), st.2) x7)))))))) := rfl
set_option maxHeartbeats 4000000 in
set_option maxRecDepth 100000 in
theorem lp_En_renew {p : Program} {e : Env} {s : State} {m : MethodId} {below : List Frame} {meth : Method} {c : Code} (l : Launch) (E : Ev) (A : Nat → Prop) (he h a1 a2 a3 : Nat)   (hx : p.tables.exec = Jvm.exec) (hb : c.code = b_En_renew) (hml : c.maxLocals = 2) (hown : s.vm.findClass (y_En_renew).cls = some m.cls) (hts : ∀ w ∈ TT, w.before ([.ref he] : List Value).toArray s = true) (hr : meth.sig.returnType = none) (hlocks : meth.locks = false) (hA : ∀ q, s.heap.size ≤ q → A q) (hZ : ZT E A s s.heap) (hK : va_K E.1 classes (Ty E) s) :
    ∀ (n : Nat) (st : (EnS) × (RoS)) (k1 : Int32) (H : Heap) (locs : List Loc) (ls : Array Slot), kl_En_renew  n st k1 → va_P E.1 classes [(he, .inr (2, [.ref h, .int (bI st.1.1), .int st.1.2.1, .int st.1.2.2.1, .int st.1.2.2.2.1, .int st.1.2.2.2.2.1, .int st.1.2.2.2.2.2.1, .int st.1.2.2.2.2.2.2])), (h, .inr (0, [.ref a1, .ref a2, .ref a3, .int st.2.1, .int st.2.2.1, .int st.2.2.2.1])), (a1, .inl (E.2.1 0, 42000, .inl st.2.2.2.2.1)), (a2, .inl (E.2.1 0, 513, .inl st.2.2.2.2.2.1)), (a3, .inl (E.2.1 1, 513, .inl st.2.2.2.2.2.2))] H → va_D A [(he, .inr (2, [.ref h, .int (bI st.1.1), .int st.1.2.1, .int st.1.2.2.1, .int st.1.2.2.2.1, .int st.1.2.2.2.2.1, .int st.1.2.2.2.2.2.1, .int st.1.2.2.2.2.2.2])), (h, .inr (0, [.ref a1, .ref a2, .ref a3, .int st.2.1, .int st.2.2.1, .int st.2.2.2.1])), (a1, .inl (E.2.1 0, 42000, .inl st.2.2.2.2.1)), (a2, .inl (E.2.1 0, 513, .inl st.2.2.2.2.2.1)), (a3, .inl (E.2.1 1, 513, .inl st.2.2.2.2.2.2))] → va_S A s.heap H locs → lv_has ls 2 [(0, .ref he), (1, .int k1)] →
      W p l e (ar_rm 2 0 0) s m ([.ref he] : List Value).toArray below meth c H locs 0 0 (MQ below (va_Qv (fun u : (EnS) × (RoS) => u = g_En_renew  n st k1) (ar_W E A (fun u : (EnS) × (RoS) => [(he, .inr (2, [.ref h, .int (bI u.1.1), .int u.1.2.1, .int u.1.2.2.1, .int u.1.2.2.2.1, .int u.1.2.2.2.2.1, .int u.1.2.2.2.2.2.1, .int u.1.2.2.2.2.2.2])), (h, .inr (0, [.ref a1, .ref a2, .ref a3, .int u.2.1, .int u.2.2.1, .int u.2.2.2.1])), (a1, .inl (E.2.1 0, 42000, .inl u.2.2.2.2.1)), (a2, .inl (E.2.1 0, 513, .inl u.2.2.2.2.2.1)), (a3, .inl (E.2.1 1, 513, .inl u.2.2.2.2.2.2))])) A) ([.ref he] : List Value).toArray s 0 0 A) (F0 m 2 ls []) := by
  intro n
  induction n with
  | zero => intro st k1 H locs ls hok; exact hok.elim
  | succ n ih =>
    intro st k1 H locs ls hok hP hD hS hl
    rw [kl_En_renew_s] at hok
    refine lv_iload_n hx hb d_En_renew_2 rfl (lv_at hl 1 rfl) ?_
    refine lv_bipush (v := 16) hx hb d_En_renew_3 (by decide) ?_
    refine lv_icmp_ge (tgt := 64) hx hb d_En_renew_5 (by decide) (fun c1 => ?_) (fun c1 => ?_)
    · replace hok := hok.1 c1
      exact ar_vret hx hb hr hlocks hK hS st (by exact Eq.symm (Eq.trans (g_En_renew_s  n st k1) (Eq.trans (if_pos c1) rfl))) hP hD d_En_renew_64
    · replace hok := hok.2 c1
      refine lv_aload_n hx hb d_En_renew_8 rfl (lv_at hl 0 rfl) ?_
      refine va_get (D := E.1) (ci := 2) (v := .int st.1.2.1) (C := R_En) (T := T_En) (N := 8) hx hb hts in_En hown hK hP 0 rfl rfl 2 (by decide) (hts _ m_88) (fun _ h9 => h9) rfl d_En_renew_9 ?_
      refine lv_ldc (v := 32768) hx hb hown (hts _ m_85) d_En_renew_12 ?_
      refine lv_icmp_ge (tgt := 64) hx hb d_En_renew_14 (by decide) (fun c2 => ?_) (fun c2 => ?_)
      · replace hok := hok.1 c2
        exact ar_vret hx hb hr hlocks hK hS st (by exact Eq.symm (Eq.trans (g_En_renew_s  n st k1) (Eq.trans (if_neg c1) (Eq.trans (if_pos c2) rfl)))) hP hD d_En_renew_64
      · replace hok := hok.2 c2
        refine lv_aload_n hx hb d_En_renew_17 rfl (lv_at hl 0 rfl) ?_
        refine lv_dup hx hb d_En_renew_18 rfl ?_
        refine va_get (D := E.1) (ci := 2) (v := .int st.1.2.1) (C := R_En) (T := T_En) (N := 8) hx hb hts in_En hown hK hP 0 rfl rfl 2 (by decide) (hts _ m_88) (fun _ h9 => h9) rfl d_En_renew_19 ?_
        refine lv_iconst (v := 1) hx hb d_En_renew_22 (by decide) ?_
        refine lv_ishl hx hb d_En_renew_23 ?_
        refine lv_topi (fun x3 ex3 => ?_)
        replace hok := hok x3 ex3
        refine va_put (D := E.1) (ci := 2) (v := .int x3) (ty := .int) (C := R_En) (T := T_En) (N := 8) hx hb hts in_En t_En t_En_ok n_En hown hK hP hD hS 0 rfl rfl 2 (by decide) (hts _ m_88) (fun _ h9 => h9) rfl (by decide +kernel) rfl rfl (Nat.le_of_ble_eq_true rfl) d_En_renew_24 (fun Hn locsn hPn hDn hSn => ?_)
        clear hP hD hS
        have hP : va_P E.1 classes [(he, .inr (2, [.ref h, .int (bI st.1.1), .int x3, .int st.1.2.2.1, .int st.1.2.2.2.1, .int st.1.2.2.2.2.1, .int st.1.2.2.2.2.2.1, .int st.1.2.2.2.2.2.2])), (h, .inr (0, [.ref a1, .ref a2, .ref a3, .int st.2.1, .int st.2.2.1, .int st.2.2.2.1])), (a1, .inl (E.2.1 0, 42000, .inl st.2.2.2.2.1)), (a2, .inl (E.2.1 0, 513, .inl st.2.2.2.2.2.1)), (a3, .inl (E.2.1 1, 513, .inl st.2.2.2.2.2.2))] Hn := hPn
        have hD : va_D A [(he, .inr (2, [.ref h, .int (bI st.1.1), .int x3, .int st.1.2.2.1, .int st.1.2.2.2.1, .int st.1.2.2.2.2.1, .int st.1.2.2.2.2.2.1, .int st.1.2.2.2.2.2.2])), (h, .inr (0, [.ref a1, .ref a2, .ref a3, .int st.2.1, .int st.2.2.1, .int st.2.2.2.1])), (a1, .inl (E.2.1 0, 42000, .inl st.2.2.2.2.1)), (a2, .inl (E.2.1 0, 513, .inl st.2.2.2.2.2.1)), (a3, .inl (E.2.1 1, 513, .inl st.2.2.2.2.2.2))] := hDn
        have hS := hSn
        clear hPn hDn hSn
        refine lv_aload_n hx hb d_En_renew_27 rfl (lv_at hl 0 rfl) ?_
        refine lv_dup hx hb d_En_renew_28 rfl ?_
        refine va_get (D := E.1) (ci := 2) (v := .int st.1.2.2.1) (C := R_En) (T := T_En) (N := 8) hx hb hts in_En hown hK hP 0 rfl rfl 3 (by decide) (hts _ m_89) (fun _ h9 => h9) rfl d_En_renew_29 ?_
        refine lv_iconst (v := 1) hx hb d_En_renew_32 (by decide) ?_
        refine lv_ishl hx hb d_En_renew_33 ?_
        refine lv_topi (fun x4 ex4 => ?_)
        replace hok := hok x4 ex4
        refine va_put (D := E.1) (ci := 2) (v := .int x4) (ty := .int) (C := R_En) (T := T_En) (N := 8) hx hb hts in_En t_En t_En_ok n_En hown hK hP hD hS 0 rfl rfl 3 (by decide) (hts _ m_89) (fun _ h9 => h9) rfl (by decide +kernel) rfl rfl (Nat.le_of_ble_eq_true rfl) d_En_renew_34 (fun Hn locsn hPn hDn hSn => ?_)
        clear hP hD hS
        have hP : va_P E.1 classes [(he, .inr (2, [.ref h, .int (bI st.1.1), .int x3, .int x4, .int st.1.2.2.2.1, .int st.1.2.2.2.2.1, .int st.1.2.2.2.2.2.1, .int st.1.2.2.2.2.2.2])), (h, .inr (0, [.ref a1, .ref a2, .ref a3, .int st.2.1, .int st.2.2.1, .int st.2.2.2.1])), (a1, .inl (E.2.1 0, 42000, .inl st.2.2.2.2.1)), (a2, .inl (E.2.1 0, 513, .inl st.2.2.2.2.2.1)), (a3, .inl (E.2.1 1, 513, .inl st.2.2.2.2.2.2))] Hn := hPn
        have hD : va_D A [(he, .inr (2, [.ref h, .int (bI st.1.1), .int x3, .int x4, .int st.1.2.2.2.1, .int st.1.2.2.2.2.1, .int st.1.2.2.2.2.2.1, .int st.1.2.2.2.2.2.2])), (h, .inr (0, [.ref a1, .ref a2, .ref a3, .int st.2.1, .int st.2.2.1, .int st.2.2.2.1])), (a1, .inl (E.2.1 0, 42000, .inl st.2.2.2.2.1)), (a2, .inl (E.2.1 0, 513, .inl st.2.2.2.2.2.1)), (a3, .inl (E.2.1 1, 513, .inl st.2.2.2.2.2.2))] := hDn
        have hS := hSn
        clear hPn hDn hSn
        refine lv_aload_n hx hb d_En_renew_37 rfl (lv_at hl 0 rfl) ?_
        refine lv_dup hx hb d_En_renew_38 rfl ?_
        refine va_get (D := E.1) (ci := 2) (v := .int st.1.2.2.2.1) (C := R_En) (T := T_En) (N := 8) hx hb hts in_En hown hK hP 0 rfl rfl 4 (by decide) (hts _ m_90) (fun _ h9 => h9) rfl d_En_renew_39 ?_
        refine lv_iconst (v := 1) hx hb d_En_renew_42 (by decide) ?_
        refine lv_isub hx hb d_En_renew_43 ?_
        refine lv_topi (fun x5 ex5 => ?_)
        replace hok := hok x5 ex5
        refine va_put (D := E.1) (ci := 2) (v := .int x5) (ty := .int) (C := R_En) (T := T_En) (N := 8) hx hb hts in_En t_En t_En_ok n_En hown hK hP hD hS 0 rfl rfl 4 (by decide) (hts _ m_90) (fun _ h9 => h9) rfl (by decide +kernel) rfl rfl (Nat.le_of_ble_eq_true rfl) d_En_renew_44 (fun Hn locsn hPn hDn hSn => ?_)
        clear hP hD hS
        have hP : va_P E.1 classes [(he, .inr (2, [.ref h, .int (bI st.1.1), .int x3, .int x4, .int x5, .int st.1.2.2.2.2.1, .int st.1.2.2.2.2.2.1, .int st.1.2.2.2.2.2.2])), (h, .inr (0, [.ref a1, .ref a2, .ref a3, .int st.2.1, .int st.2.2.1, .int st.2.2.2.1])), (a1, .inl (E.2.1 0, 42000, .inl st.2.2.2.2.1)), (a2, .inl (E.2.1 0, 513, .inl st.2.2.2.2.2.1)), (a3, .inl (E.2.1 1, 513, .inl st.2.2.2.2.2.2))] Hn := hPn
        have hD : va_D A [(he, .inr (2, [.ref h, .int (bI st.1.1), .int x3, .int x4, .int x5, .int st.1.2.2.2.2.1, .int st.1.2.2.2.2.2.1, .int st.1.2.2.2.2.2.2])), (h, .inr (0, [.ref a1, .ref a2, .ref a3, .int st.2.1, .int st.2.2.1, .int st.2.2.2.1])), (a1, .inl (E.2.1 0, 42000, .inl st.2.2.2.2.1)), (a2, .inl (E.2.1 0, 513, .inl st.2.2.2.2.2.1)), (a3, .inl (E.2.1 1, 513, .inl st.2.2.2.2.2.2))] := hDn
        have hS := hSn
        clear hPn hDn hSn
        refine lv_aload_n hx hb d_En_renew_47 rfl (lv_at hl 0 rfl) ?_
        refine va_get (D := E.1) (ci := 2) (v := .int x5) (C := R_En) (T := T_En) (N := 8) hx hb hts in_En hown hK hP 0 rfl rfl 4 (by decide) (hts _ m_90) (fun _ h9 => h9) rfl d_En_renew_48 ?_
        refine lv_if_ne (tgt := 58) hx hb d_En_renew_51 (by decide) (fun c6 => ?_) (fun c6 => ?_)
        · replace hok := hok.2 c6
          obtain ⟨x7, ex7⟩ : ∃ y : Int32, y = k1 + 1 := ⟨_, rfl⟩
          replace hok := hok x7 ex7
          refine lv_iinc (v := x7) (lv' := [(1, .int x7), (0, .ref he)]) hx hb d_En_renew_58 hl (k := 1) rfl (by rw [ex7]; rfl) (by decide) rfl (fun ls hl => ?_)
          refine lv_goto (tgt := 2) hx hb d_En_renew_61 (by decide) ?_
          have e9 : g_En_renew  (n + 1) st k1 = g_En_renew  n ((st.1.1, x3, x4, x5, st.1.2.2.2.2.1, st.1.2.2.2.2.2.1, st.1.2.2.2.2.2.2), st.2) x7 := by subst ex7; subst ex5; subst ex4; subst ex3; exact (Eq.trans (g_En_renew_s  n st k1) (Eq.trans (if_neg c1) (Eq.trans (if_neg c2) (Eq.trans (if_neg c6) rfl))))
          rw [e9]
          exact ih ((st.1.1, x3, x4, x5, st.1.2.2.2.2.1, st.1.2.2.2.2.2.1, st.1.2.2.2.2.2.2), st.2) x7 _ _ _ hok hP hD hS (lv_sub hl [1, 0] rfl)
        · replace hok := hok.1 c6
          refine lv_aload_n hx hb d_En_renew_54 rfl (lv_at hl 0 rfl) ?_
          refine ar_usev (wr := []) hP hD hS hA [0, 1, 2, 3, 4] [] rfl rfl rfl (by decide) (ar_runV (n := 0) (As := []) (rest := []) (ci := 2) (q0 := 0) hx hb hml hown hts hP hD hS hA hK hZ (c_En_putOut l E _ he h a1 a2 a3 ((st.1.1, x3, x4, x5, st.1.2.2.2.2.1, st.1.2.2.2.2.2.1, st.1.2.2.2.2.2.2), st.2)  ) m_242 m_244 ms_5 m_5 m_245 (by decide +kernel) ⟨Nat.le_of_ble_eq_true rfl, Nat.le_of_ble_eq_true rfl⟩ [0, 1, 2, 3, 4] rfl rfl rfl rfl rfl rfl rfl hl.1 rfl (Nat.le_of_ble_eq_true rfl) d_En_renew_55 ⟨Nat.le_of_ble_eq_true rfl, Nat.le_of_ble_eq_true rfl⟩) (fun u8 Hn locsn hw8 hPn hDn hSn => ?_)
          replace hok := hok u8 hw8
          clear hP hD hS
          have hP : va_P E.1 classes [(he, .inr (2, [.ref h, .int (bI u8.1.1), .int u8.1.2.1, .int u8.1.2.2.1, .int u8.1.2.2.2.1, .int u8.1.2.2.2.2.1, .int u8.1.2.2.2.2.2.1, .int u8.1.2.2.2.2.2.2])), (h, .inr (0, [.ref a1, .ref a2, .ref a3, .int u8.2.1, .int u8.2.2.1, .int u8.2.2.2.1])), (a1, .inl (E.2.1 0, 42000, .inl u8.2.2.2.2.1)), (a2, .inl (E.2.1 0, 513, .inl u8.2.2.2.2.2.1)), (a3, .inl (E.2.1 1, 513, .inl u8.2.2.2.2.2.2))] Hn := hPn
          have hD : va_D A [(he, .inr (2, [.ref h, .int (bI u8.1.1), .int u8.1.2.1, .int u8.1.2.2.1, .int u8.1.2.2.2.1, .int u8.1.2.2.2.2.1, .int u8.1.2.2.2.2.2.1, .int u8.1.2.2.2.2.2.2])), (h, .inr (0, [.ref a1, .ref a2, .ref a3, .int u8.2.1, .int u8.2.2.1, .int u8.2.2.2.1])), (a1, .inl (E.2.1 0, 42000, .inl u8.2.2.2.2.1)), (a2, .inl (E.2.1 0, 513, .inl u8.2.2.2.2.2.1)), (a3, .inl (E.2.1 1, 513, .inl u8.2.2.2.2.2.2))] := hDn
          have hS := hSn
          clear hPn hDn hSn
          obtain ⟨x9, ex9⟩ : ∃ y : Int32, y = k1 + 1 := ⟨_, rfl⟩
          replace hok := hok x9 ex9
          refine lv_iinc (v := x9) (lv' := [(1, .int x9), (0, .ref he)]) hx hb d_En_renew_58 hl (k := 1) rfl (by rw [ex9]; rfl) (by decide) rfl (fun ls hl => ?_)
          refine lv_goto (tgt := 2) hx hb d_En_renew_61 (by decide) ?_
          have e9 : g_En_renew  (n + 1) st k1 = g_En_renew  n u8 x9 := by subst ex9; subst hw8; subst ex5; subst ex4; subst ex3; exact (Eq.trans (g_En_renew_s  n st k1) (Eq.trans (if_neg c1) (Eq.trans (if_neg c2) (Eq.trans (if_pos c6) rfl))))
          rw [e9]
          exact ih u8 x9 _ _ _ hok hP hD hS (lv_sub hl [1, 0] rfl)
noncomputable def f_En_renew  (st : (EnS) × (RoS)) : (EnS) × (RoS) :=
  g_En_renew  (nf 17) st 0
theorem f_En_renew_s  (st : (EnS) × (RoS)) : f_En_renew  st = ((
  g_En_renew  (nf 17) st 0
  : (EnS) × (RoS))) := rfl
def k_En_renew  (st : (EnS) × (RoS)) : Prop := kl_En_renew  (nf 17) st 0
set_option maxHeartbeats 4000000 in
set_option maxRecDepth 100000 in
theorem c_En_renew (l : Launch) (E : Ev) (A : Nat → Prop) (he h a1 a2 a3 : Nat) (st : (EnS) × (RoS))   (hok : k_En_renew  st) :
    Kt l y_En_renew b_En_renew 2 none 2 0 0 E A [.ref he] [(he, .inr (2, [.ref h, .int (bI st.1.1), .int st.1.2.1, .int st.1.2.2.1, .int st.1.2.2.2.1, .int st.1.2.2.2.2.1, .int st.1.2.2.2.2.2.1, .int st.1.2.2.2.2.2.2])), (h, .inr (0, [.ref a1, .ref a2, .ref a3, .int st.2.1, .int st.2.2.1, .int st.2.2.2.1])), (a1, .inl (E.2.1 0, 42000, .inl st.2.2.2.2.1)), (a2, .inl (E.2.1 0, 513, .inl st.2.2.2.2.2.1)), (a3, .inl (E.2.1 1, 513, .inl st.2.2.2.2.2.2))] (va_Qv (fun u : (EnS) × (RoS) => u = f_En_renew  st) (ar_W E A (fun u : (EnS) × (RoS) => [(he, .inr (2, [.ref h, .int (bI u.1.1), .int u.1.2.1, .int u.1.2.2.1, .int u.1.2.2.2.1, .int u.1.2.2.2.2.1, .int u.1.2.2.2.2.2.1, .int u.1.2.2.2.2.2.2])), (h, .inr (0, [.ref a1, .ref a2, .ref a3, .int u.2.1, .int u.2.2.1, .int u.2.2.2.1])), (a1, .inl (E.2.1 0, 42000, .inl u.2.2.2.2.1)), (a2, .inl (E.2.1 0, 513, .inl u.2.2.2.2.2.1)), (a3, .inl (E.2.1 1, 513, .inl u.2.2.2.2.2.2))])) A) := by
  unfold k_En_renew at hok
  refine Kt.of (by decide) (Nat.le_of_ble_eq_true rfl) ?_
  intro p e s m below meth c ls hx hb hml hown hts hr hlocks hex hin hA hZ hP hK hD hl
  have hS : va_S A s.heap s.heap [] := va_S.rf
  have hl : lv_has ls 2 [(0, .ref he)] := hl
  refine lv_iconst (v := 0) hx hb d_En_renew_0 (by decide) ?_
  refine lv_istore_n (lv' := [(1, .int 0), (0, .ref he)]) hx hb d_En_renew_1 rfl hl (by decide) rfl (fun ls hl => ?_)
  have e9 : f_En_renew  st = g_En_renew  (nf 17) st 0 := by exact (Eq.trans (f_En_renew_s  st) rfl)
  rw [e9]
  exact lp_En_renew l E A he h a1 a2 a3   hx hb hml hown hts hr hlocks hA hZ hK (nf 17) st 0 _ _ _ hok hP hD hS (lv_sub hl [1, 0] rfl)

noncomputable def f_En_flush  (st : (EnS) × (RoS)) : (EnS) × (RoS) :=
  let x1 := (st.1.2.2.1 + st.1.2.1)
  let x2 := (st.1.2.2.1 ||| 65535)
  if x2 < x1 then
    let x4 := (x2 <<< (st.1.2.2.2.1 &&& 31))
    let u5 := f_En_putOut   ((st.1.1, st.1.2.1, x4, st.1.2.2.2.1, st.1.2.2.2.2.1, st.1.2.2.2.2.2.1, st.1.2.2.2.2.2.2), st.2)
    let x6 := (u5.1.2.2.1 <<< (u5.1.2.2.2.1 &&& 31))
    let u7 := f_En_putOut   ((u5.1.1, u5.1.2.1, x6, u5.1.2.2.2.1, u5.1.2.2.2.2.1, u5.1.2.2.2.2.2.1, u5.1.2.2.2.2.2.2), u5.2)
    u7
  else
    let x8 := (x2 - 32768)
    let x9 := (x8 <<< (st.1.2.2.2.1 &&& 31))
    let u10 := f_En_putOut   ((st.1.1, st.1.2.1, x9, st.1.2.2.2.1, st.1.2.2.2.2.1, st.1.2.2.2.2.2.1, st.1.2.2.2.2.2.2), st.2)
    let x11 := (u10.1.2.2.1 <<< (u10.1.2.2.2.1 &&& 31))
    let u12 := f_En_putOut   ((u10.1.1, u10.1.2.1, x11, u10.1.2.2.2.1, u10.1.2.2.2.2.1, u10.1.2.2.2.2.2.1, u10.1.2.2.2.2.2.2), u10.2)
    u12
theorem f_En_flush_s  (st : (EnS) × (RoS)) : f_En_flush  st = ((
  let x1 := (st.1.2.2.1 + st.1.2.1)
  let x2 := (st.1.2.2.1 ||| 65535)
  if x2 < x1 then
    let x4 := (x2 <<< (st.1.2.2.2.1 &&& 31))
    let u5 := f_En_putOut   ((st.1.1, st.1.2.1, x4, st.1.2.2.2.1, st.1.2.2.2.2.1, st.1.2.2.2.2.2.1, st.1.2.2.2.2.2.2), st.2)
    let x6 := (u5.1.2.2.1 <<< (u5.1.2.2.2.1 &&& 31))
    let u7 := f_En_putOut   ((u5.1.1, u5.1.2.1, x6, u5.1.2.2.2.1, u5.1.2.2.2.2.1, u5.1.2.2.2.2.2.1, u5.1.2.2.2.2.2.2), u5.2)
    u7
  else
    let x8 := (x2 - 32768)
    let x9 := (x8 <<< (st.1.2.2.2.1 &&& 31))
    let u10 := f_En_putOut   ((st.1.1, st.1.2.1, x9, st.1.2.2.2.1, st.1.2.2.2.2.1, st.1.2.2.2.2.2.1, st.1.2.2.2.2.2.2), st.2)
    let x11 := (u10.1.2.2.1 <<< (u10.1.2.2.2.1 &&& 31))
    let u12 := f_En_putOut   ((u10.1.1, u10.1.2.1, x11, u10.1.2.2.2.1, u10.1.2.2.2.2.1, u10.1.2.2.2.2.2.1, u10.1.2.2.2.2.2.2), u10.2)
    u12
  : (EnS) × (RoS))) := rfl
set_option maxHeartbeats 4000000 in
set_option maxRecDepth 100000 in
theorem c_En_flush (l : Launch) (E : Ev) (A : Nat → Prop) (he h a1 a2 a3 : Nat) (st : (EnS) × (RoS))   :
    Kt l y_En_flush b_En_flush 2 none 2 0 0 E A [.ref he] [(he, .inr (2, [.ref h, .int (bI st.1.1), .int st.1.2.1, .int st.1.2.2.1, .int st.1.2.2.2.1, .int st.1.2.2.2.2.1, .int st.1.2.2.2.2.2.1, .int st.1.2.2.2.2.2.2])), (h, .inr (0, [.ref a1, .ref a2, .ref a3, .int st.2.1, .int st.2.2.1, .int st.2.2.2.1])), (a1, .inl (E.2.1 0, 42000, .inl st.2.2.2.2.1)), (a2, .inl (E.2.1 0, 513, .inl st.2.2.2.2.2.1)), (a3, .inl (E.2.1 1, 513, .inl st.2.2.2.2.2.2))] (va_Qv (fun u : (EnS) × (RoS) => u = f_En_flush  st) (ar_W E A (fun u : (EnS) × (RoS) => [(he, .inr (2, [.ref h, .int (bI u.1.1), .int u.1.2.1, .int u.1.2.2.1, .int u.1.2.2.2.1, .int u.1.2.2.2.2.1, .int u.1.2.2.2.2.2.1, .int u.1.2.2.2.2.2.2])), (h, .inr (0, [.ref a1, .ref a2, .ref a3, .int u.2.1, .int u.2.2.1, .int u.2.2.2.1])), (a1, .inl (E.2.1 0, 42000, .inl u.2.2.2.2.1)), (a2, .inl (E.2.1 0, 513, .inl u.2.2.2.2.2.1)), (a3, .inl (E.2.1 1, 513, .inl u.2.2.2.2.2.2))])) A) := by
  refine Kt.of (by decide) (Nat.le_of_ble_eq_true rfl) ?_
  intro p e s m below meth c ls hx hb hml hown hts hr hlocks hex hin hA hZ hP hK hD hl
  have hS : va_S A s.heap s.heap [] := va_S.rf
  have hl : lv_has ls 2 [(0, .ref he)] := hl
  refine lv_aload_n hx hb d_En_flush_0 rfl (lv_at hl 0 rfl) ?_
  refine va_get (D := E.1) (ci := 2) (v := .int st.1.2.2.1) (C := R_En) (T := T_En) (N := 8) hx hb hts in_En hown hK hP 0 rfl rfl 3 (by decide) (hts _ m_89) (fun _ h9 => h9) rfl d_En_flush_1 ?_
  refine lv_aload_n hx hb d_En_flush_4 rfl (lv_at hl 0 rfl) ?_
  refine va_get (D := E.1) (ci := 2) (v := .int st.1.2.1) (C := R_En) (T := T_En) (N := 8) hx hb hts in_En hown hK hP 0 rfl rfl 2 (by decide) (hts _ m_88) (fun _ h9 => h9) rfl d_En_flush_5 ?_
  refine lv_iadd hx hb d_En_flush_8 ?_
  refine lv_topi (fun x1 ex1 => ?_)
  refine lv_istore_n (lv' := [(1, .int x1), (0, .ref he)]) hx hb d_En_flush_9 rfl hl (by decide) rfl (fun ls hl => ?_)
  refine lv_aload_n hx hb d_En_flush_10 rfl (lv_at hl 1 rfl) ?_
  refine lv_dup hx hb d_En_flush_11 rfl ?_
  refine va_get (D := E.1) (ci := 2) (v := .int st.1.2.2.1) (C := R_En) (T := T_En) (N := 8) hx hb hts in_En hown hK hP 0 rfl rfl 3 (by decide) (hts _ m_89) (fun _ h9 => h9) rfl d_En_flush_12 ?_
  refine lv_ldc (v := 65535) hx hb hown (hts _ m_241) d_En_flush_15 ?_
  refine lv_ior hx hb d_En_flush_17 ?_
  refine lv_topi (fun x2 ex2 => ?_)
  refine va_put (D := E.1) (ci := 2) (v := .int x2) (ty := .int) (C := R_En) (T := T_En) (N := 8) hx hb hts in_En t_En t_En_ok n_En hown hK hP hD hS 0 rfl rfl 3 (by decide) (hts _ m_89) (fun _ h9 => h9) rfl (by decide +kernel) rfl rfl (Nat.le_of_ble_eq_true rfl) d_En_flush_18 (fun Hn locsn hPn hDn hSn => ?_)
  clear hP hD hS
  have hP : va_P E.1 classes [(he, .inr (2, [.ref h, .int (bI st.1.1), .int st.1.2.1, .int x2, .int st.1.2.2.2.1, .int st.1.2.2.2.2.1, .int st.1.2.2.2.2.2.1, .int st.1.2.2.2.2.2.2])), (h, .inr (0, [.ref a1, .ref a2, .ref a3, .int st.2.1, .int st.2.2.1, .int st.2.2.2.1])), (a1, .inl (E.2.1 0, 42000, .inl st.2.2.2.2.1)), (a2, .inl (E.2.1 0, 513, .inl st.2.2.2.2.2.1)), (a3, .inl (E.2.1 1, 513, .inl st.2.2.2.2.2.2))] Hn := hPn
  have hD : va_D A [(he, .inr (2, [.ref h, .int (bI st.1.1), .int st.1.2.1, .int x2, .int st.1.2.2.2.1, .int st.1.2.2.2.2.1, .int st.1.2.2.2.2.2.1, .int st.1.2.2.2.2.2.2])), (h, .inr (0, [.ref a1, .ref a2, .ref a3, .int st.2.1, .int st.2.2.1, .int st.2.2.2.1])), (a1, .inl (E.2.1 0, 42000, .inl st.2.2.2.2.1)), (a2, .inl (E.2.1 0, 513, .inl st.2.2.2.2.2.1)), (a3, .inl (E.2.1 1, 513, .inl st.2.2.2.2.2.2))] := hDn
  have hS := hSn
  clear hPn hDn hSn
  refine lv_aload_n hx hb d_En_flush_21 rfl (lv_at hl 1 rfl) ?_
  refine va_get (D := E.1) (ci := 2) (v := .int x2) (C := R_En) (T := T_En) (N := 8) hx hb hts in_En hown hK hP 0 rfl rfl 3 (by decide) (hts _ m_89) (fun _ h9 => h9) rfl d_En_flush_22 ?_
  refine lv_iload_n hx hb d_En_flush_25 rfl (lv_at hl 0 rfl) ?_
  refine lv_icmp_lt (tgt := 40) hx hb d_En_flush_26 (by decide) (fun c3 => ?_) (fun c3 => ?_)
  · skip
    refine lv_aload_n hx hb d_En_flush_40 rfl (lv_at hl 1 rfl) ?_
    refine lv_dup hx hb d_En_flush_41 rfl ?_
    refine va_get (D := E.1) (ci := 2) (v := .int x2) (C := R_En) (T := T_En) (N := 8) hx hb hts in_En hown hK hP 0 rfl rfl 3 (by decide) (hts _ m_89) (fun _ h9 => h9) rfl d_En_flush_42 ?_
    refine lv_aload_n hx hb d_En_flush_45 rfl (lv_at hl 1 rfl) ?_
    refine va_get (D := E.1) (ci := 2) (v := .int st.1.2.2.2.1) (C := R_En) (T := T_En) (N := 8) hx hb hts in_En hown hK hP 0 rfl rfl 4 (by decide) (hts _ m_90) (fun _ h9 => h9) rfl d_En_flush_46 ?_
    refine lv_ishl hx hb d_En_flush_49 ?_
    refine lv_topi (fun x4 ex4 => ?_)
    refine va_put (D := E.1) (ci := 2) (v := .int x4) (ty := .int) (C := R_En) (T := T_En) (N := 8) hx hb hts in_En t_En t_En_ok n_En hown hK hP hD hS 0 rfl rfl 3 (by decide) (hts _ m_89) (fun _ h9 => h9) rfl (by decide +kernel) rfl rfl (Nat.le_of_ble_eq_true rfl) d_En_flush_50 (fun Hn locsn hPn hDn hSn => ?_)
    clear hP hD hS
    have hP : va_P E.1 classes [(he, .inr (2, [.ref h, .int (bI st.1.1), .int st.1.2.1, .int x4, .int st.1.2.2.2.1, .int st.1.2.2.2.2.1, .int st.1.2.2.2.2.2.1, .int st.1.2.2.2.2.2.2])), (h, .inr (0, [.ref a1, .ref a2, .ref a3, .int st.2.1, .int st.2.2.1, .int st.2.2.2.1])), (a1, .inl (E.2.1 0, 42000, .inl st.2.2.2.2.1)), (a2, .inl (E.2.1 0, 513, .inl st.2.2.2.2.2.1)), (a3, .inl (E.2.1 1, 513, .inl st.2.2.2.2.2.2))] Hn := hPn
    have hD : va_D A [(he, .inr (2, [.ref h, .int (bI st.1.1), .int st.1.2.1, .int x4, .int st.1.2.2.2.1, .int st.1.2.2.2.2.1, .int st.1.2.2.2.2.2.1, .int st.1.2.2.2.2.2.2])), (h, .inr (0, [.ref a1, .ref a2, .ref a3, .int st.2.1, .int st.2.2.1, .int st.2.2.2.1])), (a1, .inl (E.2.1 0, 42000, .inl st.2.2.2.2.1)), (a2, .inl (E.2.1 0, 513, .inl st.2.2.2.2.2.1)), (a3, .inl (E.2.1 1, 513, .inl st.2.2.2.2.2.2))] := hDn
    have hS := hSn
    clear hPn hDn hSn
    refine lv_aload_n hx hb d_En_flush_53 rfl (lv_at hl 1 rfl) ?_
    refine ar_usev (wr := []) hP hD hS hA [0, 1, 2, 3, 4] [] rfl rfl rfl (by decide) (ar_runV (n := 0) (As := []) (rest := []) (ci := 2) (q0 := 0) hx hb hml hown hts hP hD hS hA hK hZ (c_En_putOut l E _ he h a1 a2 a3 ((st.1.1, st.1.2.1, x4, st.1.2.2.2.1, st.1.2.2.2.2.1, st.1.2.2.2.2.2.1, st.1.2.2.2.2.2.2), st.2)  ) m_242 m_244 ms_5 m_5 m_245 (by decide +kernel) ⟨Nat.le_of_ble_eq_true rfl, Nat.le_of_ble_eq_true rfl⟩ [0, 1, 2, 3, 4] rfl rfl rfl rfl rfl rfl rfl hl.1 rfl (Nat.le_of_ble_eq_true rfl) d_En_flush_54 ⟨Nat.le_of_ble_eq_true rfl, Nat.le_of_ble_eq_true rfl⟩) (fun u5 Hn locsn hw5 hPn hDn hSn => ?_)
    clear hP hD hS
    have hP : va_P E.1 classes [(he, .inr (2, [.ref h, .int (bI u5.1.1), .int u5.1.2.1, .int u5.1.2.2.1, .int u5.1.2.2.2.1, .int u5.1.2.2.2.2.1, .int u5.1.2.2.2.2.2.1, .int u5.1.2.2.2.2.2.2])), (h, .inr (0, [.ref a1, .ref a2, .ref a3, .int u5.2.1, .int u5.2.2.1, .int u5.2.2.2.1])), (a1, .inl (E.2.1 0, 42000, .inl u5.2.2.2.2.1)), (a2, .inl (E.2.1 0, 513, .inl u5.2.2.2.2.2.1)), (a3, .inl (E.2.1 1, 513, .inl u5.2.2.2.2.2.2))] Hn := hPn
    have hD : va_D A [(he, .inr (2, [.ref h, .int (bI u5.1.1), .int u5.1.2.1, .int u5.1.2.2.1, .int u5.1.2.2.2.1, .int u5.1.2.2.2.2.1, .int u5.1.2.2.2.2.2.1, .int u5.1.2.2.2.2.2.2])), (h, .inr (0, [.ref a1, .ref a2, .ref a3, .int u5.2.1, .int u5.2.2.1, .int u5.2.2.2.1])), (a1, .inl (E.2.1 0, 42000, .inl u5.2.2.2.2.1)), (a2, .inl (E.2.1 0, 513, .inl u5.2.2.2.2.2.1)), (a3, .inl (E.2.1 1, 513, .inl u5.2.2.2.2.2.2))] := hDn
    have hS := hSn
    clear hPn hDn hSn
    refine lv_aload_n hx hb d_En_flush_57 rfl (lv_at hl 1 rfl) ?_
    refine lv_dup hx hb d_En_flush_58 rfl ?_
    refine va_get (D := E.1) (ci := 2) (v := .int u5.1.2.2.1) (C := R_En) (T := T_En) (N := 8) hx hb hts in_En hown hK hP 0 rfl rfl 3 (by decide) (hts _ m_89) (fun _ h9 => h9) rfl d_En_flush_59 ?_
    refine lv_aload_n hx hb d_En_flush_62 rfl (lv_at hl 1 rfl) ?_
    refine va_get (D := E.1) (ci := 2) (v := .int u5.1.2.2.2.1) (C := R_En) (T := T_En) (N := 8) hx hb hts in_En hown hK hP 0 rfl rfl 4 (by decide) (hts _ m_90) (fun _ h9 => h9) rfl d_En_flush_63 ?_
    refine lv_ishl hx hb d_En_flush_66 ?_
    refine lv_topi (fun x6 ex6 => ?_)
    refine va_put (D := E.1) (ci := 2) (v := .int x6) (ty := .int) (C := R_En) (T := T_En) (N := 8) hx hb hts in_En t_En t_En_ok n_En hown hK hP hD hS 0 rfl rfl 3 (by decide) (hts _ m_89) (fun _ h9 => h9) rfl (by decide +kernel) rfl rfl (Nat.le_of_ble_eq_true rfl) d_En_flush_67 (fun Hn locsn hPn hDn hSn => ?_)
    clear hP hD hS
    have hP : va_P E.1 classes [(he, .inr (2, [.ref h, .int (bI u5.1.1), .int u5.1.2.1, .int x6, .int u5.1.2.2.2.1, .int u5.1.2.2.2.2.1, .int u5.1.2.2.2.2.2.1, .int u5.1.2.2.2.2.2.2])), (h, .inr (0, [.ref a1, .ref a2, .ref a3, .int u5.2.1, .int u5.2.2.1, .int u5.2.2.2.1])), (a1, .inl (E.2.1 0, 42000, .inl u5.2.2.2.2.1)), (a2, .inl (E.2.1 0, 513, .inl u5.2.2.2.2.2.1)), (a3, .inl (E.2.1 1, 513, .inl u5.2.2.2.2.2.2))] Hn := hPn
    have hD : va_D A [(he, .inr (2, [.ref h, .int (bI u5.1.1), .int u5.1.2.1, .int x6, .int u5.1.2.2.2.1, .int u5.1.2.2.2.2.1, .int u5.1.2.2.2.2.2.1, .int u5.1.2.2.2.2.2.2])), (h, .inr (0, [.ref a1, .ref a2, .ref a3, .int u5.2.1, .int u5.2.2.1, .int u5.2.2.2.1])), (a1, .inl (E.2.1 0, 42000, .inl u5.2.2.2.2.1)), (a2, .inl (E.2.1 0, 513, .inl u5.2.2.2.2.2.1)), (a3, .inl (E.2.1 1, 513, .inl u5.2.2.2.2.2.2))] := hDn
    have hS := hSn
    clear hPn hDn hSn
    refine lv_aload_n hx hb d_En_flush_70 rfl (lv_at hl 1 rfl) ?_
    refine ar_usev (wr := []) hP hD hS hA [0, 1, 2, 3, 4] [] rfl rfl rfl (by decide) (ar_runV (n := 0) (As := []) (rest := []) (ci := 2) (q0 := 0) hx hb hml hown hts hP hD hS hA hK hZ (c_En_putOut l E _ he h a1 a2 a3 ((u5.1.1, u5.1.2.1, x6, u5.1.2.2.2.1, u5.1.2.2.2.2.1, u5.1.2.2.2.2.2.1, u5.1.2.2.2.2.2.2), u5.2)  ) m_242 m_244 ms_5 m_5 m_245 (by decide +kernel) ⟨Nat.le_of_ble_eq_true rfl, Nat.le_of_ble_eq_true rfl⟩ [0, 1, 2, 3, 4] rfl rfl rfl rfl rfl rfl rfl hl.1 rfl (Nat.le_of_ble_eq_true rfl) d_En_flush_71 ⟨Nat.le_of_ble_eq_true rfl, Nat.le_of_ble_eq_true rfl⟩) (fun u7 Hn locsn hw7 hPn hDn hSn => ?_)
    clear hP hD hS
    have hP : va_P E.1 classes [(he, .inr (2, [.ref h, .int (bI u7.1.1), .int u7.1.2.1, .int u7.1.2.2.1, .int u7.1.2.2.2.1, .int u7.1.2.2.2.2.1, .int u7.1.2.2.2.2.2.1, .int u7.1.2.2.2.2.2.2])), (h, .inr (0, [.ref a1, .ref a2, .ref a3, .int u7.2.1, .int u7.2.2.1, .int u7.2.2.2.1])), (a1, .inl (E.2.1 0, 42000, .inl u7.2.2.2.2.1)), (a2, .inl (E.2.1 0, 513, .inl u7.2.2.2.2.2.1)), (a3, .inl (E.2.1 1, 513, .inl u7.2.2.2.2.2.2))] Hn := hPn
    have hD : va_D A [(he, .inr (2, [.ref h, .int (bI u7.1.1), .int u7.1.2.1, .int u7.1.2.2.1, .int u7.1.2.2.2.1, .int u7.1.2.2.2.2.1, .int u7.1.2.2.2.2.2.1, .int u7.1.2.2.2.2.2.2])), (h, .inr (0, [.ref a1, .ref a2, .ref a3, .int u7.2.1, .int u7.2.2.1, .int u7.2.2.2.1])), (a1, .inl (E.2.1 0, 42000, .inl u7.2.2.2.2.1)), (a2, .inl (E.2.1 0, 513, .inl u7.2.2.2.2.2.1)), (a3, .inl (E.2.1 1, 513, .inl u7.2.2.2.2.2.2))] := hDn
    have hS := hSn
    clear hPn hDn hSn
    exact ar_vret hx hb hr hlocks hK hS u7 (by subst hw7; subst ex6; subst hw5; subst ex4; subst ex2; subst ex1; exact Eq.symm (Eq.trans (f_En_flush_s  st) (Eq.trans (if_pos c3) rfl))) hP hD d_En_flush_74
  · skip
    refine lv_aload_n hx hb d_En_flush_29 rfl (lv_at hl 1 rfl) ?_
    refine lv_dup hx hb d_En_flush_30 rfl ?_
    refine va_get (D := E.1) (ci := 2) (v := .int x2) (C := R_En) (T := T_En) (N := 8) hx hb hts in_En hown hK hP 0 rfl rfl 3 (by decide) (hts _ m_89) (fun _ h9 => h9) rfl d_En_flush_31 ?_
    refine lv_ldc (v := 32768) hx hb hown (hts _ m_85) d_En_flush_34 ?_
    refine lv_isub hx hb d_En_flush_36 ?_
    refine lv_topi (fun x8 ex8 => ?_)
    refine va_put (D := E.1) (ci := 2) (v := .int x8) (ty := .int) (C := R_En) (T := T_En) (N := 8) hx hb hts in_En t_En t_En_ok n_En hown hK hP hD hS 0 rfl rfl 3 (by decide) (hts _ m_89) (fun _ h9 => h9) rfl (by decide +kernel) rfl rfl (Nat.le_of_ble_eq_true rfl) d_En_flush_37 (fun Hn locsn hPn hDn hSn => ?_)
    clear hP hD hS
    have hP : va_P E.1 classes [(he, .inr (2, [.ref h, .int (bI st.1.1), .int st.1.2.1, .int x8, .int st.1.2.2.2.1, .int st.1.2.2.2.2.1, .int st.1.2.2.2.2.2.1, .int st.1.2.2.2.2.2.2])), (h, .inr (0, [.ref a1, .ref a2, .ref a3, .int st.2.1, .int st.2.2.1, .int st.2.2.2.1])), (a1, .inl (E.2.1 0, 42000, .inl st.2.2.2.2.1)), (a2, .inl (E.2.1 0, 513, .inl st.2.2.2.2.2.1)), (a3, .inl (E.2.1 1, 513, .inl st.2.2.2.2.2.2))] Hn := hPn
    have hD : va_D A [(he, .inr (2, [.ref h, .int (bI st.1.1), .int st.1.2.1, .int x8, .int st.1.2.2.2.1, .int st.1.2.2.2.2.1, .int st.1.2.2.2.2.2.1, .int st.1.2.2.2.2.2.2])), (h, .inr (0, [.ref a1, .ref a2, .ref a3, .int st.2.1, .int st.2.2.1, .int st.2.2.2.1])), (a1, .inl (E.2.1 0, 42000, .inl st.2.2.2.2.1)), (a2, .inl (E.2.1 0, 513, .inl st.2.2.2.2.2.1)), (a3, .inl (E.2.1 1, 513, .inl st.2.2.2.2.2.2))] := hDn
    have hS := hSn
    clear hPn hDn hSn
    refine lv_aload_n hx hb d_En_flush_40 rfl (lv_at hl 1 rfl) ?_
    refine lv_dup hx hb d_En_flush_41 rfl ?_
    refine va_get (D := E.1) (ci := 2) (v := .int x8) (C := R_En) (T := T_En) (N := 8) hx hb hts in_En hown hK hP 0 rfl rfl 3 (by decide) (hts _ m_89) (fun _ h9 => h9) rfl d_En_flush_42 ?_
    refine lv_aload_n hx hb d_En_flush_45 rfl (lv_at hl 1 rfl) ?_
    refine va_get (D := E.1) (ci := 2) (v := .int st.1.2.2.2.1) (C := R_En) (T := T_En) (N := 8) hx hb hts in_En hown hK hP 0 rfl rfl 4 (by decide) (hts _ m_90) (fun _ h9 => h9) rfl d_En_flush_46 ?_
    refine lv_ishl hx hb d_En_flush_49 ?_
    refine lv_topi (fun x9 ex9 => ?_)
    refine va_put (D := E.1) (ci := 2) (v := .int x9) (ty := .int) (C := R_En) (T := T_En) (N := 8) hx hb hts in_En t_En t_En_ok n_En hown hK hP hD hS 0 rfl rfl 3 (by decide) (hts _ m_89) (fun _ h9 => h9) rfl (by decide +kernel) rfl rfl (Nat.le_of_ble_eq_true rfl) d_En_flush_50 (fun Hn locsn hPn hDn hSn => ?_)
    clear hP hD hS
    have hP : va_P E.1 classes [(he, .inr (2, [.ref h, .int (bI st.1.1), .int st.1.2.1, .int x9, .int st.1.2.2.2.1, .int st.1.2.2.2.2.1, .int st.1.2.2.2.2.2.1, .int st.1.2.2.2.2.2.2])), (h, .inr (0, [.ref a1, .ref a2, .ref a3, .int st.2.1, .int st.2.2.1, .int st.2.2.2.1])), (a1, .inl (E.2.1 0, 42000, .inl st.2.2.2.2.1)), (a2, .inl (E.2.1 0, 513, .inl st.2.2.2.2.2.1)), (a3, .inl (E.2.1 1, 513, .inl st.2.2.2.2.2.2))] Hn := hPn
    have hD : va_D A [(he, .inr (2, [.ref h, .int (bI st.1.1), .int st.1.2.1, .int x9, .int st.1.2.2.2.1, .int st.1.2.2.2.2.1, .int st.1.2.2.2.2.2.1, .int st.1.2.2.2.2.2.2])), (h, .inr (0, [.ref a1, .ref a2, .ref a3, .int st.2.1, .int st.2.2.1, .int st.2.2.2.1])), (a1, .inl (E.2.1 0, 42000, .inl st.2.2.2.2.1)), (a2, .inl (E.2.1 0, 513, .inl st.2.2.2.2.2.1)), (a3, .inl (E.2.1 1, 513, .inl st.2.2.2.2.2.2))] := hDn
    have hS := hSn
    clear hPn hDn hSn
    refine lv_aload_n hx hb d_En_flush_53 rfl (lv_at hl 1 rfl) ?_
    refine ar_usev (wr := []) hP hD hS hA [0, 1, 2, 3, 4] [] rfl rfl rfl (by decide) (ar_runV (n := 0) (As := []) (rest := []) (ci := 2) (q0 := 0) hx hb hml hown hts hP hD hS hA hK hZ (c_En_putOut l E _ he h a1 a2 a3 ((st.1.1, st.1.2.1, x9, st.1.2.2.2.1, st.1.2.2.2.2.1, st.1.2.2.2.2.2.1, st.1.2.2.2.2.2.2), st.2)  ) m_242 m_244 ms_5 m_5 m_245 (by decide +kernel) ⟨Nat.le_of_ble_eq_true rfl, Nat.le_of_ble_eq_true rfl⟩ [0, 1, 2, 3, 4] rfl rfl rfl rfl rfl rfl rfl hl.1 rfl (Nat.le_of_ble_eq_true rfl) d_En_flush_54 ⟨Nat.le_of_ble_eq_true rfl, Nat.le_of_ble_eq_true rfl⟩) (fun u10 Hn locsn hw10 hPn hDn hSn => ?_)
    clear hP hD hS
    have hP : va_P E.1 classes [(he, .inr (2, [.ref h, .int (bI u10.1.1), .int u10.1.2.1, .int u10.1.2.2.1, .int u10.1.2.2.2.1, .int u10.1.2.2.2.2.1, .int u10.1.2.2.2.2.2.1, .int u10.1.2.2.2.2.2.2])), (h, .inr (0, [.ref a1, .ref a2, .ref a3, .int u10.2.1, .int u10.2.2.1, .int u10.2.2.2.1])), (a1, .inl (E.2.1 0, 42000, .inl u10.2.2.2.2.1)), (a2, .inl (E.2.1 0, 513, .inl u10.2.2.2.2.2.1)), (a3, .inl (E.2.1 1, 513, .inl u10.2.2.2.2.2.2))] Hn := hPn
    have hD : va_D A [(he, .inr (2, [.ref h, .int (bI u10.1.1), .int u10.1.2.1, .int u10.1.2.2.1, .int u10.1.2.2.2.1, .int u10.1.2.2.2.2.1, .int u10.1.2.2.2.2.2.1, .int u10.1.2.2.2.2.2.2])), (h, .inr (0, [.ref a1, .ref a2, .ref a3, .int u10.2.1, .int u10.2.2.1, .int u10.2.2.2.1])), (a1, .inl (E.2.1 0, 42000, .inl u10.2.2.2.2.1)), (a2, .inl (E.2.1 0, 513, .inl u10.2.2.2.2.2.1)), (a3, .inl (E.2.1 1, 513, .inl u10.2.2.2.2.2.2))] := hDn
    have hS := hSn
    clear hPn hDn hSn
    refine lv_aload_n hx hb d_En_flush_57 rfl (lv_at hl 1 rfl) ?_
    refine lv_dup hx hb d_En_flush_58 rfl ?_
    refine va_get (D := E.1) (ci := 2) (v := .int u10.1.2.2.1) (C := R_En) (T := T_En) (N := 8) hx hb hts in_En hown hK hP 0 rfl rfl 3 (by decide) (hts _ m_89) (fun _ h9 => h9) rfl d_En_flush_59 ?_
    refine lv_aload_n hx hb d_En_flush_62 rfl (lv_at hl 1 rfl) ?_
    refine va_get (D := E.1) (ci := 2) (v := .int u10.1.2.2.2.1) (C := R_En) (T := T_En) (N := 8) hx hb hts in_En hown hK hP 0 rfl rfl 4 (by decide) (hts _ m_90) (fun _ h9 => h9) rfl d_En_flush_63 ?_
    refine lv_ishl hx hb d_En_flush_66 ?_
    refine lv_topi (fun x11 ex11 => ?_)
    refine va_put (D := E.1) (ci := 2) (v := .int x11) (ty := .int) (C := R_En) (T := T_En) (N := 8) hx hb hts in_En t_En t_En_ok n_En hown hK hP hD hS 0 rfl rfl 3 (by decide) (hts _ m_89) (fun _ h9 => h9) rfl (by decide +kernel) rfl rfl (Nat.le_of_ble_eq_true rfl) d_En_flush_67 (fun Hn locsn hPn hDn hSn => ?_)
    clear hP hD hS
    have hP : va_P E.1 classes [(he, .inr (2, [.ref h, .int (bI u10.1.1), .int u10.1.2.1, .int x11, .int u10.1.2.2.2.1, .int u10.1.2.2.2.2.1, .int u10.1.2.2.2.2.2.1, .int u10.1.2.2.2.2.2.2])), (h, .inr (0, [.ref a1, .ref a2, .ref a3, .int u10.2.1, .int u10.2.2.1, .int u10.2.2.2.1])), (a1, .inl (E.2.1 0, 42000, .inl u10.2.2.2.2.1)), (a2, .inl (E.2.1 0, 513, .inl u10.2.2.2.2.2.1)), (a3, .inl (E.2.1 1, 513, .inl u10.2.2.2.2.2.2))] Hn := hPn
    have hD : va_D A [(he, .inr (2, [.ref h, .int (bI u10.1.1), .int u10.1.2.1, .int x11, .int u10.1.2.2.2.1, .int u10.1.2.2.2.2.1, .int u10.1.2.2.2.2.2.1, .int u10.1.2.2.2.2.2.2])), (h, .inr (0, [.ref a1, .ref a2, .ref a3, .int u10.2.1, .int u10.2.2.1, .int u10.2.2.2.1])), (a1, .inl (E.2.1 0, 42000, .inl u10.2.2.2.2.1)), (a2, .inl (E.2.1 0, 513, .inl u10.2.2.2.2.2.1)), (a3, .inl (E.2.1 1, 513, .inl u10.2.2.2.2.2.2))] := hDn
    have hS := hSn
    clear hPn hDn hSn
    refine lv_aload_n hx hb d_En_flush_70 rfl (lv_at hl 1 rfl) ?_
    refine ar_usev (wr := []) hP hD hS hA [0, 1, 2, 3, 4] [] rfl rfl rfl (by decide) (ar_runV (n := 0) (As := []) (rest := []) (ci := 2) (q0 := 0) hx hb hml hown hts hP hD hS hA hK hZ (c_En_putOut l E _ he h a1 a2 a3 ((u10.1.1, u10.1.2.1, x11, u10.1.2.2.2.1, u10.1.2.2.2.2.1, u10.1.2.2.2.2.2.1, u10.1.2.2.2.2.2.2), u10.2)  ) m_242 m_244 ms_5 m_5 m_245 (by decide +kernel) ⟨Nat.le_of_ble_eq_true rfl, Nat.le_of_ble_eq_true rfl⟩ [0, 1, 2, 3, 4] rfl rfl rfl rfl rfl rfl rfl hl.1 rfl (Nat.le_of_ble_eq_true rfl) d_En_flush_71 ⟨Nat.le_of_ble_eq_true rfl, Nat.le_of_ble_eq_true rfl⟩) (fun u12 Hn locsn hw12 hPn hDn hSn => ?_)
    clear hP hD hS
    have hP : va_P E.1 classes [(he, .inr (2, [.ref h, .int (bI u12.1.1), .int u12.1.2.1, .int u12.1.2.2.1, .int u12.1.2.2.2.1, .int u12.1.2.2.2.2.1, .int u12.1.2.2.2.2.2.1, .int u12.1.2.2.2.2.2.2])), (h, .inr (0, [.ref a1, .ref a2, .ref a3, .int u12.2.1, .int u12.2.2.1, .int u12.2.2.2.1])), (a1, .inl (E.2.1 0, 42000, .inl u12.2.2.2.2.1)), (a2, .inl (E.2.1 0, 513, .inl u12.2.2.2.2.2.1)), (a3, .inl (E.2.1 1, 513, .inl u12.2.2.2.2.2.2))] Hn := hPn
    have hD : va_D A [(he, .inr (2, [.ref h, .int (bI u12.1.1), .int u12.1.2.1, .int u12.1.2.2.1, .int u12.1.2.2.2.1, .int u12.1.2.2.2.2.1, .int u12.1.2.2.2.2.2.1, .int u12.1.2.2.2.2.2.2])), (h, .inr (0, [.ref a1, .ref a2, .ref a3, .int u12.2.1, .int u12.2.2.1, .int u12.2.2.2.1])), (a1, .inl (E.2.1 0, 42000, .inl u12.2.2.2.2.1)), (a2, .inl (E.2.1 0, 513, .inl u12.2.2.2.2.2.1)), (a3, .inl (E.2.1 1, 513, .inl u12.2.2.2.2.2.2))] := hDn
    have hS := hSn
    clear hPn hDn hSn
    exact ar_vret hx hb hr hlocks hK hS u12 (by subst hw12; subst ex11; subst hw10; subst ex9; subst ex8; subst ex2; subst ex1; exact Eq.symm (Eq.trans (f_En_flush_s  st) (Eq.trans (if_neg c3) rfl))) hP hD d_En_flush_74

noncomputable def f_En_putPlain (p0 : Int32) (st : (EnS) × (RoS)) : (EnS) × (RoS) :=
  let x1 := ((st.1.2.2.2.2.1 <<< (1 &&& 31)) ||| p0)
  let x2 := (st.1.2.2.2.2.2.1 + 1)
  if x2 < st.1.2.2.2.2.2.2 then
    ((st.1.1, st.1.2.1, st.1.2.2.1, st.1.2.2.2.1, x1, x2, st.1.2.2.2.2.2.2), st.2)
  else
    let u4 := f_Ro_add  x1 st.2
    if x1 = 255 then
      ((st.1.1, st.1.2.1, st.1.2.2.1, st.1.2.2.2.1, 0, 0, 7), u4)
    else
      ((st.1.1, st.1.2.1, st.1.2.2.1, st.1.2.2.2.1, 0, 0, 8), u4)
theorem f_En_putPlain_s (p0 : Int32) (st : (EnS) × (RoS)) : f_En_putPlain p0 st = ((
  let x1 := ((st.1.2.2.2.2.1 <<< (1 &&& 31)) ||| p0)
  let x2 := (st.1.2.2.2.2.2.1 + 1)
  if x2 < st.1.2.2.2.2.2.2 then
    ((st.1.1, st.1.2.1, st.1.2.2.1, st.1.2.2.2.1, x1, x2, st.1.2.2.2.2.2.2), st.2)
  else
    let u4 := f_Ro_add  x1 st.2
    if x1 = 255 then
      ((st.1.1, st.1.2.1, st.1.2.2.1, st.1.2.2.2.1, 0, 0, 7), u4)
    else
      ((st.1.1, st.1.2.1, st.1.2.2.1, st.1.2.2.2.1, 0, 0, 8), u4)
  : (EnS) × (RoS))) := rfl
set_option maxHeartbeats 4000000 in
set_option maxRecDepth 100000 in
theorem c_En_putPlain (l : Launch) (E : Ev) (A : Nat → Prop) (he h a1 a2 a3 : Nat) (st : (EnS) × (RoS)) (p0 : Int32)  :
    Kt l y_En_putPlain b_En_putPlain 2 none 1 0 0 E A [.ref he, .int p0] [(he, .inr (2, [.ref h, .int (bI st.1.1), .int st.1.2.1, .int st.1.2.2.1, .int st.1.2.2.2.1, .int st.1.2.2.2.2.1, .int st.1.2.2.2.2.2.1, .int st.1.2.2.2.2.2.2])), (h, .inr (0, [.ref a1, .ref a2, .ref a3, .int st.2.1, .int st.2.2.1, .int st.2.2.2.1])), (a1, .inl (E.2.1 0, 42000, .inl st.2.2.2.2.1)), (a2, .inl (E.2.1 0, 513, .inl st.2.2.2.2.2.1)), (a3, .inl (E.2.1 1, 513, .inl st.2.2.2.2.2.2))] (va_Qv (fun u : (EnS) × (RoS) => u = f_En_putPlain p0 st) (ar_W E A (fun u : (EnS) × (RoS) => [(he, .inr (2, [.ref h, .int (bI u.1.1), .int u.1.2.1, .int u.1.2.2.1, .int u.1.2.2.2.1, .int u.1.2.2.2.2.1, .int u.1.2.2.2.2.2.1, .int u.1.2.2.2.2.2.2])), (h, .inr (0, [.ref a1, .ref a2, .ref a3, .int u.2.1, .int u.2.2.1, .int u.2.2.2.1])), (a1, .inl (E.2.1 0, 42000, .inl u.2.2.2.2.1)), (a2, .inl (E.2.1 0, 513, .inl u.2.2.2.2.2.1)), (a3, .inl (E.2.1 1, 513, .inl u.2.2.2.2.2.2))])) A) := by
  refine Kt.of (by decide) (Nat.le_of_ble_eq_true rfl) ?_
  intro p e s m below meth c ls hx hb hml hown hts hr hlocks hex hin hA hZ hP hK hD hl
  have hS : va_S A s.heap s.heap [] := va_S.rf
  have hl : lv_has ls 2 [(0, .ref he), (1, .int p0)] := hl
  refine lv_aload_n hx hb d_En_putPlain_0 rfl (lv_at hl 0 rfl) ?_
  refine lv_aload_n hx hb d_En_putPlain_1 rfl (lv_at hl 0 rfl) ?_
  refine va_get (D := E.1) (ci := 2) (v := .int st.1.2.2.2.2.1) (C := R_En) (T := T_En) (N := 8) hx hb hts in_En hown hK hP 0 rfl rfl 5 (by decide) (hts _ m_91) (fun _ h9 => h9) rfl d_En_putPlain_2 ?_
  refine lv_iconst (v := 1) hx hb d_En_putPlain_5 (by decide) ?_
  refine lv_ishl hx hb d_En_putPlain_6 ?_
  refine lv_iload_n hx hb d_En_putPlain_7 rfl (lv_at hl 1 rfl) ?_
  refine lv_ior hx hb d_En_putPlain_8 ?_
  refine lv_topi (fun x1 ex1 => ?_)
  refine va_put (D := E.1) (ci := 2) (v := .int x1) (ty := .int) (C := R_En) (T := T_En) (N := 8) hx hb hts in_En t_En t_En_ok n_En hown hK hP hD hS 0 rfl rfl 5 (by decide) (hts _ m_91) (fun _ h9 => h9) rfl (by decide +kernel) rfl rfl (Nat.le_of_ble_eq_true rfl) d_En_putPlain_9 (fun Hn locsn hPn hDn hSn => ?_)
  clear hP hD hS
  have hP : va_P E.1 classes [(he, .inr (2, [.ref h, .int (bI st.1.1), .int st.1.2.1, .int st.1.2.2.1, .int st.1.2.2.2.1, .int x1, .int st.1.2.2.2.2.2.1, .int st.1.2.2.2.2.2.2])), (h, .inr (0, [.ref a1, .ref a2, .ref a3, .int st.2.1, .int st.2.2.1, .int st.2.2.2.1])), (a1, .inl (E.2.1 0, 42000, .inl st.2.2.2.2.1)), (a2, .inl (E.2.1 0, 513, .inl st.2.2.2.2.2.1)), (a3, .inl (E.2.1 1, 513, .inl st.2.2.2.2.2.2))] Hn := hPn
  have hD : va_D A [(he, .inr (2, [.ref h, .int (bI st.1.1), .int st.1.2.1, .int st.1.2.2.1, .int st.1.2.2.2.1, .int x1, .int st.1.2.2.2.2.2.1, .int st.1.2.2.2.2.2.2])), (h, .inr (0, [.ref a1, .ref a2, .ref a3, .int st.2.1, .int st.2.2.1, .int st.2.2.2.1])), (a1, .inl (E.2.1 0, 42000, .inl st.2.2.2.2.1)), (a2, .inl (E.2.1 0, 513, .inl st.2.2.2.2.2.1)), (a3, .inl (E.2.1 1, 513, .inl st.2.2.2.2.2.2))] := hDn
  have hS := hSn
  clear hPn hDn hSn
  refine lv_aload_n hx hb d_En_putPlain_12 rfl (lv_at hl 0 rfl) ?_
  refine lv_dup hx hb d_En_putPlain_13 rfl ?_
  refine va_get (D := E.1) (ci := 2) (v := .int st.1.2.2.2.2.2.1) (C := R_En) (T := T_En) (N := 8) hx hb hts in_En hown hK hP 0 rfl rfl 6 (by decide) (hts _ m_92) (fun _ h9 => h9) rfl d_En_putPlain_14 ?_
  refine lv_iconst (v := 1) hx hb d_En_putPlain_17 (by decide) ?_
  refine lv_iadd hx hb d_En_putPlain_18 ?_
  refine lv_topi (fun x2 ex2 => ?_)
  refine va_put (D := E.1) (ci := 2) (v := .int x2) (ty := .int) (C := R_En) (T := T_En) (N := 8) hx hb hts in_En t_En t_En_ok n_En hown hK hP hD hS 0 rfl rfl 6 (by decide) (hts _ m_92) (fun _ h9 => h9) rfl (by decide +kernel) rfl rfl (Nat.le_of_ble_eq_true rfl) d_En_putPlain_19 (fun Hn locsn hPn hDn hSn => ?_)
  clear hP hD hS
  have hP : va_P E.1 classes [(he, .inr (2, [.ref h, .int (bI st.1.1), .int st.1.2.1, .int st.1.2.2.1, .int st.1.2.2.2.1, .int x1, .int x2, .int st.1.2.2.2.2.2.2])), (h, .inr (0, [.ref a1, .ref a2, .ref a3, .int st.2.1, .int st.2.2.1, .int st.2.2.2.1])), (a1, .inl (E.2.1 0, 42000, .inl st.2.2.2.2.1)), (a2, .inl (E.2.1 0, 513, .inl st.2.2.2.2.2.1)), (a3, .inl (E.2.1 1, 513, .inl st.2.2.2.2.2.2))] Hn := hPn
  have hD : va_D A [(he, .inr (2, [.ref h, .int (bI st.1.1), .int st.1.2.1, .int st.1.2.2.1, .int st.1.2.2.2.1, .int x1, .int x2, .int st.1.2.2.2.2.2.2])), (h, .inr (0, [.ref a1, .ref a2, .ref a3, .int st.2.1, .int st.2.2.1, .int st.2.2.2.1])), (a1, .inl (E.2.1 0, 42000, .inl st.2.2.2.2.1)), (a2, .inl (E.2.1 0, 513, .inl st.2.2.2.2.2.1)), (a3, .inl (E.2.1 1, 513, .inl st.2.2.2.2.2.2))] := hDn
  have hS := hSn
  clear hPn hDn hSn
  refine lv_aload_n hx hb d_En_putPlain_22 rfl (lv_at hl 0 rfl) ?_
  refine va_get (D := E.1) (ci := 2) (v := .int x2) (C := R_En) (T := T_En) (N := 8) hx hb hts in_En hown hK hP 0 rfl rfl 6 (by decide) (hts _ m_92) (fun _ h9 => h9) rfl d_En_putPlain_23 ?_
  refine lv_aload_n hx hb d_En_putPlain_26 rfl (lv_at hl 0 rfl) ?_
  refine va_get (D := E.1) (ci := 2) (v := .int st.1.2.2.2.2.2.2) (C := R_En) (T := T_En) (N := 8) hx hb hts in_En hown hK hP 0 rfl rfl 7 (by decide) (hts _ m_93) (fun _ h9 => h9) rfl d_En_putPlain_27 ?_
  refine lv_icmp_lt (tgt := 75) hx hb d_En_putPlain_30 (by decide) (fun c3 => ?_) (fun c3 => ?_)
  · skip
    exact ar_vret hx hb hr hlocks hK hS ((st.1.1, st.1.2.1, st.1.2.2.1, st.1.2.2.2.1, x1, x2, st.1.2.2.2.2.2.2), st.2) (by subst ex2; subst ex1; exact Eq.symm (Eq.trans (f_En_putPlain_s p0 st) (Eq.trans (if_pos c3) rfl))) hP hD d_En_putPlain_75
  · skip
    refine lv_aload_n hx hb d_En_putPlain_33 rfl (lv_at hl 0 rfl) ?_
    refine va_get (D := E.1) (ci := 2) (v := .ref h) (C := R_En) (T := T_En) (N := 8) hx hb hts in_En hown hK hP 0 rfl rfl 0 (by decide) (hts _ m_86) (fun _ h9 => h9) rfl d_En_putPlain_34 ?_
    refine lv_aload_n hx hb d_En_putPlain_37 rfl (lv_at hl 0 rfl) ?_
    refine va_get (D := E.1) (ci := 2) (v := .int x1) (C := R_En) (T := T_En) (N := 8) hx hb hts in_En hown hK hP 0 rfl rfl 5 (by decide) (hts _ m_91) (fun _ h9 => h9) rfl d_En_putPlain_38 ?_
    refine ar_usev (wr := [(he, .inr (2, [.ref h, .int (bI st.1.1), .int st.1.2.1, .int st.1.2.2.1, .int st.1.2.2.2.1, .int x1, .int x2, .int st.1.2.2.2.2.2.2]))]) hP hD hS hA [1, 2, 3, 4] [0] rfl rfl rfl (by decide) (ar_runV (n := 1) (As := [.int x1]) (rest := []) (ci := 0) (q0 := 0) hx hb hml hown hts hP hD hS hA hK hZ (c_Ro_add l E _ h a1 a2 a3 st.2 x1 ) m_233 m_234 m_235 m_4 m_236 (by decide +kernel) ⟨Nat.le_of_ble_eq_true rfl, Nat.le_of_ble_eq_true rfl⟩ [1, 2, 3, 4] rfl rfl rfl rfl rfl rfl rfl hl.1 rfl (Nat.le_of_ble_eq_true rfl) d_En_putPlain_41 ⟨Nat.le_of_ble_eq_true rfl, Nat.le_of_ble_eq_true rfl⟩) (fun u4 Hn locsn hw4 hPn hDn hSn => ?_)
    clear hP hD hS
    have hP : va_P E.1 classes [(he, .inr (2, [.ref h, .int (bI st.1.1), .int st.1.2.1, .int st.1.2.2.1, .int st.1.2.2.2.1, .int x1, .int x2, .int st.1.2.2.2.2.2.2])), (h, .inr (0, [.ref a1, .ref a2, .ref a3, .int u4.1, .int u4.2.1, .int u4.2.2.1])), (a1, .inl (E.2.1 0, 42000, .inl u4.2.2.2.1)), (a2, .inl (E.2.1 0, 513, .inl u4.2.2.2.2.1)), (a3, .inl (E.2.1 1, 513, .inl u4.2.2.2.2.2))] Hn := hPn
    have hD : va_D A [(he, .inr (2, [.ref h, .int (bI st.1.1), .int st.1.2.1, .int st.1.2.2.1, .int st.1.2.2.2.1, .int x1, .int x2, .int st.1.2.2.2.2.2.2])), (h, .inr (0, [.ref a1, .ref a2, .ref a3, .int u4.1, .int u4.2.1, .int u4.2.2.1])), (a1, .inl (E.2.1 0, 42000, .inl u4.2.2.2.1)), (a2, .inl (E.2.1 0, 513, .inl u4.2.2.2.2.1)), (a3, .inl (E.2.1 1, 513, .inl u4.2.2.2.2.2))] := hDn
    have hS := hSn
    clear hPn hDn hSn
    refine lv_aload_n hx hb d_En_putPlain_44 rfl (lv_at hl 0 rfl) ?_
    refine lv_aload_n hx hb d_En_putPlain_45 rfl (lv_at hl 0 rfl) ?_
    refine va_get (D := E.1) (ci := 2) (v := .int x1) (C := R_En) (T := T_En) (N := 8) hx hb hts in_En hown hK hP 0 rfl rfl 5 (by decide) (hts _ m_91) (fun _ h9 => h9) rfl d_En_putPlain_46 ?_
    refine lv_sipush (v := 255) hx hb d_En_putPlain_49 (by decide) ?_
    refine lv_icmp_ne (tgt := 60) hx hb d_En_putPlain_52 (by decide) (fun c5 => ?_) (fun c5 => ?_)
    · skip
      refine lv_bipush (v := 8) hx hb d_En_putPlain_60 (by decide) ?_
      refine va_put (D := E.1) (ci := 2) (v := .int 8) (ty := .int) (C := R_En) (T := T_En) (N := 8) hx hb hts in_En t_En t_En_ok n_En hown hK hP hD hS 0 rfl rfl 7 (by decide) (hts _ m_93) (fun _ h9 => h9) rfl (by decide +kernel) rfl rfl (Nat.le_of_ble_eq_true rfl) d_En_putPlain_62 (fun Hn locsn hPn hDn hSn => ?_)
      clear hP hD hS
      have hP : va_P E.1 classes [(he, .inr (2, [.ref h, .int (bI st.1.1), .int st.1.2.1, .int st.1.2.2.1, .int st.1.2.2.2.1, .int x1, .int x2, .int 8])), (h, .inr (0, [.ref a1, .ref a2, .ref a3, .int u4.1, .int u4.2.1, .int u4.2.2.1])), (a1, .inl (E.2.1 0, 42000, .inl u4.2.2.2.1)), (a2, .inl (E.2.1 0, 513, .inl u4.2.2.2.2.1)), (a3, .inl (E.2.1 1, 513, .inl u4.2.2.2.2.2))] Hn := hPn
      have hD : va_D A [(he, .inr (2, [.ref h, .int (bI st.1.1), .int st.1.2.1, .int st.1.2.2.1, .int st.1.2.2.2.1, .int x1, .int x2, .int 8])), (h, .inr (0, [.ref a1, .ref a2, .ref a3, .int u4.1, .int u4.2.1, .int u4.2.2.1])), (a1, .inl (E.2.1 0, 42000, .inl u4.2.2.2.1)), (a2, .inl (E.2.1 0, 513, .inl u4.2.2.2.2.1)), (a3, .inl (E.2.1 1, 513, .inl u4.2.2.2.2.2))] := hDn
      have hS := hSn
      clear hPn hDn hSn
      refine lv_aload_n hx hb d_En_putPlain_65 rfl (lv_at hl 0 rfl) ?_
      refine lv_iconst (v := 0) hx hb d_En_putPlain_66 (by decide) ?_
      refine va_put (D := E.1) (ci := 2) (v := .int 0) (ty := .int) (C := R_En) (T := T_En) (N := 8) hx hb hts in_En t_En t_En_ok n_En hown hK hP hD hS 0 rfl rfl 5 (by decide) (hts _ m_91) (fun _ h9 => h9) rfl (by decide +kernel) rfl rfl (Nat.le_of_ble_eq_true rfl) d_En_putPlain_67 (fun Hn locsn hPn hDn hSn => ?_)
      clear hP hD hS
      have hP : va_P E.1 classes [(he, .inr (2, [.ref h, .int (bI st.1.1), .int st.1.2.1, .int st.1.2.2.1, .int st.1.2.2.2.1, .int 0, .int x2, .int 8])), (h, .inr (0, [.ref a1, .ref a2, .ref a3, .int u4.1, .int u4.2.1, .int u4.2.2.1])), (a1, .inl (E.2.1 0, 42000, .inl u4.2.2.2.1)), (a2, .inl (E.2.1 0, 513, .inl u4.2.2.2.2.1)), (a3, .inl (E.2.1 1, 513, .inl u4.2.2.2.2.2))] Hn := hPn
      have hD : va_D A [(he, .inr (2, [.ref h, .int (bI st.1.1), .int st.1.2.1, .int st.1.2.2.1, .int st.1.2.2.2.1, .int 0, .int x2, .int 8])), (h, .inr (0, [.ref a1, .ref a2, .ref a3, .int u4.1, .int u4.2.1, .int u4.2.2.1])), (a1, .inl (E.2.1 0, 42000, .inl u4.2.2.2.1)), (a2, .inl (E.2.1 0, 513, .inl u4.2.2.2.2.1)), (a3, .inl (E.2.1 1, 513, .inl u4.2.2.2.2.2))] := hDn
      have hS := hSn
      clear hPn hDn hSn
      refine lv_aload_n hx hb d_En_putPlain_70 rfl (lv_at hl 0 rfl) ?_
      refine lv_iconst (v := 0) hx hb d_En_putPlain_71 (by decide) ?_
      refine va_put (D := E.1) (ci := 2) (v := .int 0) (ty := .int) (C := R_En) (T := T_En) (N := 8) hx hb hts in_En t_En t_En_ok n_En hown hK hP hD hS 0 rfl rfl 6 (by decide) (hts _ m_92) (fun _ h9 => h9) rfl (by decide +kernel) rfl rfl (Nat.le_of_ble_eq_true rfl) d_En_putPlain_72 (fun Hn locsn hPn hDn hSn => ?_)
      clear hP hD hS
      have hP : va_P E.1 classes [(he, .inr (2, [.ref h, .int (bI st.1.1), .int st.1.2.1, .int st.1.2.2.1, .int st.1.2.2.2.1, .int 0, .int 0, .int 8])), (h, .inr (0, [.ref a1, .ref a2, .ref a3, .int u4.1, .int u4.2.1, .int u4.2.2.1])), (a1, .inl (E.2.1 0, 42000, .inl u4.2.2.2.1)), (a2, .inl (E.2.1 0, 513, .inl u4.2.2.2.2.1)), (a3, .inl (E.2.1 1, 513, .inl u4.2.2.2.2.2))] Hn := hPn
      have hD : va_D A [(he, .inr (2, [.ref h, .int (bI st.1.1), .int st.1.2.1, .int st.1.2.2.1, .int st.1.2.2.2.1, .int 0, .int 0, .int 8])), (h, .inr (0, [.ref a1, .ref a2, .ref a3, .int u4.1, .int u4.2.1, .int u4.2.2.1])), (a1, .inl (E.2.1 0, 42000, .inl u4.2.2.2.1)), (a2, .inl (E.2.1 0, 513, .inl u4.2.2.2.2.1)), (a3, .inl (E.2.1 1, 513, .inl u4.2.2.2.2.2))] := hDn
      have hS := hSn
      clear hPn hDn hSn
      exact ar_vret hx hb hr hlocks hK hS ((st.1.1, st.1.2.1, st.1.2.2.1, st.1.2.2.2.1, 0, 0, 8), u4) (by subst hw4; subst ex2; subst ex1; exact Eq.symm (Eq.trans (f_En_putPlain_s p0 st) (Eq.trans (if_neg c3) (Eq.trans (if_neg c5) rfl)))) hP hD d_En_putPlain_75
    · skip
      refine lv_bipush (v := 7) hx hb d_En_putPlain_55 (by decide) ?_
      refine lv_goto (tgt := 62) hx hb d_En_putPlain_57 (by decide) ?_
      refine va_put (D := E.1) (ci := 2) (v := .int 7) (ty := .int) (C := R_En) (T := T_En) (N := 8) hx hb hts in_En t_En t_En_ok n_En hown hK hP hD hS 0 rfl rfl 7 (by decide) (hts _ m_93) (fun _ h9 => h9) rfl (by decide +kernel) rfl rfl (Nat.le_of_ble_eq_true rfl) d_En_putPlain_62 (fun Hn locsn hPn hDn hSn => ?_)
      clear hP hD hS
      have hP : va_P E.1 classes [(he, .inr (2, [.ref h, .int (bI st.1.1), .int st.1.2.1, .int st.1.2.2.1, .int st.1.2.2.2.1, .int x1, .int x2, .int 7])), (h, .inr (0, [.ref a1, .ref a2, .ref a3, .int u4.1, .int u4.2.1, .int u4.2.2.1])), (a1, .inl (E.2.1 0, 42000, .inl u4.2.2.2.1)), (a2, .inl (E.2.1 0, 513, .inl u4.2.2.2.2.1)), (a3, .inl (E.2.1 1, 513, .inl u4.2.2.2.2.2))] Hn := hPn
      have hD : va_D A [(he, .inr (2, [.ref h, .int (bI st.1.1), .int st.1.2.1, .int st.1.2.2.1, .int st.1.2.2.2.1, .int x1, .int x2, .int 7])), (h, .inr (0, [.ref a1, .ref a2, .ref a3, .int u4.1, .int u4.2.1, .int u4.2.2.1])), (a1, .inl (E.2.1 0, 42000, .inl u4.2.2.2.1)), (a2, .inl (E.2.1 0, 513, .inl u4.2.2.2.2.1)), (a3, .inl (E.2.1 1, 513, .inl u4.2.2.2.2.2))] := hDn
      have hS := hSn
      clear hPn hDn hSn
      refine lv_aload_n hx hb d_En_putPlain_65 rfl (lv_at hl 0 rfl) ?_
      refine lv_iconst (v := 0) hx hb d_En_putPlain_66 (by decide) ?_
      refine va_put (D := E.1) (ci := 2) (v := .int 0) (ty := .int) (C := R_En) (T := T_En) (N := 8) hx hb hts in_En t_En t_En_ok n_En hown hK hP hD hS 0 rfl rfl 5 (by decide) (hts _ m_91) (fun _ h9 => h9) rfl (by decide +kernel) rfl rfl (Nat.le_of_ble_eq_true rfl) d_En_putPlain_67 (fun Hn locsn hPn hDn hSn => ?_)
      clear hP hD hS
      have hP : va_P E.1 classes [(he, .inr (2, [.ref h, .int (bI st.1.1), .int st.1.2.1, .int st.1.2.2.1, .int st.1.2.2.2.1, .int 0, .int x2, .int 7])), (h, .inr (0, [.ref a1, .ref a2, .ref a3, .int u4.1, .int u4.2.1, .int u4.2.2.1])), (a1, .inl (E.2.1 0, 42000, .inl u4.2.2.2.1)), (a2, .inl (E.2.1 0, 513, .inl u4.2.2.2.2.1)), (a3, .inl (E.2.1 1, 513, .inl u4.2.2.2.2.2))] Hn := hPn
      have hD : va_D A [(he, .inr (2, [.ref h, .int (bI st.1.1), .int st.1.2.1, .int st.1.2.2.1, .int st.1.2.2.2.1, .int 0, .int x2, .int 7])), (h, .inr (0, [.ref a1, .ref a2, .ref a3, .int u4.1, .int u4.2.1, .int u4.2.2.1])), (a1, .inl (E.2.1 0, 42000, .inl u4.2.2.2.1)), (a2, .inl (E.2.1 0, 513, .inl u4.2.2.2.2.1)), (a3, .inl (E.2.1 1, 513, .inl u4.2.2.2.2.2))] := hDn
      have hS := hSn
      clear hPn hDn hSn
      refine lv_aload_n hx hb d_En_putPlain_70 rfl (lv_at hl 0 rfl) ?_
      refine lv_iconst (v := 0) hx hb d_En_putPlain_71 (by decide) ?_
      refine va_put (D := E.1) (ci := 2) (v := .int 0) (ty := .int) (C := R_En) (T := T_En) (N := 8) hx hb hts in_En t_En t_En_ok n_En hown hK hP hD hS 0 rfl rfl 6 (by decide) (hts _ m_92) (fun _ h9 => h9) rfl (by decide +kernel) rfl rfl (Nat.le_of_ble_eq_true rfl) d_En_putPlain_72 (fun Hn locsn hPn hDn hSn => ?_)
      clear hP hD hS
      have hP : va_P E.1 classes [(he, .inr (2, [.ref h, .int (bI st.1.1), .int st.1.2.1, .int st.1.2.2.1, .int st.1.2.2.2.1, .int 0, .int 0, .int 7])), (h, .inr (0, [.ref a1, .ref a2, .ref a3, .int u4.1, .int u4.2.1, .int u4.2.2.1])), (a1, .inl (E.2.1 0, 42000, .inl u4.2.2.2.1)), (a2, .inl (E.2.1 0, 513, .inl u4.2.2.2.2.1)), (a3, .inl (E.2.1 1, 513, .inl u4.2.2.2.2.2))] Hn := hPn
      have hD : va_D A [(he, .inr (2, [.ref h, .int (bI st.1.1), .int st.1.2.1, .int st.1.2.2.1, .int st.1.2.2.2.1, .int 0, .int 0, .int 7])), (h, .inr (0, [.ref a1, .ref a2, .ref a3, .int u4.1, .int u4.2.1, .int u4.2.2.1])), (a1, .inl (E.2.1 0, 42000, .inl u4.2.2.2.1)), (a2, .inl (E.2.1 0, 513, .inl u4.2.2.2.2.1)), (a3, .inl (E.2.1 1, 513, .inl u4.2.2.2.2.2))] := hDn
      have hS := hSn
      clear hPn hDn hSn
      exact ar_vret hx hb hr hlocks hK hS ((st.1.1, st.1.2.1, st.1.2.2.1, st.1.2.2.2.1, 0, 0, 7), u4) (by subst hw4; subst ex2; subst ex1; exact Eq.symm (Eq.trans (f_En_putPlain_s p0 st) (Eq.trans (if_neg c3) (Eq.trans (if_pos c5) rfl)))) hP hD d_En_putPlain_75

noncomputable def g_En_fillByte  : Nat → ((EnS) × (RoS)) → Int32 → (EnS) × (RoS)
  | 0, st, k1 => st
  | n + 1, st, k1 =>
    if 8 ≤ k1 then
      st
    else
      if st.1.2.2.2.2.2.1 ≤ 0 then
        st
      else
        let u3 := f_En_putPlain  (k1 &&& 1) st
        let x4 := k1 + 1
        g_En_fillByte  n u3 x4
theorem g_En_fillByte_s  (n : Nat) (st : (EnS) × (RoS)) (k1 : Int32) : g_En_fillByte  (n + 1) st k1 = ((
    if 8 ≤ k1 then
      st
    else
      if st.1.2.2.2.2.2.1 ≤ 0 then
        st
      else
        let u3 := f_En_putPlain  (k1 &&& 1) st
        let x4 := k1 + 1
        g_En_fillByte  n u3 x4
  : (EnS) × (RoS))) := rfl
def kl_En_fillByte  : Nat → ((EnS) × (RoS)) → Int32 → Prop
  | 0, st, k1 => False
  | n + 1, st, k1 => ((8 ≤ k1) → True) ∧ (¬ (8 ≤ k1) → ((st.1.2.2.2.2.2.1 ≤ 0) → True) ∧ (¬ (st.1.2.2.2.2.2.1 ≤ 0) → (∀ u3, u3 = f_En_putPlain  (k1 &&& 1) st → (∀ x4, x4 = k1 + 1 → kl_En_fillByte  n u3 x4))))
theorem kl_En_fillByte_s  (n : Nat) (st : (EnS) × (RoS)) (k1 : Int32) : kl_En_fillByte  (n + 1) st k1 = (((8 ≤ k1) → True) ∧ (¬ (8 ≤ k1) → ((st.1.2.2.2.2.2.1 ≤ 0) → True) ∧ (¬ (st.1.2.2.2.2.2.1 ≤ 0) → (∀ u3, u3 = f_En_putPlain  (k1 &&& 1) st → (∀ x4, x4 = k1 + 1 → kl_En_fillByte  n u3 x4))))) := rfl
set_option maxHeartbeats 4000000 in
set_option maxRecDepth 100000 in
theorem lp_En_fillByte {p : Program} {e : Env} {s : State} {m : MethodId} {below : List Frame} {meth : Method} {c : Code} (l : Launch) (E : Ev) (A : Nat → Prop) (he h a1 a2 a3 : Nat)   (hx : p.tables.exec = Jvm.exec) (hb : c.code = b_En_fillByte) (hml : c.maxLocals = 2) (hown : s.vm.findClass (y_En_fillByte).cls = some m.cls) (hts : ∀ w ∈ TT, w.before ([.ref he] : List Value).toArray s = true) (hr : meth.sig.returnType = none) (hlocks : meth.locks = false) (hA : ∀ q, s.heap.size ≤ q → A q) (hZ : ZT E A s s.heap) (hK : va_K E.1 classes (Ty E) s) :
    ∀ (n : Nat) (st : (EnS) × (RoS)) (k1 : Int32) (H : Heap) (locs : List Loc) (ls : Array Slot), kl_En_fillByte  n st k1 → va_P E.1 classes [(he, .inr (2, [.ref h, .int (bI st.1.1), .int st.1.2.1, .int st.1.2.2.1, .int st.1.2.2.2.1, .int st.1.2.2.2.2.1, .int st.1.2.2.2.2.2.1, .int st.1.2.2.2.2.2.2])), (h, .inr (0, [.ref a1, .ref a2, .ref a3, .int st.2.1, .int st.2.2.1, .int st.2.2.2.1])), (a1, .inl (E.2.1 0, 42000, .inl st.2.2.2.2.1)), (a2, .inl (E.2.1 0, 513, .inl st.2.2.2.2.2.1)), (a3, .inl (E.2.1 1, 513, .inl st.2.2.2.2.2.2))] H → va_D A [(he, .inr (2, [.ref h, .int (bI st.1.1), .int st.1.2.1, .int st.1.2.2.1, .int st.1.2.2.2.1, .int st.1.2.2.2.2.1, .int st.1.2.2.2.2.2.1, .int st.1.2.2.2.2.2.2])), (h, .inr (0, [.ref a1, .ref a2, .ref a3, .int st.2.1, .int st.2.2.1, .int st.2.2.2.1])), (a1, .inl (E.2.1 0, 42000, .inl st.2.2.2.2.1)), (a2, .inl (E.2.1 0, 513, .inl st.2.2.2.2.2.1)), (a3, .inl (E.2.1 1, 513, .inl st.2.2.2.2.2.2))] → va_S A s.heap H locs → lv_has ls 2 [(0, .ref he), (1, .int k1)] →
      W p l e (ar_rm 2 0 0) s m ([.ref he] : List Value).toArray below meth c H locs 0 0 (MQ below (va_Qv (fun u : (EnS) × (RoS) => u = g_En_fillByte  n st k1) (ar_W E A (fun u : (EnS) × (RoS) => [(he, .inr (2, [.ref h, .int (bI u.1.1), .int u.1.2.1, .int u.1.2.2.1, .int u.1.2.2.2.1, .int u.1.2.2.2.2.1, .int u.1.2.2.2.2.2.1, .int u.1.2.2.2.2.2.2])), (h, .inr (0, [.ref a1, .ref a2, .ref a3, .int u.2.1, .int u.2.2.1, .int u.2.2.2.1])), (a1, .inl (E.2.1 0, 42000, .inl u.2.2.2.2.1)), (a2, .inl (E.2.1 0, 513, .inl u.2.2.2.2.2.1)), (a3, .inl (E.2.1 1, 513, .inl u.2.2.2.2.2.2))])) A) ([.ref he] : List Value).toArray s 0 0 A) (F0 m 2 ls []) := by
  intro n
  induction n with
  | zero => intro st k1 H locs ls hok; exact hok.elim
  | succ n ih =>
    intro st k1 H locs ls hok hP hD hS hl
    rw [kl_En_fillByte_s] at hok
    refine lv_iload_n hx hb d_En_fillByte_2 rfl (lv_at hl 1 rfl) ?_
    refine lv_bipush (v := 8) hx hb d_En_fillByte_3 (by decide) ?_
    refine lv_icmp_ge (tgt := 28) hx hb d_En_fillByte_5 (by decide) (fun c1 => ?_) (fun c1 => ?_)
    · replace hok := hok.1 c1
      exact ar_vret hx hb hr hlocks hK hS st (by exact Eq.symm (Eq.trans (g_En_fillByte_s  n st k1) (Eq.trans (if_pos c1) rfl))) hP hD d_En_fillByte_28
    · replace hok := hok.2 c1
      refine lv_aload_n hx hb d_En_fillByte_8 rfl (lv_at hl 0 rfl) ?_
      refine va_get (D := E.1) (ci := 2) (v := .int st.1.2.2.2.2.2.1) (C := R_En) (T := T_En) (N := 8) hx hb hts in_En hown hK hP 0 rfl rfl 6 (by decide) (hts _ m_92) (fun _ h9 => h9) rfl d_En_fillByte_9 ?_
      refine lv_if_le (tgt := 28) hx hb d_En_fillByte_12 (by decide) (fun c2 => ?_) (fun c2 => ?_)
      · replace hok := hok.1 c2
        exact ar_vret hx hb hr hlocks hK hS st (by exact Eq.symm (Eq.trans (g_En_fillByte_s  n st k1) (Eq.trans (if_neg c1) (Eq.trans (if_pos c2) rfl)))) hP hD d_En_fillByte_28
      · replace hok := hok.2 c2
        refine lv_aload_n hx hb d_En_fillByte_15 rfl (lv_at hl 0 rfl) ?_
        refine lv_iload_n hx hb d_En_fillByte_16 rfl (lv_at hl 1 rfl) ?_
        refine lv_iconst (v := 1) hx hb d_En_fillByte_17 (by decide) ?_
        refine lv_iand hx hb d_En_fillByte_18 ?_
        refine ar_usev (wr := []) hP hD hS hA [0, 1, 2, 3, 4] [] rfl rfl rfl (by decide) (ar_runV (n := 1) (As := [.int (k1 &&& 1)]) (rest := []) (ci := 2) (q0 := 0) hx hb hml hown hts hP hD hS hA hK hZ (c_En_putPlain l E _ he h a1 a2 a3 st (k1 &&& 1) ) m_229 m_231 ms_3 m_5 m_232 (by decide +kernel) ⟨Nat.le_of_ble_eq_true rfl, Nat.le_of_ble_eq_true rfl⟩ [0, 1, 2, 3, 4] rfl rfl rfl rfl rfl rfl rfl hl.1 rfl (Nat.le_of_ble_eq_true rfl) d_En_fillByte_19 ⟨Nat.le_of_ble_eq_true rfl, Nat.le_of_ble_eq_true rfl⟩) (fun u3 Hn locsn hw3 hPn hDn hSn => ?_)
        replace hok := hok u3 hw3
        clear hP hD hS
        have hP : va_P E.1 classes [(he, .inr (2, [.ref h, .int (bI u3.1.1), .int u3.1.2.1, .int u3.1.2.2.1, .int u3.1.2.2.2.1, .int u3.1.2.2.2.2.1, .int u3.1.2.2.2.2.2.1, .int u3.1.2.2.2.2.2.2])), (h, .inr (0, [.ref a1, .ref a2, .ref a3, .int u3.2.1, .int u3.2.2.1, .int u3.2.2.2.1])), (a1, .inl (E.2.1 0, 42000, .inl u3.2.2.2.2.1)), (a2, .inl (E.2.1 0, 513, .inl u3.2.2.2.2.2.1)), (a3, .inl (E.2.1 1, 513, .inl u3.2.2.2.2.2.2))] Hn := hPn
        have hD : va_D A [(he, .inr (2, [.ref h, .int (bI u3.1.1), .int u3.1.2.1, .int u3.1.2.2.1, .int u3.1.2.2.2.1, .int u3.1.2.2.2.2.1, .int u3.1.2.2.2.2.2.1, .int u3.1.2.2.2.2.2.2])), (h, .inr (0, [.ref a1, .ref a2, .ref a3, .int u3.2.1, .int u3.2.2.1, .int u3.2.2.2.1])), (a1, .inl (E.2.1 0, 42000, .inl u3.2.2.2.2.1)), (a2, .inl (E.2.1 0, 513, .inl u3.2.2.2.2.2.1)), (a3, .inl (E.2.1 1, 513, .inl u3.2.2.2.2.2.2))] := hDn
        have hS := hSn
        clear hPn hDn hSn
        obtain ⟨x4, ex4⟩ : ∃ y : Int32, y = k1 + 1 := ⟨_, rfl⟩
        replace hok := hok x4 ex4
        refine lv_iinc (v := x4) (lv' := [(1, .int x4), (0, .ref he)]) hx hb d_En_fillByte_22 hl (k := 1) rfl (by rw [ex4]; rfl) (by decide) rfl (fun ls hl => ?_)
        refine lv_goto (tgt := 2) hx hb d_En_fillByte_25 (by decide) ?_
        have e9 : g_En_fillByte  (n + 1) st k1 = g_En_fillByte  n u3 x4 := by subst ex4; subst hw3; exact (Eq.trans (g_En_fillByte_s  n st k1) (Eq.trans (if_neg c1) (Eq.trans (if_neg c2) rfl)))
        rw [e9]
        exact ih u3 x4 _ _ _ hok hP hD hS (lv_sub hl [1, 0] rfl)
noncomputable def f_En_fillByte  (st : (EnS) × (RoS)) : (EnS) × (RoS) :=
  g_En_fillByte  (nf 9) st 0
theorem f_En_fillByte_s  (st : (EnS) × (RoS)) : f_En_fillByte  st = ((
  g_En_fillByte  (nf 9) st 0
  : (EnS) × (RoS))) := rfl
def k_En_fillByte  (st : (EnS) × (RoS)) : Prop := kl_En_fillByte  (nf 9) st 0
set_option maxHeartbeats 4000000 in
set_option maxRecDepth 100000 in
theorem c_En_fillByte (l : Launch) (E : Ev) (A : Nat → Prop) (he h a1 a2 a3 : Nat) (st : (EnS) × (RoS))   (hok : k_En_fillByte  st) :
    Kt l y_En_fillByte b_En_fillByte 2 none 2 0 0 E A [.ref he] [(he, .inr (2, [.ref h, .int (bI st.1.1), .int st.1.2.1, .int st.1.2.2.1, .int st.1.2.2.2.1, .int st.1.2.2.2.2.1, .int st.1.2.2.2.2.2.1, .int st.1.2.2.2.2.2.2])), (h, .inr (0, [.ref a1, .ref a2, .ref a3, .int st.2.1, .int st.2.2.1, .int st.2.2.2.1])), (a1, .inl (E.2.1 0, 42000, .inl st.2.2.2.2.1)), (a2, .inl (E.2.1 0, 513, .inl st.2.2.2.2.2.1)), (a3, .inl (E.2.1 1, 513, .inl st.2.2.2.2.2.2))] (va_Qv (fun u : (EnS) × (RoS) => u = f_En_fillByte  st) (ar_W E A (fun u : (EnS) × (RoS) => [(he, .inr (2, [.ref h, .int (bI u.1.1), .int u.1.2.1, .int u.1.2.2.1, .int u.1.2.2.2.1, .int u.1.2.2.2.2.1, .int u.1.2.2.2.2.2.1, .int u.1.2.2.2.2.2.2])), (h, .inr (0, [.ref a1, .ref a2, .ref a3, .int u.2.1, .int u.2.2.1, .int u.2.2.2.1])), (a1, .inl (E.2.1 0, 42000, .inl u.2.2.2.2.1)), (a2, .inl (E.2.1 0, 513, .inl u.2.2.2.2.2.1)), (a3, .inl (E.2.1 1, 513, .inl u.2.2.2.2.2.2))])) A) := by
  unfold k_En_fillByte at hok
  refine Kt.of (by decide) (Nat.le_of_ble_eq_true rfl) ?_
  intro p e s m below meth c ls hx hb hml hown hts hr hlocks hex hin hA hZ hP hK hD hl
  have hS : va_S A s.heap s.heap [] := va_S.rf
  have hl : lv_has ls 2 [(0, .ref he)] := hl
  refine lv_iconst (v := 0) hx hb d_En_fillByte_0 (by decide) ?_
  refine lv_istore_n (lv' := [(1, .int 0), (0, .ref he)]) hx hb d_En_fillByte_1 rfl hl (by decide) rfl (fun ls hl => ?_)
  have e9 : f_En_fillByte  st = g_En_fillByte  (nf 9) st 0 := by exact (Eq.trans (f_En_fillByte_s  st) rfl)
  rw [e9]
  exact lp_En_fillByte l E A he h a1 a2 a3   hx hb hml hown hts hr hlocks hA hZ hK (nf 9) st 0 _ _ _ hok hP hD hS (lv_sub hl [1, 0] rfl)

noncomputable def f_En_endSegment  (st : (EnS) × (RoS)) : (EnS) × (RoS) :=
  if bI st.1.1 = 0 then
    let u2 := f_En_flush   st
    let u3 := f_Ro_dropLastIfFull   u2.2
    (u2.1, u3)
  else
    let u5 := f_En_fillByte   st
    let u6 := f_Ro_dropLastIfFull   u5.2
    (u5.1, u6)
theorem f_En_endSegment_s  (st : (EnS) × (RoS)) : f_En_endSegment  st = ((
  if bI st.1.1 = 0 then
    let u2 := f_En_flush   st
    let u3 := f_Ro_dropLastIfFull   u2.2
    (u2.1, u3)
  else
    let u5 := f_En_fillByte   st
    let u6 := f_Ro_dropLastIfFull   u5.2
    (u5.1, u6)
  : (EnS) × (RoS))) := rfl
def k_En_endSegment  (st : (EnS) × (RoS)) : Prop := ((bI st.1.1 = 0) → (∀ u2, u2 = f_En_flush   st → (∀ u3, u3 = f_Ro_dropLastIfFull   u2.2 → True))) ∧ (¬ (bI st.1.1 = 0) → (k_En_fillByte   st) ∧ ((∀ u5, u5 = f_En_fillByte   st → (∀ u6, u6 = f_Ro_dropLastIfFull   u5.2 → True))))
set_option maxHeartbeats 4000000 in
set_option maxRecDepth 100000 in
theorem c_En_endSegment (l : Launch) (E : Ev) (A : Nat → Prop) (he h a1 a2 a3 : Nat) (st : (EnS) × (RoS))   (hok : k_En_endSegment  st) :
    Kt l y_En_endSegment b_En_endSegment 1 none 3 0 0 E A [.ref he] [(he, .inr (2, [.ref h, .int (bI st.1.1), .int st.1.2.1, .int st.1.2.2.1, .int st.1.2.2.2.1, .int st.1.2.2.2.2.1, .int st.1.2.2.2.2.2.1, .int st.1.2.2.2.2.2.2])), (h, .inr (0, [.ref a1, .ref a2, .ref a3, .int st.2.1, .int st.2.2.1, .int st.2.2.2.1])), (a1, .inl (E.2.1 0, 42000, .inl st.2.2.2.2.1)), (a2, .inl (E.2.1 0, 513, .inl st.2.2.2.2.2.1)), (a3, .inl (E.2.1 1, 513, .inl st.2.2.2.2.2.2))] (va_Qv (fun u : (EnS) × (RoS) => u = f_En_endSegment  st) (ar_W E A (fun u : (EnS) × (RoS) => [(he, .inr (2, [.ref h, .int (bI u.1.1), .int u.1.2.1, .int u.1.2.2.1, .int u.1.2.2.2.1, .int u.1.2.2.2.2.1, .int u.1.2.2.2.2.2.1, .int u.1.2.2.2.2.2.2])), (h, .inr (0, [.ref a1, .ref a2, .ref a3, .int u.2.1, .int u.2.2.1, .int u.2.2.2.1])), (a1, .inl (E.2.1 0, 42000, .inl u.2.2.2.2.1)), (a2, .inl (E.2.1 0, 513, .inl u.2.2.2.2.2.1)), (a3, .inl (E.2.1 1, 513, .inl u.2.2.2.2.2.2))])) A) := by
  unfold k_En_endSegment at hok
  refine Kt.of (by decide) (Nat.le_of_ble_eq_true rfl) ?_
  intro p e s m below meth c ls hx hb hml hown hts hr hlocks hex hin hA hZ hP hK hD hl
  have hS : va_S A s.heap s.heap [] := va_S.rf
  have hl : lv_has ls 1 [(0, .ref he)] := hl
  refine lv_aload_n hx hb d_En_endSegment_0 rfl (lv_at hl 0 rfl) ?_
  refine va_get (D := E.1) (ci := 2) (v := .int (bI st.1.1)) (C := R_En) (T := T_En) (N := 8) hx hb hts in_En hown hK hP 0 rfl rfl 1 (by decide) (hts _ m_87) (fun _ h9 => h9) rfl d_En_endSegment_1 ?_
  refine lv_if_eq (tgt := 14) hx hb d_En_endSegment_4 (by decide) (fun c1 => ?_) (fun c1 => ?_)
  · replace hok := hok.1 c1
    refine lv_aload_n hx hb d_En_endSegment_14 rfl (lv_at hl 0 rfl) ?_
    refine ar_usev (wr := []) hP hD hS hA [0, 1, 2, 3, 4] [] rfl rfl rfl (by decide) (ar_runV (n := 0) (As := []) (rest := []) (ci := 2) (q0 := 0) hx hb hml hown hts hP hD hS hA hK hZ (c_En_flush l E _ he h a1 a2 a3 st  ) m_237 m_239 ms_4 m_5 m_240 (by decide +kernel) ⟨Nat.le_of_ble_eq_true rfl, Nat.le_of_ble_eq_true rfl⟩ [0, 1, 2, 3, 4] rfl rfl rfl rfl rfl rfl rfl hl.1 rfl (Nat.le_of_ble_eq_true rfl) d_En_endSegment_15 ⟨Nat.le_of_ble_eq_true rfl, Nat.le_of_ble_eq_true rfl⟩) (fun u2 Hn locsn hw2 hPn hDn hSn => ?_)
    replace hok := hok u2 hw2
    clear hP hD hS
    have hP : va_P E.1 classes [(he, .inr (2, [.ref h, .int (bI u2.1.1), .int u2.1.2.1, .int u2.1.2.2.1, .int u2.1.2.2.2.1, .int u2.1.2.2.2.2.1, .int u2.1.2.2.2.2.2.1, .int u2.1.2.2.2.2.2.2])), (h, .inr (0, [.ref a1, .ref a2, .ref a3, .int u2.2.1, .int u2.2.2.1, .int u2.2.2.2.1])), (a1, .inl (E.2.1 0, 42000, .inl u2.2.2.2.2.1)), (a2, .inl (E.2.1 0, 513, .inl u2.2.2.2.2.2.1)), (a3, .inl (E.2.1 1, 513, .inl u2.2.2.2.2.2.2))] Hn := hPn
    have hD : va_D A [(he, .inr (2, [.ref h, .int (bI u2.1.1), .int u2.1.2.1, .int u2.1.2.2.1, .int u2.1.2.2.2.1, .int u2.1.2.2.2.2.1, .int u2.1.2.2.2.2.2.1, .int u2.1.2.2.2.2.2.2])), (h, .inr (0, [.ref a1, .ref a2, .ref a3, .int u2.2.1, .int u2.2.2.1, .int u2.2.2.2.1])), (a1, .inl (E.2.1 0, 42000, .inl u2.2.2.2.2.1)), (a2, .inl (E.2.1 0, 513, .inl u2.2.2.2.2.2.1)), (a3, .inl (E.2.1 1, 513, .inl u2.2.2.2.2.2.2))] := hDn
    have hS := hSn
    clear hPn hDn hSn
    refine lv_aload_n hx hb d_En_endSegment_18 rfl (lv_at hl 0 rfl) ?_
    refine va_get (D := E.1) (ci := 2) (v := .ref h) (C := R_En) (T := T_En) (N := 8) hx hb hts in_En hown hK hP 0 rfl rfl 0 (by decide) (hts _ m_86) (fun _ h9 => h9) rfl d_En_endSegment_19 ?_
    refine ar_usev (wr := [(he, .inr (2, [.ref h, .int (bI u2.1.1), .int u2.1.2.1, .int u2.1.2.2.1, .int u2.1.2.2.2.1, .int u2.1.2.2.2.2.1, .int u2.1.2.2.2.2.2.1, .int u2.1.2.2.2.2.2.2]))]) hP hD hS hA [1, 2, 3, 4] [0] rfl rfl rfl (by decide) (ar_runV (n := 0) (As := []) (rest := []) (ci := 0) (q0 := 0) hx hb hml hown hts hP hD hS hA hK hZ (c_Ro_dropLastIfFull l E _ h a1 a2 a3 u2.2  ) m_258 m_259 m_260 m_4 m_261 (by decide +kernel) ⟨Nat.le_of_ble_eq_true rfl, Nat.le_of_ble_eq_true rfl⟩ [1, 2, 3, 4] rfl rfl rfl rfl rfl rfl rfl hl.1 rfl (Nat.le_of_ble_eq_true rfl) d_En_endSegment_22 ⟨Nat.le_of_ble_eq_true rfl, Nat.le_of_ble_eq_true rfl⟩) (fun u3 Hn locsn hw3 hPn hDn hSn => ?_)
    replace hok := hok u3 hw3
    clear hP hD hS
    have hP : va_P E.1 classes [(he, .inr (2, [.ref h, .int (bI u2.1.1), .int u2.1.2.1, .int u2.1.2.2.1, .int u2.1.2.2.2.1, .int u2.1.2.2.2.2.1, .int u2.1.2.2.2.2.2.1, .int u2.1.2.2.2.2.2.2])), (h, .inr (0, [.ref a1, .ref a2, .ref a3, .int u3.1, .int u3.2.1, .int u3.2.2.1])), (a1, .inl (E.2.1 0, 42000, .inl u3.2.2.2.1)), (a2, .inl (E.2.1 0, 513, .inl u3.2.2.2.2.1)), (a3, .inl (E.2.1 1, 513, .inl u3.2.2.2.2.2))] Hn := hPn
    have hD : va_D A [(he, .inr (2, [.ref h, .int (bI u2.1.1), .int u2.1.2.1, .int u2.1.2.2.1, .int u2.1.2.2.2.1, .int u2.1.2.2.2.2.1, .int u2.1.2.2.2.2.2.1, .int u2.1.2.2.2.2.2.2])), (h, .inr (0, [.ref a1, .ref a2, .ref a3, .int u3.1, .int u3.2.1, .int u3.2.2.1])), (a1, .inl (E.2.1 0, 42000, .inl u3.2.2.2.1)), (a2, .inl (E.2.1 0, 513, .inl u3.2.2.2.2.1)), (a3, .inl (E.2.1 1, 513, .inl u3.2.2.2.2.2))] := hDn
    have hS := hSn
    clear hPn hDn hSn
    exact ar_vret hx hb hr hlocks hK hS (u2.1, u3) (by subst hw3; subst hw2; exact Eq.symm (Eq.trans (f_En_endSegment_s  st) (Eq.trans (if_pos c1) rfl))) hP hD d_En_endSegment_25
  · replace hok := hok.2 c1
    refine lv_aload_n hx hb d_En_endSegment_7 rfl (lv_at hl 0 rfl) ?_
    obtain ⟨hk4, hok⟩ := hok
    refine ar_usev (wr := []) hP hD hS hA [0, 1, 2, 3, 4] [] rfl rfl rfl (by decide) (ar_runV (n := 0) (As := []) (rest := []) (ci := 2) (q0 := 0) hx hb hml hown hts hP hD hS hA hK hZ (c_En_fillByte l E _ he h a1 a2 a3 st  hk4) m_225 m_227 ms_2 m_5 m_228 (by decide +kernel) ⟨Nat.le_of_ble_eq_true rfl, Nat.le_of_ble_eq_true rfl⟩ [0, 1, 2, 3, 4] rfl rfl rfl rfl rfl rfl rfl hl.1 rfl (Nat.le_of_ble_eq_true rfl) d_En_endSegment_8 ⟨Nat.le_of_ble_eq_true rfl, Nat.le_of_ble_eq_true rfl⟩) (fun u5 Hn locsn hw5 hPn hDn hSn => ?_)
    replace hok := hok u5 hw5
    clear hP hD hS
    have hP : va_P E.1 classes [(he, .inr (2, [.ref h, .int (bI u5.1.1), .int u5.1.2.1, .int u5.1.2.2.1, .int u5.1.2.2.2.1, .int u5.1.2.2.2.2.1, .int u5.1.2.2.2.2.2.1, .int u5.1.2.2.2.2.2.2])), (h, .inr (0, [.ref a1, .ref a2, .ref a3, .int u5.2.1, .int u5.2.2.1, .int u5.2.2.2.1])), (a1, .inl (E.2.1 0, 42000, .inl u5.2.2.2.2.1)), (a2, .inl (E.2.1 0, 513, .inl u5.2.2.2.2.2.1)), (a3, .inl (E.2.1 1, 513, .inl u5.2.2.2.2.2.2))] Hn := hPn
    have hD : va_D A [(he, .inr (2, [.ref h, .int (bI u5.1.1), .int u5.1.2.1, .int u5.1.2.2.1, .int u5.1.2.2.2.1, .int u5.1.2.2.2.2.1, .int u5.1.2.2.2.2.2.1, .int u5.1.2.2.2.2.2.2])), (h, .inr (0, [.ref a1, .ref a2, .ref a3, .int u5.2.1, .int u5.2.2.1, .int u5.2.2.2.1])), (a1, .inl (E.2.1 0, 42000, .inl u5.2.2.2.2.1)), (a2, .inl (E.2.1 0, 513, .inl u5.2.2.2.2.2.1)), (a3, .inl (E.2.1 1, 513, .inl u5.2.2.2.2.2.2))] := hDn
    have hS := hSn
    clear hPn hDn hSn
    refine lv_goto (tgt := 18) hx hb d_En_endSegment_11 (by decide) ?_
    refine lv_aload_n hx hb d_En_endSegment_18 rfl (lv_at hl 0 rfl) ?_
    refine va_get (D := E.1) (ci := 2) (v := .ref h) (C := R_En) (T := T_En) (N := 8) hx hb hts in_En hown hK hP 0 rfl rfl 0 (by decide) (hts _ m_86) (fun _ h9 => h9) rfl d_En_endSegment_19 ?_
    refine ar_usev (wr := [(he, .inr (2, [.ref h, .int (bI u5.1.1), .int u5.1.2.1, .int u5.1.2.2.1, .int u5.1.2.2.2.1, .int u5.1.2.2.2.2.1, .int u5.1.2.2.2.2.2.1, .int u5.1.2.2.2.2.2.2]))]) hP hD hS hA [1, 2, 3, 4] [0] rfl rfl rfl (by decide) (ar_runV (n := 0) (As := []) (rest := []) (ci := 0) (q0 := 0) hx hb hml hown hts hP hD hS hA hK hZ (c_Ro_dropLastIfFull l E _ h a1 a2 a3 u5.2  ) m_258 m_259 m_260 m_4 m_261 (by decide +kernel) ⟨Nat.le_of_ble_eq_true rfl, Nat.le_of_ble_eq_true rfl⟩ [1, 2, 3, 4] rfl rfl rfl rfl rfl rfl rfl hl.1 rfl (Nat.le_of_ble_eq_true rfl) d_En_endSegment_22 ⟨Nat.le_of_ble_eq_true rfl, Nat.le_of_ble_eq_true rfl⟩) (fun u6 Hn locsn hw6 hPn hDn hSn => ?_)
    replace hok := hok u6 hw6
    clear hP hD hS
    have hP : va_P E.1 classes [(he, .inr (2, [.ref h, .int (bI u5.1.1), .int u5.1.2.1, .int u5.1.2.2.1, .int u5.1.2.2.2.1, .int u5.1.2.2.2.2.1, .int u5.1.2.2.2.2.2.1, .int u5.1.2.2.2.2.2.2])), (h, .inr (0, [.ref a1, .ref a2, .ref a3, .int u6.1, .int u6.2.1, .int u6.2.2.1])), (a1, .inl (E.2.1 0, 42000, .inl u6.2.2.2.1)), (a2, .inl (E.2.1 0, 513, .inl u6.2.2.2.2.1)), (a3, .inl (E.2.1 1, 513, .inl u6.2.2.2.2.2))] Hn := hPn
    have hD : va_D A [(he, .inr (2, [.ref h, .int (bI u5.1.1), .int u5.1.2.1, .int u5.1.2.2.1, .int u5.1.2.2.2.1, .int u5.1.2.2.2.2.1, .int u5.1.2.2.2.2.2.1, .int u5.1.2.2.2.2.2.2])), (h, .inr (0, [.ref a1, .ref a2, .ref a3, .int u6.1, .int u6.2.1, .int u6.2.2.1])), (a1, .inl (E.2.1 0, 42000, .inl u6.2.2.2.1)), (a2, .inl (E.2.1 0, 513, .inl u6.2.2.2.2.1)), (a3, .inl (E.2.1 1, 513, .inl u6.2.2.2.2.2))] := hDn
    have hS := hSn
    clear hPn hDn hSn
    exact ar_vret hx hb hr hlocks hK hS (u5.1, u6) (by subst hw6; subst hw5; exact Eq.symm (Eq.trans (f_En_endSegment_s  st) (Eq.trans (if_neg c1) rfl))) hP hD d_En_endSegment_25

noncomputable def f_En_turn (p0 : Bool) (st : (EnS) × (RoS)) : Bool × ((EnS) × (RoS)) :=
  if bI st.1.1 = bI p0 then
    (false, st)
  else
    let u3 := f_En_endSegment   st
    let u4 := f_Ro_beginSegment  p0 u3.2
    let u5 := f_En_begin  p0 u3.1
    (true, (u5, u4))
theorem f_En_turn_s (p0 : Bool) (st : (EnS) × (RoS)) : f_En_turn p0 st = ((
  if bI st.1.1 = bI p0 then
    (false, st)
  else
    let u3 := f_En_endSegment   st
    let u4 := f_Ro_beginSegment  p0 u3.2
    let u5 := f_En_begin  p0 u3.1
    (true, (u5, u4))
  : Bool × ((EnS) × (RoS)))) := rfl
def k_En_turn (p0 : Bool) (st : (EnS) × (RoS)) : Prop := ((bI st.1.1 = bI p0) → True) ∧ (¬ (bI st.1.1 = bI p0) → (k_En_endSegment   st) ∧ ((∀ u3, u3 = f_En_endSegment   st → (∀ u4, u4 = f_Ro_beginSegment  p0 u3.2 → (∀ u5, u5 = f_En_begin  p0 u3.1 → True)))))
set_option maxHeartbeats 4000000 in
set_option maxRecDepth 100000 in
theorem c_En_turn (l : Launch) (E : Ev) (A : Nat → Prop) (he h a1 a2 a3 : Nat) (st : (EnS) × (RoS)) (p0 : Bool)  (hok : k_En_turn p0 st) :
    Kt l y_En_turn b_En_turn 2 (some .boolean) 4 0 0 E A [.ref he, .int (bI p0)] [(he, .inr (2, [.ref h, .int (bI st.1.1), .int st.1.2.1, .int st.1.2.2.1, .int st.1.2.2.2.1, .int st.1.2.2.2.2.1, .int st.1.2.2.2.2.2.1, .int st.1.2.2.2.2.2.2])), (h, .inr (0, [.ref a1, .ref a2, .ref a3, .int st.2.1, .int st.2.2.1, .int st.2.2.2.1])), (a1, .inl (E.2.1 0, 42000, .inl st.2.2.2.2.1)), (a2, .inl (E.2.1 0, 513, .inl st.2.2.2.2.2.1)), (a3, .inl (E.2.1 1, 513, .inl st.2.2.2.2.2.2))] (va_Qi (fun (r : Int32) (u : (EnS) × (RoS)) => r = bI (f_En_turn p0 st).1 ∧ u = (f_En_turn p0 st).2) (ar_W E A (fun u : (EnS) × (RoS) => [(he, .inr (2, [.ref h, .int (bI u.1.1), .int u.1.2.1, .int u.1.2.2.1, .int u.1.2.2.2.1, .int u.1.2.2.2.2.1, .int u.1.2.2.2.2.2.1, .int u.1.2.2.2.2.2.2])), (h, .inr (0, [.ref a1, .ref a2, .ref a3, .int u.2.1, .int u.2.2.1, .int u.2.2.2.1])), (a1, .inl (E.2.1 0, 42000, .inl u.2.2.2.2.1)), (a2, .inl (E.2.1 0, 513, .inl u.2.2.2.2.2.1)), (a3, .inl (E.2.1 1, 513, .inl u.2.2.2.2.2.2))])) A) := by
  unfold k_En_turn at hok
  refine Kt.of (by decide) (Nat.le_of_ble_eq_true rfl) ?_
  intro p e s m below meth c ls hx hb hml hown hts hr hlocks hex hin hA hZ hP hK hD hl
  have hS : va_S A s.heap s.heap [] := va_S.rf
  have hl : lv_has ls 2 [(0, .ref he), (1, .int (bI p0))] := hl
  refine lv_aload_n hx hb d_En_turn_0 rfl (lv_at hl 0 rfl) ?_
  refine va_get (D := E.1) (ci := 2) (v := .int (bI st.1.1)) (C := R_En) (T := T_En) (N := 8) hx hb hts in_En hown hK hP 0 rfl rfl 1 (by decide) (hts _ m_87) (fun _ h9 => h9) rfl d_En_turn_1 ?_
  refine lv_iload_n hx hb d_En_turn_4 rfl (lv_at hl 1 rfl) ?_
  refine lv_icmp_ne (tgt := 10) hx hb d_En_turn_5 (by decide) (fun c1 => ?_) (fun c1 => ?_)
  · replace hok := hok.2 c1
    refine lv_aload_n hx hb d_En_turn_10 rfl (lv_at hl 0 rfl) ?_
    obtain ⟨hk2, hok⟩ := hok
    refine ar_usev (wr := []) hP hD hS hA [0, 1, 2, 3, 4] [] rfl rfl rfl (by decide) (ar_runV (n := 0) (As := []) (rest := []) (ci := 2) (q0 := 0) hx hb hml hown hts hP hD hS hA hK hZ (c_En_endSegment l E _ he h a1 a2 a3 st  hk2) m_221 m_222 m_223 m_5 m_224 (by decide +kernel) ⟨Nat.le_of_ble_eq_true rfl, Nat.le_of_ble_eq_true rfl⟩ [0, 1, 2, 3, 4] rfl rfl rfl rfl rfl rfl rfl hl.1 rfl (Nat.le_of_ble_eq_true rfl) d_En_turn_11 ⟨Nat.le_of_ble_eq_true rfl, Nat.le_of_ble_eq_true rfl⟩) (fun u3 Hn locsn hw3 hPn hDn hSn => ?_)
    replace hok := hok u3 hw3
    clear hP hD hS
    have hP : va_P E.1 classes [(he, .inr (2, [.ref h, .int (bI u3.1.1), .int u3.1.2.1, .int u3.1.2.2.1, .int u3.1.2.2.2.1, .int u3.1.2.2.2.2.1, .int u3.1.2.2.2.2.2.1, .int u3.1.2.2.2.2.2.2])), (h, .inr (0, [.ref a1, .ref a2, .ref a3, .int u3.2.1, .int u3.2.2.1, .int u3.2.2.2.1])), (a1, .inl (E.2.1 0, 42000, .inl u3.2.2.2.2.1)), (a2, .inl (E.2.1 0, 513, .inl u3.2.2.2.2.2.1)), (a3, .inl (E.2.1 1, 513, .inl u3.2.2.2.2.2.2))] Hn := hPn
    have hD : va_D A [(he, .inr (2, [.ref h, .int (bI u3.1.1), .int u3.1.2.1, .int u3.1.2.2.1, .int u3.1.2.2.2.1, .int u3.1.2.2.2.2.1, .int u3.1.2.2.2.2.2.1, .int u3.1.2.2.2.2.2.2])), (h, .inr (0, [.ref a1, .ref a2, .ref a3, .int u3.2.1, .int u3.2.2.1, .int u3.2.2.2.1])), (a1, .inl (E.2.1 0, 42000, .inl u3.2.2.2.2.1)), (a2, .inl (E.2.1 0, 513, .inl u3.2.2.2.2.2.1)), (a3, .inl (E.2.1 1, 513, .inl u3.2.2.2.2.2.2))] := hDn
    have hS := hSn
    clear hPn hDn hSn
    refine lv_aload_n hx hb d_En_turn_14 rfl (lv_at hl 0 rfl) ?_
    refine va_get (D := E.1) (ci := 2) (v := .ref h) (C := R_En) (T := T_En) (N := 8) hx hb hts in_En hown hK hP 0 rfl rfl 0 (by decide) (hts _ m_86) (fun _ h9 => h9) rfl d_En_turn_15 ?_
    refine lv_iload_n hx hb d_En_turn_18 rfl (lv_at hl 1 rfl) ?_
    refine ar_usev (wr := [(he, .inr (2, [.ref h, .int (bI u3.1.1), .int u3.1.2.1, .int u3.1.2.2.1, .int u3.1.2.2.2.1, .int u3.1.2.2.2.2.1, .int u3.1.2.2.2.2.2.1, .int u3.1.2.2.2.2.2.2]))]) hP hD hS hA [1, 2, 3, 4] [0] rfl rfl rfl (by decide) (ar_runV (n := 1) (As := [.int (bI p0)]) (rest := []) (ci := 0) (q0 := 0) hx hb hml hown hts hP hD hS hA hK hZ (c_Ro_beginSegment l E _ h a1 a2 a3 u3.2 p0 ) m_263 m_264 m_265 m_4 m_266 (by decide +kernel) ⟨Nat.le_of_ble_eq_true rfl, Nat.le_of_ble_eq_true rfl⟩ [1, 2, 3, 4] rfl rfl rfl rfl rfl rfl rfl hl.1 rfl (Nat.le_of_ble_eq_true rfl) d_En_turn_19 ⟨Nat.le_of_ble_eq_true rfl, Nat.le_of_ble_eq_true rfl⟩) (fun u4 Hn locsn hw4 hPn hDn hSn => ?_)
    replace hok := hok u4 hw4
    clear hP hD hS
    have hP : va_P E.1 classes [(he, .inr (2, [.ref h, .int (bI u3.1.1), .int u3.1.2.1, .int u3.1.2.2.1, .int u3.1.2.2.2.1, .int u3.1.2.2.2.2.1, .int u3.1.2.2.2.2.2.1, .int u3.1.2.2.2.2.2.2])), (h, .inr (0, [.ref a1, .ref a2, .ref a3, .int u4.1, .int u4.2.1, .int u4.2.2.1])), (a1, .inl (E.2.1 0, 42000, .inl u4.2.2.2.1)), (a2, .inl (E.2.1 0, 513, .inl u4.2.2.2.2.1)), (a3, .inl (E.2.1 1, 513, .inl u4.2.2.2.2.2))] Hn := hPn
    have hD : va_D A [(he, .inr (2, [.ref h, .int (bI u3.1.1), .int u3.1.2.1, .int u3.1.2.2.1, .int u3.1.2.2.2.1, .int u3.1.2.2.2.2.1, .int u3.1.2.2.2.2.2.1, .int u3.1.2.2.2.2.2.2])), (h, .inr (0, [.ref a1, .ref a2, .ref a3, .int u4.1, .int u4.2.1, .int u4.2.2.1])), (a1, .inl (E.2.1 0, 42000, .inl u4.2.2.2.1)), (a2, .inl (E.2.1 0, 513, .inl u4.2.2.2.2.1)), (a3, .inl (E.2.1 1, 513, .inl u4.2.2.2.2.2))] := hDn
    have hS := hSn
    clear hPn hDn hSn
    refine lv_aload_n hx hb d_En_turn_22 rfl (lv_at hl 0 rfl) ?_
    refine lv_iload_n hx hb d_En_turn_23 rfl (lv_at hl 1 rfl) ?_
    refine ar_usev (wr := [(h, .inr (0, [.ref a1, .ref a2, .ref a3, .int u4.1, .int u4.2.1, .int u4.2.2.1])), (a1, .inl (E.2.1 0, 42000, .inl u4.2.2.2.1)), (a2, .inl (E.2.1 0, 513, .inl u4.2.2.2.2.1)), (a3, .inl (E.2.1 1, 513, .inl u4.2.2.2.2.2))]) hP hD hS hA [0] [1, 2, 3, 4] rfl rfl rfl (by decide) (ar_runV (n := 1) (As := [.int (bI p0)]) (rest := []) (ci := 2) (q0 := 0) hx hb hml hown hts hP hD hS hA hK hZ (c_En_begin l E _ he h u3.1 p0 ) m_81 m_82 m_83 m_5 m_84 (by decide +kernel) ⟨Nat.le_of_ble_eq_true rfl, Nat.le_of_ble_eq_true rfl⟩ [0] rfl rfl rfl rfl rfl rfl rfl hl.1 rfl (Nat.le_of_ble_eq_true rfl) d_En_turn_24 ⟨Nat.le_of_ble_eq_true rfl, Nat.le_of_ble_eq_true rfl⟩) (fun u5 Hn locsn hw5 hPn hDn hSn => ?_)
    replace hok := hok u5 hw5
    clear hP hD hS
    have hP : va_P E.1 classes [(h, .inr (0, [.ref a1, .ref a2, .ref a3, .int u4.1, .int u4.2.1, .int u4.2.2.1])), (a1, .inl (E.2.1 0, 42000, .inl u4.2.2.2.1)), (a2, .inl (E.2.1 0, 513, .inl u4.2.2.2.2.1)), (a3, .inl (E.2.1 1, 513, .inl u4.2.2.2.2.2)), (he, .inr (2, [.ref h, .int (bI u5.1), .int u5.2.1, .int u5.2.2.1, .int u5.2.2.2.1, .int u5.2.2.2.2.1, .int u5.2.2.2.2.2.1, .int u5.2.2.2.2.2.2]))] Hn := hPn
    have hD : va_D A [(h, .inr (0, [.ref a1, .ref a2, .ref a3, .int u4.1, .int u4.2.1, .int u4.2.2.1])), (a1, .inl (E.2.1 0, 42000, .inl u4.2.2.2.1)), (a2, .inl (E.2.1 0, 513, .inl u4.2.2.2.2.1)), (a3, .inl (E.2.1 1, 513, .inl u4.2.2.2.2.2)), (he, .inr (2, [.ref h, .int (bI u5.1), .int u5.2.1, .int u5.2.2.1, .int u5.2.2.2.1, .int u5.2.2.2.2.1, .int u5.2.2.2.2.2.1, .int u5.2.2.2.2.2.2]))] := hDn
    have hS := hSn
    clear hPn hDn hSn
    refine lv_iconst (v := 1) hx hb d_En_turn_27 (by decide) ?_
    replace hP := hP.sub (ws' := [(he, .inr (2, [.ref h, .int (bI u5.1), .int u5.2.1, .int u5.2.2.1, .int u5.2.2.2.1, .int u5.2.2.2.2.1, .int u5.2.2.2.2.2.1, .int u5.2.2.2.2.2.2])), (h, .inr (0, [.ref a1, .ref a2, .ref a3, .int u4.1, .int u4.2.1, .int u4.2.2.1])), (a1, .inl (E.2.1 0, 42000, .inl u4.2.2.2.1)), (a2, .inl (E.2.1 0, 513, .inl u4.2.2.2.2.1)), (a3, .inl (E.2.1 1, 513, .inl u4.2.2.2.2.2))]) [4, 0, 1, 2, 3] rfl
    replace hD := hD.sub (ws' := [(he, .inr (2, [.ref h, .int (bI u5.1), .int u5.2.1, .int u5.2.2.1, .int u5.2.2.2.1, .int u5.2.2.2.2.1, .int u5.2.2.2.2.2.1, .int u5.2.2.2.2.2.2])), (h, .inr (0, [.ref a1, .ref a2, .ref a3, .int u4.1, .int u4.2.1, .int u4.2.2.1])), (a1, .inl (E.2.1 0, 42000, .inl u4.2.2.2.1)), (a2, .inl (E.2.1 0, 513, .inl u4.2.2.2.2.1)), (a3, .inl (E.2.1 1, 513, .inl u4.2.2.2.2.2))]) [4, 0, 1, 2, 3] (by decide) rfl
    exact ar_zret hx hb hr hlocks hK hS (u5, u4) (by subst hw5; subst hw4; subst hw3; exact zp_of (b := true) (Eq.trans (f_En_turn_s p0 st) (Eq.trans (if_neg c1) rfl)) rfl) hP hD rfl d_En_turn_28
  · replace hok := hok.1 c1
    refine lv_iconst (v := 0) hx hb d_En_turn_8 (by decide) ?_
    exact ar_zret hx hb hr hlocks hK hS st (by exact zp_of (b := false) (Eq.trans (f_En_turn_s p0 st) (Eq.trans (if_pos c1) rfl)) rfl) hP hD rfl d_En_turn_9

noncomputable def f_En_code (nc : Nat) (p1 : Int32) (p2 : Int32) (st : (EnS) × (RoS) × (Nat → Int32)) : (EnS) × (RoS) × (Nat → Int32) :=
  if p1 < 0 then
    st
  else
    if p1 < (nI nc) then
      let x3 := (st.2.2 (Int32.toNatClampNeg p1))
      let r4 := f_Ta_q  x3 
      if p2 = (x3 &&& 1) then
        let x17 := (st.1.2.1 - r4)
        if x17 < 32768 then
          if r4 ≤ x17 then
            let x20 := (st.1.2.2.1 + r4)
            let r21 := f_Ta_behindLikely  x3 
            let u24 := f_En_renew   ((st.1.1, x17, x20, st.1.2.2.2.1, st.1.2.2.2.2.1, st.1.2.2.2.2.2.1, st.1.2.2.2.2.2.2), st.2.1)
            (u24.1, u24.2, (upd st.2.2 (Int32.toNatClampNeg p1) r21))
          else
            let r25 := f_Ta_behindLikely  x3 
            let u28 := f_En_renew   ((st.1.1, r4, st.1.2.2.1, st.1.2.2.2.1, st.1.2.2.2.2.1, st.1.2.2.2.2.2.1, st.1.2.2.2.2.2.2), st.2.1)
            (u28.1, u28.2, (upd st.2.2 (Int32.toNatClampNeg p1) r25))
        else
          let x29 := (st.1.2.2.1 + r4)
          ((st.1.1, x17, x29, st.1.2.2.2.1, st.1.2.2.2.2.1, st.1.2.2.2.2.2.1, st.1.2.2.2.2.2.2), st.2.1, st.2.2)
      else
        let x6 := (st.1.2.1 - r4)
        if r4 ≤ x6 then
          let r8 := f_Ta_behindOther  x3 
          let u11 := f_En_renew   ((st.1.1, r4, st.1.2.2.1, st.1.2.2.2.1, st.1.2.2.2.2.1, st.1.2.2.2.2.2.1, st.1.2.2.2.2.2.2), st.2.1)
          (u11.1, u11.2, (upd st.2.2 (Int32.toNatClampNeg p1) r8))
        else
          let x12 := (st.1.2.2.1 + r4)
          let r13 := f_Ta_behindOther  x3 
          let u16 := f_En_renew   ((st.1.1, x6, x12, st.1.2.2.2.1, st.1.2.2.2.2.1, st.1.2.2.2.2.2.1, st.1.2.2.2.2.2.2), st.2.1)
          (u16.1, u16.2, (upd st.2.2 (Int32.toNatClampNeg p1) r13))
    else
      st
theorem f_En_code_s (nc : Nat) (p1 : Int32) (p2 : Int32) (st : (EnS) × (RoS) × (Nat → Int32)) : f_En_code nc p1 p2 st = ((
  if p1 < 0 then
    st
  else
    if p1 < (nI nc) then
      let x3 := (st.2.2 (Int32.toNatClampNeg p1))
      let r4 := f_Ta_q  x3 
      if p2 = (x3 &&& 1) then
        let x17 := (st.1.2.1 - r4)
        if x17 < 32768 then
          if r4 ≤ x17 then
            let x20 := (st.1.2.2.1 + r4)
            let r21 := f_Ta_behindLikely  x3 
            let u24 := f_En_renew   ((st.1.1, x17, x20, st.1.2.2.2.1, st.1.2.2.2.2.1, st.1.2.2.2.2.2.1, st.1.2.2.2.2.2.2), st.2.1)
            (u24.1, u24.2, (upd st.2.2 (Int32.toNatClampNeg p1) r21))
          else
            let r25 := f_Ta_behindLikely  x3 
            let u28 := f_En_renew   ((st.1.1, r4, st.1.2.2.1, st.1.2.2.2.1, st.1.2.2.2.2.1, st.1.2.2.2.2.2.1, st.1.2.2.2.2.2.2), st.2.1)
            (u28.1, u28.2, (upd st.2.2 (Int32.toNatClampNeg p1) r25))
        else
          let x29 := (st.1.2.2.1 + r4)
          ((st.1.1, x17, x29, st.1.2.2.2.1, st.1.2.2.2.2.1, st.1.2.2.2.2.2.1, st.1.2.2.2.2.2.2), st.2.1, st.2.2)
      else
        let x6 := (st.1.2.1 - r4)
        if r4 ≤ x6 then
          let r8 := f_Ta_behindOther  x3 
          let u11 := f_En_renew   ((st.1.1, r4, st.1.2.2.1, st.1.2.2.2.1, st.1.2.2.2.2.1, st.1.2.2.2.2.2.1, st.1.2.2.2.2.2.2), st.2.1)
          (u11.1, u11.2, (upd st.2.2 (Int32.toNatClampNeg p1) r8))
        else
          let x12 := (st.1.2.2.1 + r4)
          let r13 := f_Ta_behindOther  x3 
          let u16 := f_En_renew   ((st.1.1, x6, x12, st.1.2.2.2.1, st.1.2.2.2.2.1, st.1.2.2.2.2.2.1, st.1.2.2.2.2.2.2), st.2.1)
          (u16.1, u16.2, (upd st.2.2 (Int32.toNatClampNeg p1) r13))
    else
      st
  : (EnS) × (RoS) × (Nat → Int32))) := rfl
def k_En_code (nc : Nat) (p1 : Int32) (p2 : Int32) (st : (EnS) × (RoS) × (Nat → Int32)) : Prop := (nc < 2 ^ 31) ∧ (((p1 < 0) → True) ∧ (¬ (p1 < 0) → ((p1 < (nI nc)) → (∀ x3, x3 = (st.2.2 (Int32.toNatClampNeg p1)) → (∀ r4, r4 = f_Ta_q  x3  → ((p2 = (x3 &&& 1)) → (∀ x17, x17 = (st.1.2.1 - r4) → ((x17 < 32768) → ((r4 ≤ x17) → (∀ x20, x20 = (st.1.2.2.1 + r4) → (∀ r21, r21 = f_Ta_behindLikely  x3  → (k_En_renew   ((st.1.1, x17, x20, st.1.2.2.2.1, st.1.2.2.2.2.1, st.1.2.2.2.2.2.1, st.1.2.2.2.2.2.2), st.2.1)) ∧ ((∀ u24, u24 = f_En_renew   ((st.1.1, x17, x20, st.1.2.2.2.1, st.1.2.2.2.2.1, st.1.2.2.2.2.2.1, st.1.2.2.2.2.2.2), st.2.1) → True))))) ∧ (¬ (r4 ≤ x17) → (∀ r25, r25 = f_Ta_behindLikely  x3  → (k_En_renew   ((st.1.1, r4, st.1.2.2.1, st.1.2.2.2.1, st.1.2.2.2.2.1, st.1.2.2.2.2.2.1, st.1.2.2.2.2.2.2), st.2.1)) ∧ ((∀ u28, u28 = f_En_renew   ((st.1.1, r4, st.1.2.2.1, st.1.2.2.2.1, st.1.2.2.2.2.1, st.1.2.2.2.2.2.1, st.1.2.2.2.2.2.2), st.2.1) → True))))) ∧ (¬ (x17 < 32768) → (∀ x29, x29 = (st.1.2.2.1 + r4) → True)))) ∧ (¬ (p2 = (x3 &&& 1)) → (∀ x6, x6 = (st.1.2.1 - r4) → ((r4 ≤ x6) → (∀ r8, r8 = f_Ta_behindOther  x3  → (k_En_renew   ((st.1.1, r4, st.1.2.2.1, st.1.2.2.2.1, st.1.2.2.2.2.1, st.1.2.2.2.2.2.1, st.1.2.2.2.2.2.2), st.2.1)) ∧ ((∀ u11, u11 = f_En_renew   ((st.1.1, r4, st.1.2.2.1, st.1.2.2.2.1, st.1.2.2.2.2.1, st.1.2.2.2.2.2.1, st.1.2.2.2.2.2.2), st.2.1) → True)))) ∧ (¬ (r4 ≤ x6) → (∀ x12, x12 = (st.1.2.2.1 + r4) → (∀ r13, r13 = f_Ta_behindOther  x3  → (k_En_renew   ((st.1.1, x6, x12, st.1.2.2.2.1, st.1.2.2.2.2.1, st.1.2.2.2.2.2.1, st.1.2.2.2.2.2.2), st.2.1)) ∧ ((∀ u16, u16 = f_En_renew   ((st.1.1, x6, x12, st.1.2.2.2.1, st.1.2.2.2.2.1, st.1.2.2.2.2.2.1, st.1.2.2.2.2.2.2), st.2.1) → True)))))))))) ∧ (¬ (p1 < (nI nc)) → True)))
set_option maxHeartbeats 4000000 in
set_option maxRecDepth 100000 in
theorem c_En_code (l : Launch) (E : Ev) (A : Nat → Prop) (he h a1 a2 a3 ac nc : Nat) (st : (EnS) × (RoS) × (Nat → Int32)) (p1 : Int32) (p2 : Int32)  (hok : k_En_code nc p1 p2 st) :
    Kt l y_En_code b_En_code 7 none 3 0 0 E A [.ref he, .ref ac, .int p1, .int p2] [(he, .inr (2, [.ref h, .int (bI st.1.1), .int st.1.2.1, .int st.1.2.2.1, .int st.1.2.2.2.1, .int st.1.2.2.2.2.1, .int st.1.2.2.2.2.2.1, .int st.1.2.2.2.2.2.2])), (h, .inr (0, [.ref a1, .ref a2, .ref a3, .int st.2.1.1, .int st.2.1.2.1, .int st.2.1.2.2.1])), (a1, .inl (E.2.1 0, 42000, .inl st.2.1.2.2.2.1)), (a2, .inl (E.2.1 0, 513, .inl st.2.1.2.2.2.2.1)), (a3, .inl (E.2.1 1, 513, .inl st.2.1.2.2.2.2.2)), (ac, .inl (E.2.1 0, nc, .inl st.2.2))] (va_Qv (fun u : (EnS) × (RoS) × (Nat → Int32) => u = f_En_code nc p1 p2 st) (ar_W E A (fun u : (EnS) × (RoS) × (Nat → Int32) => [(he, .inr (2, [.ref h, .int (bI u.1.1), .int u.1.2.1, .int u.1.2.2.1, .int u.1.2.2.2.1, .int u.1.2.2.2.2.1, .int u.1.2.2.2.2.2.1, .int u.1.2.2.2.2.2.2])), (h, .inr (0, [.ref a1, .ref a2, .ref a3, .int u.2.1.1, .int u.2.1.2.1, .int u.2.1.2.2.1])), (a1, .inl (E.2.1 0, 42000, .inl u.2.1.2.2.2.1)), (a2, .inl (E.2.1 0, 513, .inl u.2.1.2.2.2.2.1)), (a3, .inl (E.2.1 1, 513, .inl u.2.1.2.2.2.2.2)), (ac, .inl (E.2.1 0, nc, .inl u.2.2))])) A) := by
  unfold k_En_code at hok
  refine Kt.of (by decide) (Nat.le_of_ble_eq_true rfl) ?_
  intro p e s m below meth c ls hx hb hml hown hts hr hlocks hex hin hA hZ hP hK hD hl
  have hS : va_S A s.heap s.heap [] := va_S.rf
  have hl : lv_has ls 7 [(0, .ref he), (1, .ref ac), (2, .int p1), (3, .int p2)] := hl
  obtain ⟨hnc, hok⟩ := hok
  refine lv_iload_n hx hb d_En_code_0 rfl (lv_at hl 2 rfl) ?_
  refine lv_if_lt (tgt := 10) hx hb d_En_code_1 (by decide) (fun c1 => ?_) (fun c1 => ?_)
  · replace hok := hok.1 c1
    exact ar_vret hx hb hr hlocks hK hS st (by exact Eq.symm (Eq.trans (f_En_code_s nc p1 p2 st) (Eq.trans (if_pos c1) rfl))) hP hD d_En_code_10
  · replace hok := hok.2 c1
    refine lv_iload_n hx hb d_En_code_4 rfl (lv_at hl 2 rfl) ?_
    refine lv_aload_n hx hb d_En_code_5 rfl (lv_at hl 1 rfl) ?_
    refine va_alen (D := E.1) (v := (nI nc)) hx hb hK hP 5 0 rfl rfl rfl d_En_code_6 ?_
    refine lv_icmp_lt (tgt := 11) hx hb d_En_code_7 (by decide) (fun c2 => ?_) (fun c2 => ?_)
    · replace hok := hok.1 c2
      refine lv_aload_n hx hb d_En_code_11 rfl (lv_at hl 1 rfl) ?_
      refine lv_iload_n hx hb d_En_code_12 rfl (lv_at hl 2 rfl) ?_
      refine va_iald (D := E.1) hx hb hK hP 5 0 rfl rfl (in_lt (nI_toInt hnc) (by assumption) (by assumption)) d_En_code_13 ?_
      refine lv_topi (fun x3 ex3 => ?_)
      replace hok := hok x3 ex3
      refine lv_istore (lv' := [(4, .int x3), (0, .ref he), (1, .ref ac), (2, .int p1), (3, .int p2)]) hx hb d_En_code_14 hl (by decide) rfl (fun ls hl => ?_)
      refine lv_iload hx hb d_En_code_16 (lv_at hl 0 rfl) ?_
      refine ar_usei (wr := [(he, .inr (2, [.ref h, .int (bI st.1.1), .int st.1.2.1, .int st.1.2.2.1, .int st.1.2.2.2.1, .int st.1.2.2.2.2.1, .int st.1.2.2.2.2.2.1, .int st.1.2.2.2.2.2.2])), (h, .inr (0, [.ref a1, .ref a2, .ref a3, .int st.2.1.1, .int st.2.1.2.1, .int st.2.1.2.2.1])), (a1, .inl (E.2.1 0, 42000, .inl st.2.1.2.2.2.1)), (a2, .inl (E.2.1 0, 513, .inl st.2.1.2.2.2.2.1)), (a3, .inl (E.2.1 1, 513, .inl st.2.1.2.2.2.2.2)), (ac, .inl (E.2.1 0, nc, .inl st.2.2))]) hP hD hS hA [] [0, 1, 2, 3, 4, 5] rfl rfl rfl (by decide) (ar_runS (n := 1) (As := [.int x3]) (rest := []) hx hb hml hown hts hP hD hS hA hK hZ (c_Ta_q l E _   x3 ) m_422 m_423 m_14 m_424 (by decide +kernel) ⟨Nat.le_of_ble_eq_true rfl, Nat.le_of_ble_eq_true rfl⟩ [] rfl rfl rfl rfl hl.1 rfl (Nat.le_of_ble_eq_true rfl) d_En_code_18 ⟨Nat.le_of_ble_eq_true rfl, Nat.le_of_ble_eq_true rfl⟩) (fun r4 _ Hn locsn hw4 hPn hDn hSn => ?_)
      replace hok := hok r4 hw4
      clear hP hD hS
      have hP : va_P E.1 classes [(he, .inr (2, [.ref h, .int (bI st.1.1), .int st.1.2.1, .int st.1.2.2.1, .int st.1.2.2.2.1, .int st.1.2.2.2.2.1, .int st.1.2.2.2.2.2.1, .int st.1.2.2.2.2.2.2])), (h, .inr (0, [.ref a1, .ref a2, .ref a3, .int st.2.1.1, .int st.2.1.2.1, .int st.2.1.2.2.1])), (a1, .inl (E.2.1 0, 42000, .inl st.2.1.2.2.2.1)), (a2, .inl (E.2.1 0, 513, .inl st.2.1.2.2.2.2.1)), (a3, .inl (E.2.1 1, 513, .inl st.2.1.2.2.2.2.2)), (ac, .inl (E.2.1 0, nc, .inl st.2.2))] Hn := hPn
      have hD : va_D A [(he, .inr (2, [.ref h, .int (bI st.1.1), .int st.1.2.1, .int st.1.2.2.1, .int st.1.2.2.2.1, .int st.1.2.2.2.2.1, .int st.1.2.2.2.2.2.1, .int st.1.2.2.2.2.2.2])), (h, .inr (0, [.ref a1, .ref a2, .ref a3, .int st.2.1.1, .int st.2.1.2.1, .int st.2.1.2.2.1])), (a1, .inl (E.2.1 0, 42000, .inl st.2.1.2.2.2.1)), (a2, .inl (E.2.1 0, 513, .inl st.2.1.2.2.2.2.1)), (a3, .inl (E.2.1 1, 513, .inl st.2.1.2.2.2.2.2)), (ac, .inl (E.2.1 0, nc, .inl st.2.2))] := hDn
      have hS := hSn
      clear hPn hDn hSn
      refine lv_istore (lv' := [(5, .int r4), (4, .int x3), (0, .ref he), (1, .ref ac), (2, .int p1), (3, .int p2)]) hx hb d_En_code_21 hl (by decide) rfl (fun ls hl => ?_)
      refine lv_iload_n hx hb d_En_code_23 rfl (lv_at hl 5 rfl) ?_
      refine lv_iload hx hb d_En_code_24 (lv_at hl 1 rfl) ?_
      refine lv_iconst (v := 1) hx hb d_En_code_26 (by decide) ?_
      refine lv_iand hx hb d_En_code_27 ?_
      refine lv_icmp_ne (tgt := 35) hx hb d_En_code_28 (by decide) (fun c5 => ?_) (fun c5 => ?_)
      · replace hok := hok.2 c5
        refine lv_iconst (v := 0) hx hb d_En_code_35 (by decide) ?_
        refine lv_istore (lv' := [(6, .int 0), (5, .int r4), (4, .int x3), (0, .ref he), (1, .ref ac), (2, .int p1), (3, .int p2)]) hx hb d_En_code_36 hl (by decide) rfl (fun ls hl => ?_)
        refine lv_aload_n hx hb d_En_code_38 rfl (lv_at hl 3 rfl) ?_
        refine lv_dup hx hb d_En_code_39 rfl ?_
        refine va_get (D := E.1) (ci := 2) (v := .int st.1.2.1) (C := R_En) (T := T_En) (N := 8) hx hb hts in_En hown hK hP 0 rfl rfl 2 (by decide) (hts _ m_88) (fun _ h9 => h9) rfl d_En_code_40 ?_
        refine lv_iload hx hb d_En_code_43 (lv_at hl 1 rfl) ?_
        refine lv_isub hx hb d_En_code_45 ?_
        refine lv_topi (fun x6 ex6 => ?_)
        replace hok := hok x6 ex6
        refine va_put (D := E.1) (ci := 2) (v := .int x6) (ty := .int) (C := R_En) (T := T_En) (N := 8) hx hb hts in_En t_En t_En_ok n_En hown hK hP hD hS 0 rfl rfl 2 (by decide) (hts _ m_88) (fun _ h9 => h9) rfl (by decide +kernel) rfl rfl (Nat.le_of_ble_eq_true rfl) d_En_code_46 (fun Hn locsn hPn hDn hSn => ?_)
        clear hP hD hS
        have hP : va_P E.1 classes [(he, .inr (2, [.ref h, .int (bI st.1.1), .int x6, .int st.1.2.2.1, .int st.1.2.2.2.1, .int st.1.2.2.2.2.1, .int st.1.2.2.2.2.2.1, .int st.1.2.2.2.2.2.2])), (h, .inr (0, [.ref a1, .ref a2, .ref a3, .int st.2.1.1, .int st.2.1.2.1, .int st.2.1.2.2.1])), (a1, .inl (E.2.1 0, 42000, .inl st.2.1.2.2.2.1)), (a2, .inl (E.2.1 0, 513, .inl st.2.1.2.2.2.2.1)), (a3, .inl (E.2.1 1, 513, .inl st.2.1.2.2.2.2.2)), (ac, .inl (E.2.1 0, nc, .inl st.2.2))] Hn := hPn
        have hD : va_D A [(he, .inr (2, [.ref h, .int (bI st.1.1), .int x6, .int st.1.2.2.1, .int st.1.2.2.2.1, .int st.1.2.2.2.2.1, .int st.1.2.2.2.2.2.1, .int st.1.2.2.2.2.2.2])), (h, .inr (0, [.ref a1, .ref a2, .ref a3, .int st.2.1.1, .int st.2.1.2.1, .int st.2.1.2.2.1])), (a1, .inl (E.2.1 0, 42000, .inl st.2.1.2.2.2.1)), (a2, .inl (E.2.1 0, 513, .inl st.2.1.2.2.2.2.1)), (a3, .inl (E.2.1 1, 513, .inl st.2.1.2.2.2.2.2)), (ac, .inl (E.2.1 0, nc, .inl st.2.2))] := hDn
        have hS := hSn
        clear hPn hDn hSn
        refine lv_iload hx hb d_En_code_49 (lv_at hl 0 rfl) ?_
        refine lv_if_eq (tgt := 75) hx hb d_En_code_51 (by decide) (fun cz => ?_) (fun cz => absurd cz (by decide))
        refine lv_iload hx hb d_En_code_75 (lv_at hl 0 rfl) ?_
        refine lv_aload_n hx hb d_En_code_77 rfl (lv_at hl 3 rfl) ?_
        refine va_get (D := E.1) (ci := 2) (v := .int x6) (C := R_En) (T := T_En) (N := 8) hx hb hts in_En hown hK hP 0 rfl rfl 2 (by decide) (hts _ m_88) (fun _ h9 => h9) rfl d_En_code_78 ?_
        refine lv_iload hx hb d_En_code_81 (lv_at hl 1 rfl) ?_
        refine lv_icmp_ge (tgt := 90) hx hb d_En_code_83 (by decide) (fun c7 => ?_) (fun c7 => ?_)
        · replace hok := hok.1 c7
          refine lv_iconst (v := 0) hx hb d_En_code_90 (by decide) ?_
          refine lv_icmp_ne (tgt := 103) hx hb d_En_code_91 (by decide) (fun cz => absurd cz (by decide)) (fun cz => ?_)
          refine lv_aload_n hx hb d_En_code_94 rfl (lv_at hl 3 rfl) ?_
          refine lv_iload hx hb d_En_code_95 (lv_at hl 1 rfl) ?_
          refine va_put (D := E.1) (ci := 2) (v := .int r4) (ty := .int) (C := R_En) (T := T_En) (N := 8) hx hb hts in_En t_En t_En_ok n_En hown hK hP hD hS 0 rfl rfl 2 (by decide) (hts _ m_88) (fun _ h9 => h9) rfl (by decide +kernel) rfl rfl (Nat.le_of_ble_eq_true rfl) d_En_code_97 (fun Hn locsn hPn hDn hSn => ?_)
          clear hP hD hS
          have hP : va_P E.1 classes [(he, .inr (2, [.ref h, .int (bI st.1.1), .int r4, .int st.1.2.2.1, .int st.1.2.2.2.1, .int st.1.2.2.2.2.1, .int st.1.2.2.2.2.2.1, .int st.1.2.2.2.2.2.2])), (h, .inr (0, [.ref a1, .ref a2, .ref a3, .int st.2.1.1, .int st.2.1.2.1, .int st.2.1.2.2.1])), (a1, .inl (E.2.1 0, 42000, .inl st.2.1.2.2.2.1)), (a2, .inl (E.2.1 0, 513, .inl st.2.1.2.2.2.2.1)), (a3, .inl (E.2.1 1, 513, .inl st.2.1.2.2.2.2.2)), (ac, .inl (E.2.1 0, nc, .inl st.2.2))] Hn := hPn
          have hD : va_D A [(he, .inr (2, [.ref h, .int (bI st.1.1), .int r4, .int st.1.2.2.1, .int st.1.2.2.2.1, .int st.1.2.2.2.2.1, .int st.1.2.2.2.2.2.1, .int st.1.2.2.2.2.2.2])), (h, .inr (0, [.ref a1, .ref a2, .ref a3, .int st.2.1.1, .int st.2.1.2.1, .int st.2.1.2.2.1])), (a1, .inl (E.2.1 0, 42000, .inl st.2.1.2.2.2.1)), (a2, .inl (E.2.1 0, 513, .inl st.2.1.2.2.2.2.1)), (a3, .inl (E.2.1 1, 513, .inl st.2.1.2.2.2.2.2)), (ac, .inl (E.2.1 0, nc, .inl st.2.2))] := hDn
          have hS := hSn
          clear hPn hDn hSn
          refine lv_goto (tgt := 114) hx hb d_En_code_100 (by decide) ?_
          refine lv_aload_n hx hb d_En_code_114 rfl (lv_at hl 4 rfl) ?_
          refine lv_iload_n hx hb d_En_code_115 rfl (lv_at hl 5 rfl) ?_
          refine lv_iload hx hb d_En_code_116 (lv_at hl 0 rfl) ?_
          refine lv_if_eq (tgt := 129) hx hb d_En_code_118 (by decide) (fun cz => ?_) (fun cz => absurd cz (by decide))
          refine lv_iload hx hb d_En_code_129 (lv_at hl 2 rfl) ?_
          refine ar_usei (wr := [(he, .inr (2, [.ref h, .int (bI st.1.1), .int r4, .int st.1.2.2.1, .int st.1.2.2.2.1, .int st.1.2.2.2.2.1, .int st.1.2.2.2.2.2.1, .int st.1.2.2.2.2.2.2])), (h, .inr (0, [.ref a1, .ref a2, .ref a3, .int st.2.1.1, .int st.2.1.2.1, .int st.2.1.2.2.1])), (a1, .inl (E.2.1 0, 42000, .inl st.2.1.2.2.2.1)), (a2, .inl (E.2.1 0, 513, .inl st.2.1.2.2.2.2.1)), (a3, .inl (E.2.1 1, 513, .inl st.2.1.2.2.2.2.2)), (ac, .inl (E.2.1 0, nc, .inl st.2.2))]) hP hD hS hA [] [0, 1, 2, 3, 4, 5] rfl rfl rfl (by decide) (ar_runS (n := 1) (As := [.int x3]) (rest := [.int p1, .ref ac]) hx hb hml hown hts hP hD hS hA hK hZ (c_Ta_behindOther l E _   x3 ) m_435 m_436 m_14 m_437 (by decide +kernel) ⟨Nat.le_of_ble_eq_true rfl, Nat.le_of_ble_eq_true rfl⟩ [] rfl rfl rfl rfl hl.1 rfl (Nat.le_of_ble_eq_true rfl) d_En_code_131 ⟨Nat.le_of_ble_eq_true rfl, Nat.le_of_ble_eq_true rfl⟩) (fun r8 _ Hn locsn hw8 hPn hDn hSn => ?_)
          replace hok := hok r8 hw8
          clear hP hD hS
          have hP : va_P E.1 classes [(he, .inr (2, [.ref h, .int (bI st.1.1), .int r4, .int st.1.2.2.1, .int st.1.2.2.2.1, .int st.1.2.2.2.2.1, .int st.1.2.2.2.2.2.1, .int st.1.2.2.2.2.2.2])), (h, .inr (0, [.ref a1, .ref a2, .ref a3, .int st.2.1.1, .int st.2.1.2.1, .int st.2.1.2.2.1])), (a1, .inl (E.2.1 0, 42000, .inl st.2.1.2.2.2.1)), (a2, .inl (E.2.1 0, 513, .inl st.2.1.2.2.2.2.1)), (a3, .inl (E.2.1 1, 513, .inl st.2.1.2.2.2.2.2)), (ac, .inl (E.2.1 0, nc, .inl st.2.2))] Hn := hPn
          have hD : va_D A [(he, .inr (2, [.ref h, .int (bI st.1.1), .int r4, .int st.1.2.2.1, .int st.1.2.2.2.1, .int st.1.2.2.2.2.1, .int st.1.2.2.2.2.2.1, .int st.1.2.2.2.2.2.2])), (h, .inr (0, [.ref a1, .ref a2, .ref a3, .int st.2.1.1, .int st.2.1.2.1, .int st.2.1.2.2.1])), (a1, .inl (E.2.1 0, 42000, .inl st.2.1.2.2.2.1)), (a2, .inl (E.2.1 0, 513, .inl st.2.1.2.2.2.2.1)), (a3, .inl (E.2.1 1, 513, .inl st.2.1.2.2.2.2.2)), (ac, .inl (E.2.1 0, nc, .inl st.2.2))] := hDn
          have hS := hSn
          clear hPn hDn hSn
          refine va_iast (D := E.1) (x := r8) hx hb hK hP hD hS 5 0 rfl rfl (in_lt (nI_toInt hnc) (by assumption) (by assumption)) d_En_code_134 (fun Hn locsn hPn hDn hSn => ?_)
          clear hP hD hS
          have hP : va_P E.1 classes [(he, .inr (2, [.ref h, .int (bI st.1.1), .int r4, .int st.1.2.2.1, .int st.1.2.2.2.1, .int st.1.2.2.2.2.1, .int st.1.2.2.2.2.2.1, .int st.1.2.2.2.2.2.2])), (h, .inr (0, [.ref a1, .ref a2, .ref a3, .int st.2.1.1, .int st.2.1.2.1, .int st.2.1.2.2.1])), (a1, .inl (E.2.1 0, 42000, .inl st.2.1.2.2.2.1)), (a2, .inl (E.2.1 0, 513, .inl st.2.1.2.2.2.2.1)), (a3, .inl (E.2.1 1, 513, .inl st.2.1.2.2.2.2.2)), (ac, .inl (E.2.1 0, nc, .inl (upd st.2.2 (Int32.toNatClampNeg p1) r8)))] Hn := hPn
          have hD : va_D A [(he, .inr (2, [.ref h, .int (bI st.1.1), .int r4, .int st.1.2.2.1, .int st.1.2.2.2.1, .int st.1.2.2.2.2.1, .int st.1.2.2.2.2.2.1, .int st.1.2.2.2.2.2.2])), (h, .inr (0, [.ref a1, .ref a2, .ref a3, .int st.2.1.1, .int st.2.1.2.1, .int st.2.1.2.2.1])), (a1, .inl (E.2.1 0, 42000, .inl st.2.1.2.2.2.1)), (a2, .inl (E.2.1 0, 513, .inl st.2.1.2.2.2.2.1)), (a3, .inl (E.2.1 1, 513, .inl st.2.1.2.2.2.2.2)), (ac, .inl (E.2.1 0, nc, .inl (upd st.2.2 (Int32.toNatClampNeg p1) r8)))] := hDn
          have hS := hSn
          clear hPn hDn hSn
          refine lv_aload_n hx hb d_En_code_135 rfl (lv_at hl 3 rfl) ?_
          obtain ⟨hk10, hok⟩ := hok
          refine ar_usev (wr := [(ac, .inl (E.2.1 0, nc, .inl (upd st.2.2 (Int32.toNatClampNeg p1) r8)))]) hP hD hS hA [0, 1, 2, 3, 4] [5] rfl rfl rfl (by decide) (ar_runV (n := 0) (As := []) (rest := []) (ci := 2) (q0 := 0) hx hb hml hown hts hP hD hS hA hK hZ (c_En_renew l E _ he h a1 a2 a3 ((st.1.1, r4, st.1.2.2.1, st.1.2.2.2.1, st.1.2.2.2.2.1, st.1.2.2.2.2.2.1, st.1.2.2.2.2.2.2), st.2.1)  hk10) m_440 m_442 ms_10 m_5 m_443 (by decide +kernel) ⟨Nat.le_of_ble_eq_true rfl, Nat.le_of_ble_eq_true rfl⟩ [0, 1, 2, 3, 4] rfl rfl rfl rfl rfl rfl rfl hl.1 rfl (Nat.le_of_ble_eq_true rfl) d_En_code_136 ⟨Nat.le_of_ble_eq_true rfl, Nat.le_of_ble_eq_true rfl⟩) (fun u11 Hn locsn hw11 hPn hDn hSn => ?_)
          replace hok := hok u11 hw11
          clear hP hD hS
          have hP : va_P E.1 classes [(ac, .inl (E.2.1 0, nc, .inl (upd st.2.2 (Int32.toNatClampNeg p1) r8))), (he, .inr (2, [.ref h, .int (bI u11.1.1), .int u11.1.2.1, .int u11.1.2.2.1, .int u11.1.2.2.2.1, .int u11.1.2.2.2.2.1, .int u11.1.2.2.2.2.2.1, .int u11.1.2.2.2.2.2.2])), (h, .inr (0, [.ref a1, .ref a2, .ref a3, .int u11.2.1, .int u11.2.2.1, .int u11.2.2.2.1])), (a1, .inl (E.2.1 0, 42000, .inl u11.2.2.2.2.1)), (a2, .inl (E.2.1 0, 513, .inl u11.2.2.2.2.2.1)), (a3, .inl (E.2.1 1, 513, .inl u11.2.2.2.2.2.2))] Hn := hPn
          have hD : va_D A [(ac, .inl (E.2.1 0, nc, .inl (upd st.2.2 (Int32.toNatClampNeg p1) r8))), (he, .inr (2, [.ref h, .int (bI u11.1.1), .int u11.1.2.1, .int u11.1.2.2.1, .int u11.1.2.2.2.1, .int u11.1.2.2.2.2.1, .int u11.1.2.2.2.2.2.1, .int u11.1.2.2.2.2.2.2])), (h, .inr (0, [.ref a1, .ref a2, .ref a3, .int u11.2.1, .int u11.2.2.1, .int u11.2.2.2.1])), (a1, .inl (E.2.1 0, 42000, .inl u11.2.2.2.2.1)), (a2, .inl (E.2.1 0, 513, .inl u11.2.2.2.2.2.1)), (a3, .inl (E.2.1 1, 513, .inl u11.2.2.2.2.2.2))] := hDn
          have hS := hSn
          clear hPn hDn hSn
          replace hP := hP.sub (ws' := [(he, .inr (2, [.ref h, .int (bI u11.1.1), .int u11.1.2.1, .int u11.1.2.2.1, .int u11.1.2.2.2.1, .int u11.1.2.2.2.2.1, .int u11.1.2.2.2.2.2.1, .int u11.1.2.2.2.2.2.2])), (h, .inr (0, [.ref a1, .ref a2, .ref a3, .int u11.2.1, .int u11.2.2.1, .int u11.2.2.2.1])), (a1, .inl (E.2.1 0, 42000, .inl u11.2.2.2.2.1)), (a2, .inl (E.2.1 0, 513, .inl u11.2.2.2.2.2.1)), (a3, .inl (E.2.1 1, 513, .inl u11.2.2.2.2.2.2)), (ac, .inl (E.2.1 0, nc, .inl (upd st.2.2 (Int32.toNatClampNeg p1) r8)))]) [1, 2, 3, 4, 5, 0] rfl
          replace hD := hD.sub (ws' := [(he, .inr (2, [.ref h, .int (bI u11.1.1), .int u11.1.2.1, .int u11.1.2.2.1, .int u11.1.2.2.2.1, .int u11.1.2.2.2.2.1, .int u11.1.2.2.2.2.2.1, .int u11.1.2.2.2.2.2.2])), (h, .inr (0, [.ref a1, .ref a2, .ref a3, .int u11.2.1, .int u11.2.2.1, .int u11.2.2.2.1])), (a1, .inl (E.2.1 0, 42000, .inl u11.2.2.2.2.1)), (a2, .inl (E.2.1 0, 513, .inl u11.2.2.2.2.2.1)), (a3, .inl (E.2.1 1, 513, .inl u11.2.2.2.2.2.2)), (ac, .inl (E.2.1 0, nc, .inl (upd st.2.2 (Int32.toNatClampNeg p1) r8)))]) [1, 2, 3, 4, 5, 0] (by decide) rfl
          exact ar_vret hx hb hr hlocks hK hS (u11.1, u11.2, (upd st.2.2 (Int32.toNatClampNeg p1) r8)) (by subst hw11; subst hw8; subst ex6; subst hw4; subst ex3; exact Eq.symm (Eq.trans (f_En_code_s nc p1 p2 st) (Eq.trans (if_neg c1) (Eq.trans (if_pos c2) (Eq.trans (if_neg c5) (Eq.trans (if_pos c7) rfl)))))) hP hD d_En_code_139
        · replace hok := hok.2 c7
          refine lv_iconst (v := 1) hx hb d_En_code_86 (by decide) ?_
          refine lv_goto (tgt := 91) hx hb d_En_code_87 (by decide) ?_
          refine lv_icmp_ne (tgt := 103) hx hb d_En_code_91 (by decide) (fun cz => ?_) (fun cz => absurd cz (by decide))
          refine lv_aload_n hx hb d_En_code_103 rfl (lv_at hl 3 rfl) ?_
          refine lv_dup hx hb d_En_code_104 rfl ?_
          refine va_get (D := E.1) (ci := 2) (v := .int st.1.2.2.1) (C := R_En) (T := T_En) (N := 8) hx hb hts in_En hown hK hP 0 rfl rfl 3 (by decide) (hts _ m_89) (fun _ h9 => h9) rfl d_En_code_105 ?_
          refine lv_iload hx hb d_En_code_108 (lv_at hl 1 rfl) ?_
          refine lv_iadd hx hb d_En_code_110 ?_
          refine lv_topi (fun x12 ex12 => ?_)
          replace hok := hok x12 ex12
          refine va_put (D := E.1) (ci := 2) (v := .int x12) (ty := .int) (C := R_En) (T := T_En) (N := 8) hx hb hts in_En t_En t_En_ok n_En hown hK hP hD hS 0 rfl rfl 3 (by decide) (hts _ m_89) (fun _ h9 => h9) rfl (by decide +kernel) rfl rfl (Nat.le_of_ble_eq_true rfl) d_En_code_111 (fun Hn locsn hPn hDn hSn => ?_)
          clear hP hD hS
          have hP : va_P E.1 classes [(he, .inr (2, [.ref h, .int (bI st.1.1), .int x6, .int x12, .int st.1.2.2.2.1, .int st.1.2.2.2.2.1, .int st.1.2.2.2.2.2.1, .int st.1.2.2.2.2.2.2])), (h, .inr (0, [.ref a1, .ref a2, .ref a3, .int st.2.1.1, .int st.2.1.2.1, .int st.2.1.2.2.1])), (a1, .inl (E.2.1 0, 42000, .inl st.2.1.2.2.2.1)), (a2, .inl (E.2.1 0, 513, .inl st.2.1.2.2.2.2.1)), (a3, .inl (E.2.1 1, 513, .inl st.2.1.2.2.2.2.2)), (ac, .inl (E.2.1 0, nc, .inl st.2.2))] Hn := hPn
          have hD : va_D A [(he, .inr (2, [.ref h, .int (bI st.1.1), .int x6, .int x12, .int st.1.2.2.2.1, .int st.1.2.2.2.2.1, .int st.1.2.2.2.2.2.1, .int st.1.2.2.2.2.2.2])), (h, .inr (0, [.ref a1, .ref a2, .ref a3, .int st.2.1.1, .int st.2.1.2.1, .int st.2.1.2.2.1])), (a1, .inl (E.2.1 0, 42000, .inl st.2.1.2.2.2.1)), (a2, .inl (E.2.1 0, 513, .inl st.2.1.2.2.2.2.1)), (a3, .inl (E.2.1 1, 513, .inl st.2.1.2.2.2.2.2)), (ac, .inl (E.2.1 0, nc, .inl st.2.2))] := hDn
          have hS := hSn
          clear hPn hDn hSn
          refine lv_aload_n hx hb d_En_code_114 rfl (lv_at hl 4 rfl) ?_
          refine lv_iload_n hx hb d_En_code_115 rfl (lv_at hl 5 rfl) ?_
          refine lv_iload hx hb d_En_code_116 (lv_at hl 0 rfl) ?_
          refine lv_if_eq (tgt := 129) hx hb d_En_code_118 (by decide) (fun cz => ?_) (fun cz => absurd cz (by decide))
          refine lv_iload hx hb d_En_code_129 (lv_at hl 2 rfl) ?_
          refine ar_usei (wr := [(he, .inr (2, [.ref h, .int (bI st.1.1), .int x6, .int x12, .int st.1.2.2.2.1, .int st.1.2.2.2.2.1, .int st.1.2.2.2.2.2.1, .int st.1.2.2.2.2.2.2])), (h, .inr (0, [.ref a1, .ref a2, .ref a3, .int st.2.1.1, .int st.2.1.2.1, .int st.2.1.2.2.1])), (a1, .inl (E.2.1 0, 42000, .inl st.2.1.2.2.2.1)), (a2, .inl (E.2.1 0, 513, .inl st.2.1.2.2.2.2.1)), (a3, .inl (E.2.1 1, 513, .inl st.2.1.2.2.2.2.2)), (ac, .inl (E.2.1 0, nc, .inl st.2.2))]) hP hD hS hA [] [0, 1, 2, 3, 4, 5] rfl rfl rfl (by decide) (ar_runS (n := 1) (As := [.int x3]) (rest := [.int p1, .ref ac]) hx hb hml hown hts hP hD hS hA hK hZ (c_Ta_behindOther l E _   x3 ) m_435 m_436 m_14 m_437 (by decide +kernel) ⟨Nat.le_of_ble_eq_true rfl, Nat.le_of_ble_eq_true rfl⟩ [] rfl rfl rfl rfl hl.1 rfl (Nat.le_of_ble_eq_true rfl) d_En_code_131 ⟨Nat.le_of_ble_eq_true rfl, Nat.le_of_ble_eq_true rfl⟩) (fun r13 _ Hn locsn hw13 hPn hDn hSn => ?_)
          replace hok := hok r13 hw13
          clear hP hD hS
          have hP : va_P E.1 classes [(he, .inr (2, [.ref h, .int (bI st.1.1), .int x6, .int x12, .int st.1.2.2.2.1, .int st.1.2.2.2.2.1, .int st.1.2.2.2.2.2.1, .int st.1.2.2.2.2.2.2])), (h, .inr (0, [.ref a1, .ref a2, .ref a3, .int st.2.1.1, .int st.2.1.2.1, .int st.2.1.2.2.1])), (a1, .inl (E.2.1 0, 42000, .inl st.2.1.2.2.2.1)), (a2, .inl (E.2.1 0, 513, .inl st.2.1.2.2.2.2.1)), (a3, .inl (E.2.1 1, 513, .inl st.2.1.2.2.2.2.2)), (ac, .inl (E.2.1 0, nc, .inl st.2.2))] Hn := hPn
          have hD : va_D A [(he, .inr (2, [.ref h, .int (bI st.1.1), .int x6, .int x12, .int st.1.2.2.2.1, .int st.1.2.2.2.2.1, .int st.1.2.2.2.2.2.1, .int st.1.2.2.2.2.2.2])), (h, .inr (0, [.ref a1, .ref a2, .ref a3, .int st.2.1.1, .int st.2.1.2.1, .int st.2.1.2.2.1])), (a1, .inl (E.2.1 0, 42000, .inl st.2.1.2.2.2.1)), (a2, .inl (E.2.1 0, 513, .inl st.2.1.2.2.2.2.1)), (a3, .inl (E.2.1 1, 513, .inl st.2.1.2.2.2.2.2)), (ac, .inl (E.2.1 0, nc, .inl st.2.2))] := hDn
          have hS := hSn
          clear hPn hDn hSn
          refine va_iast (D := E.1) (x := r13) hx hb hK hP hD hS 5 0 rfl rfl (in_lt (nI_toInt hnc) (by assumption) (by assumption)) d_En_code_134 (fun Hn locsn hPn hDn hSn => ?_)
          clear hP hD hS
          have hP : va_P E.1 classes [(he, .inr (2, [.ref h, .int (bI st.1.1), .int x6, .int x12, .int st.1.2.2.2.1, .int st.1.2.2.2.2.1, .int st.1.2.2.2.2.2.1, .int st.1.2.2.2.2.2.2])), (h, .inr (0, [.ref a1, .ref a2, .ref a3, .int st.2.1.1, .int st.2.1.2.1, .int st.2.1.2.2.1])), (a1, .inl (E.2.1 0, 42000, .inl st.2.1.2.2.2.1)), (a2, .inl (E.2.1 0, 513, .inl st.2.1.2.2.2.2.1)), (a3, .inl (E.2.1 1, 513, .inl st.2.1.2.2.2.2.2)), (ac, .inl (E.2.1 0, nc, .inl (upd st.2.2 (Int32.toNatClampNeg p1) r13)))] Hn := hPn
          have hD : va_D A [(he, .inr (2, [.ref h, .int (bI st.1.1), .int x6, .int x12, .int st.1.2.2.2.1, .int st.1.2.2.2.2.1, .int st.1.2.2.2.2.2.1, .int st.1.2.2.2.2.2.2])), (h, .inr (0, [.ref a1, .ref a2, .ref a3, .int st.2.1.1, .int st.2.1.2.1, .int st.2.1.2.2.1])), (a1, .inl (E.2.1 0, 42000, .inl st.2.1.2.2.2.1)), (a2, .inl (E.2.1 0, 513, .inl st.2.1.2.2.2.2.1)), (a3, .inl (E.2.1 1, 513, .inl st.2.1.2.2.2.2.2)), (ac, .inl (E.2.1 0, nc, .inl (upd st.2.2 (Int32.toNatClampNeg p1) r13)))] := hDn
          have hS := hSn
          clear hPn hDn hSn
          refine lv_aload_n hx hb d_En_code_135 rfl (lv_at hl 3 rfl) ?_
          obtain ⟨hk15, hok⟩ := hok
          refine ar_usev (wr := [(ac, .inl (E.2.1 0, nc, .inl (upd st.2.2 (Int32.toNatClampNeg p1) r13)))]) hP hD hS hA [0, 1, 2, 3, 4] [5] rfl rfl rfl (by decide) (ar_runV (n := 0) (As := []) (rest := []) (ci := 2) (q0 := 0) hx hb hml hown hts hP hD hS hA hK hZ (c_En_renew l E _ he h a1 a2 a3 ((st.1.1, x6, x12, st.1.2.2.2.1, st.1.2.2.2.2.1, st.1.2.2.2.2.2.1, st.1.2.2.2.2.2.2), st.2.1)  hk15) m_440 m_442 ms_10 m_5 m_443 (by decide +kernel) ⟨Nat.le_of_ble_eq_true rfl, Nat.le_of_ble_eq_true rfl⟩ [0, 1, 2, 3, 4] rfl rfl rfl rfl rfl rfl rfl hl.1 rfl (Nat.le_of_ble_eq_true rfl) d_En_code_136 ⟨Nat.le_of_ble_eq_true rfl, Nat.le_of_ble_eq_true rfl⟩) (fun u16 Hn locsn hw16 hPn hDn hSn => ?_)
          replace hok := hok u16 hw16
          clear hP hD hS
          have hP : va_P E.1 classes [(ac, .inl (E.2.1 0, nc, .inl (upd st.2.2 (Int32.toNatClampNeg p1) r13))), (he, .inr (2, [.ref h, .int (bI u16.1.1), .int u16.1.2.1, .int u16.1.2.2.1, .int u16.1.2.2.2.1, .int u16.1.2.2.2.2.1, .int u16.1.2.2.2.2.2.1, .int u16.1.2.2.2.2.2.2])), (h, .inr (0, [.ref a1, .ref a2, .ref a3, .int u16.2.1, .int u16.2.2.1, .int u16.2.2.2.1])), (a1, .inl (E.2.1 0, 42000, .inl u16.2.2.2.2.1)), (a2, .inl (E.2.1 0, 513, .inl u16.2.2.2.2.2.1)), (a3, .inl (E.2.1 1, 513, .inl u16.2.2.2.2.2.2))] Hn := hPn
          have hD : va_D A [(ac, .inl (E.2.1 0, nc, .inl (upd st.2.2 (Int32.toNatClampNeg p1) r13))), (he, .inr (2, [.ref h, .int (bI u16.1.1), .int u16.1.2.1, .int u16.1.2.2.1, .int u16.1.2.2.2.1, .int u16.1.2.2.2.2.1, .int u16.1.2.2.2.2.2.1, .int u16.1.2.2.2.2.2.2])), (h, .inr (0, [.ref a1, .ref a2, .ref a3, .int u16.2.1, .int u16.2.2.1, .int u16.2.2.2.1])), (a1, .inl (E.2.1 0, 42000, .inl u16.2.2.2.2.1)), (a2, .inl (E.2.1 0, 513, .inl u16.2.2.2.2.2.1)), (a3, .inl (E.2.1 1, 513, .inl u16.2.2.2.2.2.2))] := hDn
          have hS := hSn
          clear hPn hDn hSn
          replace hP := hP.sub (ws' := [(he, .inr (2, [.ref h, .int (bI u16.1.1), .int u16.1.2.1, .int u16.1.2.2.1, .int u16.1.2.2.2.1, .int u16.1.2.2.2.2.1, .int u16.1.2.2.2.2.2.1, .int u16.1.2.2.2.2.2.2])), (h, .inr (0, [.ref a1, .ref a2, .ref a3, .int u16.2.1, .int u16.2.2.1, .int u16.2.2.2.1])), (a1, .inl (E.2.1 0, 42000, .inl u16.2.2.2.2.1)), (a2, .inl (E.2.1 0, 513, .inl u16.2.2.2.2.2.1)), (a3, .inl (E.2.1 1, 513, .inl u16.2.2.2.2.2.2)), (ac, .inl (E.2.1 0, nc, .inl (upd st.2.2 (Int32.toNatClampNeg p1) r13)))]) [1, 2, 3, 4, 5, 0] rfl
          replace hD := hD.sub (ws' := [(he, .inr (2, [.ref h, .int (bI u16.1.1), .int u16.1.2.1, .int u16.1.2.2.1, .int u16.1.2.2.2.1, .int u16.1.2.2.2.2.1, .int u16.1.2.2.2.2.2.1, .int u16.1.2.2.2.2.2.2])), (h, .inr (0, [.ref a1, .ref a2, .ref a3, .int u16.2.1, .int u16.2.2.1, .int u16.2.2.2.1])), (a1, .inl (E.2.1 0, 42000, .inl u16.2.2.2.2.1)), (a2, .inl (E.2.1 0, 513, .inl u16.2.2.2.2.2.1)), (a3, .inl (E.2.1 1, 513, .inl u16.2.2.2.2.2.2)), (ac, .inl (E.2.1 0, nc, .inl (upd st.2.2 (Int32.toNatClampNeg p1) r13)))]) [1, 2, 3, 4, 5, 0] (by decide) rfl
          exact ar_vret hx hb hr hlocks hK hS (u16.1, u16.2, (upd st.2.2 (Int32.toNatClampNeg p1) r13)) (by subst hw16; subst hw13; subst ex12; subst ex6; subst hw4; subst ex3; exact Eq.symm (Eq.trans (f_En_code_s nc p1 p2 st) (Eq.trans (if_neg c1) (Eq.trans (if_pos c2) (Eq.trans (if_neg c5) (Eq.trans (if_neg c7) rfl)))))) hP hD d_En_code_139
      · replace hok := hok.1 c5
        refine lv_iconst (v := 1) hx hb d_En_code_31 (by decide) ?_
        refine lv_goto (tgt := 36) hx hb d_En_code_32 (by decide) ?_
        refine lv_istore (lv' := [(6, .int 1), (5, .int r4), (4, .int x3), (0, .ref he), (1, .ref ac), (2, .int p1), (3, .int p2)]) hx hb d_En_code_36 hl (by decide) rfl (fun ls hl => ?_)
        refine lv_aload_n hx hb d_En_code_38 rfl (lv_at hl 3 rfl) ?_
        refine lv_dup hx hb d_En_code_39 rfl ?_
        refine va_get (D := E.1) (ci := 2) (v := .int st.1.2.1) (C := R_En) (T := T_En) (N := 8) hx hb hts in_En hown hK hP 0 rfl rfl 2 (by decide) (hts _ m_88) (fun _ h9 => h9) rfl d_En_code_40 ?_
        refine lv_iload hx hb d_En_code_43 (lv_at hl 1 rfl) ?_
        refine lv_isub hx hb d_En_code_45 ?_
        refine lv_topi (fun x17 ex17 => ?_)
        replace hok := hok x17 ex17
        refine va_put (D := E.1) (ci := 2) (v := .int x17) (ty := .int) (C := R_En) (T := T_En) (N := 8) hx hb hts in_En t_En t_En_ok n_En hown hK hP hD hS 0 rfl rfl 2 (by decide) (hts _ m_88) (fun _ h9 => h9) rfl (by decide +kernel) rfl rfl (Nat.le_of_ble_eq_true rfl) d_En_code_46 (fun Hn locsn hPn hDn hSn => ?_)
        clear hP hD hS
        have hP : va_P E.1 classes [(he, .inr (2, [.ref h, .int (bI st.1.1), .int x17, .int st.1.2.2.1, .int st.1.2.2.2.1, .int st.1.2.2.2.2.1, .int st.1.2.2.2.2.2.1, .int st.1.2.2.2.2.2.2])), (h, .inr (0, [.ref a1, .ref a2, .ref a3, .int st.2.1.1, .int st.2.1.2.1, .int st.2.1.2.2.1])), (a1, .inl (E.2.1 0, 42000, .inl st.2.1.2.2.2.1)), (a2, .inl (E.2.1 0, 513, .inl st.2.1.2.2.2.2.1)), (a3, .inl (E.2.1 1, 513, .inl st.2.1.2.2.2.2.2)), (ac, .inl (E.2.1 0, nc, .inl st.2.2))] Hn := hPn
        have hD : va_D A [(he, .inr (2, [.ref h, .int (bI st.1.1), .int x17, .int st.1.2.2.1, .int st.1.2.2.2.1, .int st.1.2.2.2.2.1, .int st.1.2.2.2.2.2.1, .int st.1.2.2.2.2.2.2])), (h, .inr (0, [.ref a1, .ref a2, .ref a3, .int st.2.1.1, .int st.2.1.2.1, .int st.2.1.2.2.1])), (a1, .inl (E.2.1 0, 42000, .inl st.2.1.2.2.2.1)), (a2, .inl (E.2.1 0, 513, .inl st.2.1.2.2.2.2.1)), (a3, .inl (E.2.1 1, 513, .inl st.2.1.2.2.2.2.2)), (ac, .inl (E.2.1 0, nc, .inl st.2.2))] := hDn
        have hS := hSn
        clear hPn hDn hSn
        refine lv_iload hx hb d_En_code_49 (lv_at hl 0 rfl) ?_
        refine lv_if_eq (tgt := 75) hx hb d_En_code_51 (by decide) (fun cz => absurd cz (by decide)) (fun cz => ?_)
        refine lv_aload_n hx hb d_En_code_54 rfl (lv_at hl 3 rfl) ?_
        refine va_get (D := E.1) (ci := 2) (v := .int x17) (C := R_En) (T := T_En) (N := 8) hx hb hts in_En hown hK hP 0 rfl rfl 2 (by decide) (hts _ m_88) (fun _ h9 => h9) rfl d_En_code_55 ?_
        refine lv_ldc (v := 32768) hx hb hown (hts _ m_85) d_En_code_58 ?_
        refine lv_icmp_lt (tgt := 75) hx hb d_En_code_60 (by decide) (fun c18 => ?_) (fun c18 => ?_)
        · replace hok := hok.1 c18
          refine lv_iload hx hb d_En_code_75 (lv_at hl 0 rfl) ?_
          refine lv_aload_n hx hb d_En_code_77 rfl (lv_at hl 3 rfl) ?_
          refine va_get (D := E.1) (ci := 2) (v := .int x17) (C := R_En) (T := T_En) (N := 8) hx hb hts in_En hown hK hP 0 rfl rfl 2 (by decide) (hts _ m_88) (fun _ h9 => h9) rfl d_En_code_78 ?_
          refine lv_iload hx hb d_En_code_81 (lv_at hl 1 rfl) ?_
          refine lv_icmp_ge (tgt := 90) hx hb d_En_code_83 (by decide) (fun c19 => ?_) (fun c19 => ?_)
          · replace hok := hok.1 c19
            refine lv_iconst (v := 0) hx hb d_En_code_90 (by decide) ?_
            refine lv_icmp_ne (tgt := 103) hx hb d_En_code_91 (by decide) (fun cz => ?_) (fun cz => absurd cz (by decide))
            refine lv_aload_n hx hb d_En_code_103 rfl (lv_at hl 3 rfl) ?_
            refine lv_dup hx hb d_En_code_104 rfl ?_
            refine va_get (D := E.1) (ci := 2) (v := .int st.1.2.2.1) (C := R_En) (T := T_En) (N := 8) hx hb hts in_En hown hK hP 0 rfl rfl 3 (by decide) (hts _ m_89) (fun _ h9 => h9) rfl d_En_code_105 ?_
            refine lv_iload hx hb d_En_code_108 (lv_at hl 1 rfl) ?_
            refine lv_iadd hx hb d_En_code_110 ?_
            refine lv_topi (fun x20 ex20 => ?_)
            replace hok := hok x20 ex20
            refine va_put (D := E.1) (ci := 2) (v := .int x20) (ty := .int) (C := R_En) (T := T_En) (N := 8) hx hb hts in_En t_En t_En_ok n_En hown hK hP hD hS 0 rfl rfl 3 (by decide) (hts _ m_89) (fun _ h9 => h9) rfl (by decide +kernel) rfl rfl (Nat.le_of_ble_eq_true rfl) d_En_code_111 (fun Hn locsn hPn hDn hSn => ?_)
            clear hP hD hS
            have hP : va_P E.1 classes [(he, .inr (2, [.ref h, .int (bI st.1.1), .int x17, .int x20, .int st.1.2.2.2.1, .int st.1.2.2.2.2.1, .int st.1.2.2.2.2.2.1, .int st.1.2.2.2.2.2.2])), (h, .inr (0, [.ref a1, .ref a2, .ref a3, .int st.2.1.1, .int st.2.1.2.1, .int st.2.1.2.2.1])), (a1, .inl (E.2.1 0, 42000, .inl st.2.1.2.2.2.1)), (a2, .inl (E.2.1 0, 513, .inl st.2.1.2.2.2.2.1)), (a3, .inl (E.2.1 1, 513, .inl st.2.1.2.2.2.2.2)), (ac, .inl (E.2.1 0, nc, .inl st.2.2))] Hn := hPn
            have hD : va_D A [(he, .inr (2, [.ref h, .int (bI st.1.1), .int x17, .int x20, .int st.1.2.2.2.1, .int st.1.2.2.2.2.1, .int st.1.2.2.2.2.2.1, .int st.1.2.2.2.2.2.2])), (h, .inr (0, [.ref a1, .ref a2, .ref a3, .int st.2.1.1, .int st.2.1.2.1, .int st.2.1.2.2.1])), (a1, .inl (E.2.1 0, 42000, .inl st.2.1.2.2.2.1)), (a2, .inl (E.2.1 0, 513, .inl st.2.1.2.2.2.2.1)), (a3, .inl (E.2.1 1, 513, .inl st.2.1.2.2.2.2.2)), (ac, .inl (E.2.1 0, nc, .inl st.2.2))] := hDn
            have hS := hSn
            clear hPn hDn hSn
            refine lv_aload_n hx hb d_En_code_114 rfl (lv_at hl 4 rfl) ?_
            refine lv_iload_n hx hb d_En_code_115 rfl (lv_at hl 5 rfl) ?_
            refine lv_iload hx hb d_En_code_116 (lv_at hl 0 rfl) ?_
            refine lv_if_eq (tgt := 129) hx hb d_En_code_118 (by decide) (fun cz => absurd cz (by decide)) (fun cz => ?_)
            refine lv_iload hx hb d_En_code_121 (lv_at hl 2 rfl) ?_
            refine ar_usei (wr := [(he, .inr (2, [.ref h, .int (bI st.1.1), .int x17, .int x20, .int st.1.2.2.2.1, .int st.1.2.2.2.2.1, .int st.1.2.2.2.2.2.1, .int st.1.2.2.2.2.2.2])), (h, .inr (0, [.ref a1, .ref a2, .ref a3, .int st.2.1.1, .int st.2.1.2.1, .int st.2.1.2.2.1])), (a1, .inl (E.2.1 0, 42000, .inl st.2.1.2.2.2.1)), (a2, .inl (E.2.1 0, 513, .inl st.2.1.2.2.2.2.1)), (a3, .inl (E.2.1 1, 513, .inl st.2.1.2.2.2.2.2)), (ac, .inl (E.2.1 0, nc, .inl st.2.2))]) hP hD hS hA [] [0, 1, 2, 3, 4, 5] rfl rfl rfl (by decide) (ar_runS (n := 1) (As := [.int x3]) (rest := [.int p1, .ref ac]) hx hb hml hown hts hP hD hS hA hK hZ (c_Ta_behindLikely l E _   x3 ) m_430 m_431 m_14 m_432 (by decide +kernel) ⟨Nat.le_of_ble_eq_true rfl, Nat.le_of_ble_eq_true rfl⟩ [] rfl rfl rfl rfl hl.1 rfl (Nat.le_of_ble_eq_true rfl) d_En_code_123 ⟨Nat.le_of_ble_eq_true rfl, Nat.le_of_ble_eq_true rfl⟩) (fun r21 _ Hn locsn hw21 hPn hDn hSn => ?_)
            replace hok := hok r21 hw21
            clear hP hD hS
            have hP : va_P E.1 classes [(he, .inr (2, [.ref h, .int (bI st.1.1), .int x17, .int x20, .int st.1.2.2.2.1, .int st.1.2.2.2.2.1, .int st.1.2.2.2.2.2.1, .int st.1.2.2.2.2.2.2])), (h, .inr (0, [.ref a1, .ref a2, .ref a3, .int st.2.1.1, .int st.2.1.2.1, .int st.2.1.2.2.1])), (a1, .inl (E.2.1 0, 42000, .inl st.2.1.2.2.2.1)), (a2, .inl (E.2.1 0, 513, .inl st.2.1.2.2.2.2.1)), (a3, .inl (E.2.1 1, 513, .inl st.2.1.2.2.2.2.2)), (ac, .inl (E.2.1 0, nc, .inl st.2.2))] Hn := hPn
            have hD : va_D A [(he, .inr (2, [.ref h, .int (bI st.1.1), .int x17, .int x20, .int st.1.2.2.2.1, .int st.1.2.2.2.2.1, .int st.1.2.2.2.2.2.1, .int st.1.2.2.2.2.2.2])), (h, .inr (0, [.ref a1, .ref a2, .ref a3, .int st.2.1.1, .int st.2.1.2.1, .int st.2.1.2.2.1])), (a1, .inl (E.2.1 0, 42000, .inl st.2.1.2.2.2.1)), (a2, .inl (E.2.1 0, 513, .inl st.2.1.2.2.2.2.1)), (a3, .inl (E.2.1 1, 513, .inl st.2.1.2.2.2.2.2)), (ac, .inl (E.2.1 0, nc, .inl st.2.2))] := hDn
            have hS := hSn
            clear hPn hDn hSn
            refine lv_goto (tgt := 134) hx hb d_En_code_126 (by decide) ?_
            refine va_iast (D := E.1) (x := r21) hx hb hK hP hD hS 5 0 rfl rfl (in_lt (nI_toInt hnc) (by assumption) (by assumption)) d_En_code_134 (fun Hn locsn hPn hDn hSn => ?_)
            clear hP hD hS
            have hP : va_P E.1 classes [(he, .inr (2, [.ref h, .int (bI st.1.1), .int x17, .int x20, .int st.1.2.2.2.1, .int st.1.2.2.2.2.1, .int st.1.2.2.2.2.2.1, .int st.1.2.2.2.2.2.2])), (h, .inr (0, [.ref a1, .ref a2, .ref a3, .int st.2.1.1, .int st.2.1.2.1, .int st.2.1.2.2.1])), (a1, .inl (E.2.1 0, 42000, .inl st.2.1.2.2.2.1)), (a2, .inl (E.2.1 0, 513, .inl st.2.1.2.2.2.2.1)), (a3, .inl (E.2.1 1, 513, .inl st.2.1.2.2.2.2.2)), (ac, .inl (E.2.1 0, nc, .inl (upd st.2.2 (Int32.toNatClampNeg p1) r21)))] Hn := hPn
            have hD : va_D A [(he, .inr (2, [.ref h, .int (bI st.1.1), .int x17, .int x20, .int st.1.2.2.2.1, .int st.1.2.2.2.2.1, .int st.1.2.2.2.2.2.1, .int st.1.2.2.2.2.2.2])), (h, .inr (0, [.ref a1, .ref a2, .ref a3, .int st.2.1.1, .int st.2.1.2.1, .int st.2.1.2.2.1])), (a1, .inl (E.2.1 0, 42000, .inl st.2.1.2.2.2.1)), (a2, .inl (E.2.1 0, 513, .inl st.2.1.2.2.2.2.1)), (a3, .inl (E.2.1 1, 513, .inl st.2.1.2.2.2.2.2)), (ac, .inl (E.2.1 0, nc, .inl (upd st.2.2 (Int32.toNatClampNeg p1) r21)))] := hDn
            have hS := hSn
            clear hPn hDn hSn
            refine lv_aload_n hx hb d_En_code_135 rfl (lv_at hl 3 rfl) ?_
            obtain ⟨hk23, hok⟩ := hok
            refine ar_usev (wr := [(ac, .inl (E.2.1 0, nc, .inl (upd st.2.2 (Int32.toNatClampNeg p1) r21)))]) hP hD hS hA [0, 1, 2, 3, 4] [5] rfl rfl rfl (by decide) (ar_runV (n := 0) (As := []) (rest := []) (ci := 2) (q0 := 0) hx hb hml hown hts hP hD hS hA hK hZ (c_En_renew l E _ he h a1 a2 a3 ((st.1.1, x17, x20, st.1.2.2.2.1, st.1.2.2.2.2.1, st.1.2.2.2.2.2.1, st.1.2.2.2.2.2.2), st.2.1)  hk23) m_440 m_442 ms_10 m_5 m_443 (by decide +kernel) ⟨Nat.le_of_ble_eq_true rfl, Nat.le_of_ble_eq_true rfl⟩ [0, 1, 2, 3, 4] rfl rfl rfl rfl rfl rfl rfl hl.1 rfl (Nat.le_of_ble_eq_true rfl) d_En_code_136 ⟨Nat.le_of_ble_eq_true rfl, Nat.le_of_ble_eq_true rfl⟩) (fun u24 Hn locsn hw24 hPn hDn hSn => ?_)
            replace hok := hok u24 hw24
            clear hP hD hS
            have hP : va_P E.1 classes [(ac, .inl (E.2.1 0, nc, .inl (upd st.2.2 (Int32.toNatClampNeg p1) r21))), (he, .inr (2, [.ref h, .int (bI u24.1.1), .int u24.1.2.1, .int u24.1.2.2.1, .int u24.1.2.2.2.1, .int u24.1.2.2.2.2.1, .int u24.1.2.2.2.2.2.1, .int u24.1.2.2.2.2.2.2])), (h, .inr (0, [.ref a1, .ref a2, .ref a3, .int u24.2.1, .int u24.2.2.1, .int u24.2.2.2.1])), (a1, .inl (E.2.1 0, 42000, .inl u24.2.2.2.2.1)), (a2, .inl (E.2.1 0, 513, .inl u24.2.2.2.2.2.1)), (a3, .inl (E.2.1 1, 513, .inl u24.2.2.2.2.2.2))] Hn := hPn
            have hD : va_D A [(ac, .inl (E.2.1 0, nc, .inl (upd st.2.2 (Int32.toNatClampNeg p1) r21))), (he, .inr (2, [.ref h, .int (bI u24.1.1), .int u24.1.2.1, .int u24.1.2.2.1, .int u24.1.2.2.2.1, .int u24.1.2.2.2.2.1, .int u24.1.2.2.2.2.2.1, .int u24.1.2.2.2.2.2.2])), (h, .inr (0, [.ref a1, .ref a2, .ref a3, .int u24.2.1, .int u24.2.2.1, .int u24.2.2.2.1])), (a1, .inl (E.2.1 0, 42000, .inl u24.2.2.2.2.1)), (a2, .inl (E.2.1 0, 513, .inl u24.2.2.2.2.2.1)), (a3, .inl (E.2.1 1, 513, .inl u24.2.2.2.2.2.2))] := hDn
            have hS := hSn
            clear hPn hDn hSn
            replace hP := hP.sub (ws' := [(he, .inr (2, [.ref h, .int (bI u24.1.1), .int u24.1.2.1, .int u24.1.2.2.1, .int u24.1.2.2.2.1, .int u24.1.2.2.2.2.1, .int u24.1.2.2.2.2.2.1, .int u24.1.2.2.2.2.2.2])), (h, .inr (0, [.ref a1, .ref a2, .ref a3, .int u24.2.1, .int u24.2.2.1, .int u24.2.2.2.1])), (a1, .inl (E.2.1 0, 42000, .inl u24.2.2.2.2.1)), (a2, .inl (E.2.1 0, 513, .inl u24.2.2.2.2.2.1)), (a3, .inl (E.2.1 1, 513, .inl u24.2.2.2.2.2.2)), (ac, .inl (E.2.1 0, nc, .inl (upd st.2.2 (Int32.toNatClampNeg p1) r21)))]) [1, 2, 3, 4, 5, 0] rfl
            replace hD := hD.sub (ws' := [(he, .inr (2, [.ref h, .int (bI u24.1.1), .int u24.1.2.1, .int u24.1.2.2.1, .int u24.1.2.2.2.1, .int u24.1.2.2.2.2.1, .int u24.1.2.2.2.2.2.1, .int u24.1.2.2.2.2.2.2])), (h, .inr (0, [.ref a1, .ref a2, .ref a3, .int u24.2.1, .int u24.2.2.1, .int u24.2.2.2.1])), (a1, .inl (E.2.1 0, 42000, .inl u24.2.2.2.2.1)), (a2, .inl (E.2.1 0, 513, .inl u24.2.2.2.2.2.1)), (a3, .inl (E.2.1 1, 513, .inl u24.2.2.2.2.2.2)), (ac, .inl (E.2.1 0, nc, .inl (upd st.2.2 (Int32.toNatClampNeg p1) r21)))]) [1, 2, 3, 4, 5, 0] (by decide) rfl
            exact ar_vret hx hb hr hlocks hK hS (u24.1, u24.2, (upd st.2.2 (Int32.toNatClampNeg p1) r21)) (by subst hw24; subst hw21; subst ex20; subst ex17; subst hw4; subst ex3; exact Eq.symm (Eq.trans (f_En_code_s nc p1 p2 st) (Eq.trans (if_neg c1) (Eq.trans (if_pos c2) (Eq.trans (if_pos c5) (Eq.trans (if_pos c18) (Eq.trans (if_pos c19) rfl))))))) hP hD d_En_code_139
          · replace hok := hok.2 c19
            refine lv_iconst (v := 1) hx hb d_En_code_86 (by decide) ?_
            refine lv_goto (tgt := 91) hx hb d_En_code_87 (by decide) ?_
            refine lv_icmp_ne (tgt := 103) hx hb d_En_code_91 (by decide) (fun cz => absurd cz (by decide)) (fun cz => ?_)
            refine lv_aload_n hx hb d_En_code_94 rfl (lv_at hl 3 rfl) ?_
            refine lv_iload hx hb d_En_code_95 (lv_at hl 1 rfl) ?_
            refine va_put (D := E.1) (ci := 2) (v := .int r4) (ty := .int) (C := R_En) (T := T_En) (N := 8) hx hb hts in_En t_En t_En_ok n_En hown hK hP hD hS 0 rfl rfl 2 (by decide) (hts _ m_88) (fun _ h9 => h9) rfl (by decide +kernel) rfl rfl (Nat.le_of_ble_eq_true rfl) d_En_code_97 (fun Hn locsn hPn hDn hSn => ?_)
            clear hP hD hS
            have hP : va_P E.1 classes [(he, .inr (2, [.ref h, .int (bI st.1.1), .int r4, .int st.1.2.2.1, .int st.1.2.2.2.1, .int st.1.2.2.2.2.1, .int st.1.2.2.2.2.2.1, .int st.1.2.2.2.2.2.2])), (h, .inr (0, [.ref a1, .ref a2, .ref a3, .int st.2.1.1, .int st.2.1.2.1, .int st.2.1.2.2.1])), (a1, .inl (E.2.1 0, 42000, .inl st.2.1.2.2.2.1)), (a2, .inl (E.2.1 0, 513, .inl st.2.1.2.2.2.2.1)), (a3, .inl (E.2.1 1, 513, .inl st.2.1.2.2.2.2.2)), (ac, .inl (E.2.1 0, nc, .inl st.2.2))] Hn := hPn
            have hD : va_D A [(he, .inr (2, [.ref h, .int (bI st.1.1), .int r4, .int st.1.2.2.1, .int st.1.2.2.2.1, .int st.1.2.2.2.2.1, .int st.1.2.2.2.2.2.1, .int st.1.2.2.2.2.2.2])), (h, .inr (0, [.ref a1, .ref a2, .ref a3, .int st.2.1.1, .int st.2.1.2.1, .int st.2.1.2.2.1])), (a1, .inl (E.2.1 0, 42000, .inl st.2.1.2.2.2.1)), (a2, .inl (E.2.1 0, 513, .inl st.2.1.2.2.2.2.1)), (a3, .inl (E.2.1 1, 513, .inl st.2.1.2.2.2.2.2)), (ac, .inl (E.2.1 0, nc, .inl st.2.2))] := hDn
            have hS := hSn
            clear hPn hDn hSn
            refine lv_goto (tgt := 114) hx hb d_En_code_100 (by decide) ?_
            refine lv_aload_n hx hb d_En_code_114 rfl (lv_at hl 4 rfl) ?_
            refine lv_iload_n hx hb d_En_code_115 rfl (lv_at hl 5 rfl) ?_
            refine lv_iload hx hb d_En_code_116 (lv_at hl 0 rfl) ?_
            refine lv_if_eq (tgt := 129) hx hb d_En_code_118 (by decide) (fun cz => absurd cz (by decide)) (fun cz => ?_)
            refine lv_iload hx hb d_En_code_121 (lv_at hl 2 rfl) ?_
            refine ar_usei (wr := [(he, .inr (2, [.ref h, .int (bI st.1.1), .int r4, .int st.1.2.2.1, .int st.1.2.2.2.1, .int st.1.2.2.2.2.1, .int st.1.2.2.2.2.2.1, .int st.1.2.2.2.2.2.2])), (h, .inr (0, [.ref a1, .ref a2, .ref a3, .int st.2.1.1, .int st.2.1.2.1, .int st.2.1.2.2.1])), (a1, .inl (E.2.1 0, 42000, .inl st.2.1.2.2.2.1)), (a2, .inl (E.2.1 0, 513, .inl st.2.1.2.2.2.2.1)), (a3, .inl (E.2.1 1, 513, .inl st.2.1.2.2.2.2.2)), (ac, .inl (E.2.1 0, nc, .inl st.2.2))]) hP hD hS hA [] [0, 1, 2, 3, 4, 5] rfl rfl rfl (by decide) (ar_runS (n := 1) (As := [.int x3]) (rest := [.int p1, .ref ac]) hx hb hml hown hts hP hD hS hA hK hZ (c_Ta_behindLikely l E _   x3 ) m_430 m_431 m_14 m_432 (by decide +kernel) ⟨Nat.le_of_ble_eq_true rfl, Nat.le_of_ble_eq_true rfl⟩ [] rfl rfl rfl rfl hl.1 rfl (Nat.le_of_ble_eq_true rfl) d_En_code_123 ⟨Nat.le_of_ble_eq_true rfl, Nat.le_of_ble_eq_true rfl⟩) (fun r25 _ Hn locsn hw25 hPn hDn hSn => ?_)
            replace hok := hok r25 hw25
            clear hP hD hS
            have hP : va_P E.1 classes [(he, .inr (2, [.ref h, .int (bI st.1.1), .int r4, .int st.1.2.2.1, .int st.1.2.2.2.1, .int st.1.2.2.2.2.1, .int st.1.2.2.2.2.2.1, .int st.1.2.2.2.2.2.2])), (h, .inr (0, [.ref a1, .ref a2, .ref a3, .int st.2.1.1, .int st.2.1.2.1, .int st.2.1.2.2.1])), (a1, .inl (E.2.1 0, 42000, .inl st.2.1.2.2.2.1)), (a2, .inl (E.2.1 0, 513, .inl st.2.1.2.2.2.2.1)), (a3, .inl (E.2.1 1, 513, .inl st.2.1.2.2.2.2.2)), (ac, .inl (E.2.1 0, nc, .inl st.2.2))] Hn := hPn
            have hD : va_D A [(he, .inr (2, [.ref h, .int (bI st.1.1), .int r4, .int st.1.2.2.1, .int st.1.2.2.2.1, .int st.1.2.2.2.2.1, .int st.1.2.2.2.2.2.1, .int st.1.2.2.2.2.2.2])), (h, .inr (0, [.ref a1, .ref a2, .ref a3, .int st.2.1.1, .int st.2.1.2.1, .int st.2.1.2.2.1])), (a1, .inl (E.2.1 0, 42000, .inl st.2.1.2.2.2.1)), (a2, .inl (E.2.1 0, 513, .inl st.2.1.2.2.2.2.1)), (a3, .inl (E.2.1 1, 513, .inl st.2.1.2.2.2.2.2)), (ac, .inl (E.2.1 0, nc, .inl st.2.2))] := hDn
            have hS := hSn
            clear hPn hDn hSn
            refine lv_goto (tgt := 134) hx hb d_En_code_126 (by decide) ?_
            refine va_iast (D := E.1) (x := r25) hx hb hK hP hD hS 5 0 rfl rfl (in_lt (nI_toInt hnc) (by assumption) (by assumption)) d_En_code_134 (fun Hn locsn hPn hDn hSn => ?_)
            clear hP hD hS
            have hP : va_P E.1 classes [(he, .inr (2, [.ref h, .int (bI st.1.1), .int r4, .int st.1.2.2.1, .int st.1.2.2.2.1, .int st.1.2.2.2.2.1, .int st.1.2.2.2.2.2.1, .int st.1.2.2.2.2.2.2])), (h, .inr (0, [.ref a1, .ref a2, .ref a3, .int st.2.1.1, .int st.2.1.2.1, .int st.2.1.2.2.1])), (a1, .inl (E.2.1 0, 42000, .inl st.2.1.2.2.2.1)), (a2, .inl (E.2.1 0, 513, .inl st.2.1.2.2.2.2.1)), (a3, .inl (E.2.1 1, 513, .inl st.2.1.2.2.2.2.2)), (ac, .inl (E.2.1 0, nc, .inl (upd st.2.2 (Int32.toNatClampNeg p1) r25)))] Hn := hPn
            have hD : va_D A [(he, .inr (2, [.ref h, .int (bI st.1.1), .int r4, .int st.1.2.2.1, .int st.1.2.2.2.1, .int st.1.2.2.2.2.1, .int st.1.2.2.2.2.2.1, .int st.1.2.2.2.2.2.2])), (h, .inr (0, [.ref a1, .ref a2, .ref a3, .int st.2.1.1, .int st.2.1.2.1, .int st.2.1.2.2.1])), (a1, .inl (E.2.1 0, 42000, .inl st.2.1.2.2.2.1)), (a2, .inl (E.2.1 0, 513, .inl st.2.1.2.2.2.2.1)), (a3, .inl (E.2.1 1, 513, .inl st.2.1.2.2.2.2.2)), (ac, .inl (E.2.1 0, nc, .inl (upd st.2.2 (Int32.toNatClampNeg p1) r25)))] := hDn
            have hS := hSn
            clear hPn hDn hSn
            refine lv_aload_n hx hb d_En_code_135 rfl (lv_at hl 3 rfl) ?_
            obtain ⟨hk27, hok⟩ := hok
            refine ar_usev (wr := [(ac, .inl (E.2.1 0, nc, .inl (upd st.2.2 (Int32.toNatClampNeg p1) r25)))]) hP hD hS hA [0, 1, 2, 3, 4] [5] rfl rfl rfl (by decide) (ar_runV (n := 0) (As := []) (rest := []) (ci := 2) (q0 := 0) hx hb hml hown hts hP hD hS hA hK hZ (c_En_renew l E _ he h a1 a2 a3 ((st.1.1, r4, st.1.2.2.1, st.1.2.2.2.1, st.1.2.2.2.2.1, st.1.2.2.2.2.2.1, st.1.2.2.2.2.2.2), st.2.1)  hk27) m_440 m_442 ms_10 m_5 m_443 (by decide +kernel) ⟨Nat.le_of_ble_eq_true rfl, Nat.le_of_ble_eq_true rfl⟩ [0, 1, 2, 3, 4] rfl rfl rfl rfl rfl rfl rfl hl.1 rfl (Nat.le_of_ble_eq_true rfl) d_En_code_136 ⟨Nat.le_of_ble_eq_true rfl, Nat.le_of_ble_eq_true rfl⟩) (fun u28 Hn locsn hw28 hPn hDn hSn => ?_)
            replace hok := hok u28 hw28
            clear hP hD hS
            have hP : va_P E.1 classes [(ac, .inl (E.2.1 0, nc, .inl (upd st.2.2 (Int32.toNatClampNeg p1) r25))), (he, .inr (2, [.ref h, .int (bI u28.1.1), .int u28.1.2.1, .int u28.1.2.2.1, .int u28.1.2.2.2.1, .int u28.1.2.2.2.2.1, .int u28.1.2.2.2.2.2.1, .int u28.1.2.2.2.2.2.2])), (h, .inr (0, [.ref a1, .ref a2, .ref a3, .int u28.2.1, .int u28.2.2.1, .int u28.2.2.2.1])), (a1, .inl (E.2.1 0, 42000, .inl u28.2.2.2.2.1)), (a2, .inl (E.2.1 0, 513, .inl u28.2.2.2.2.2.1)), (a3, .inl (E.2.1 1, 513, .inl u28.2.2.2.2.2.2))] Hn := hPn
            have hD : va_D A [(ac, .inl (E.2.1 0, nc, .inl (upd st.2.2 (Int32.toNatClampNeg p1) r25))), (he, .inr (2, [.ref h, .int (bI u28.1.1), .int u28.1.2.1, .int u28.1.2.2.1, .int u28.1.2.2.2.1, .int u28.1.2.2.2.2.1, .int u28.1.2.2.2.2.2.1, .int u28.1.2.2.2.2.2.2])), (h, .inr (0, [.ref a1, .ref a2, .ref a3, .int u28.2.1, .int u28.2.2.1, .int u28.2.2.2.1])), (a1, .inl (E.2.1 0, 42000, .inl u28.2.2.2.2.1)), (a2, .inl (E.2.1 0, 513, .inl u28.2.2.2.2.2.1)), (a3, .inl (E.2.1 1, 513, .inl u28.2.2.2.2.2.2))] := hDn
            have hS := hSn
            clear hPn hDn hSn
            replace hP := hP.sub (ws' := [(he, .inr (2, [.ref h, .int (bI u28.1.1), .int u28.1.2.1, .int u28.1.2.2.1, .int u28.1.2.2.2.1, .int u28.1.2.2.2.2.1, .int u28.1.2.2.2.2.2.1, .int u28.1.2.2.2.2.2.2])), (h, .inr (0, [.ref a1, .ref a2, .ref a3, .int u28.2.1, .int u28.2.2.1, .int u28.2.2.2.1])), (a1, .inl (E.2.1 0, 42000, .inl u28.2.2.2.2.1)), (a2, .inl (E.2.1 0, 513, .inl u28.2.2.2.2.2.1)), (a3, .inl (E.2.1 1, 513, .inl u28.2.2.2.2.2.2)), (ac, .inl (E.2.1 0, nc, .inl (upd st.2.2 (Int32.toNatClampNeg p1) r25)))]) [1, 2, 3, 4, 5, 0] rfl
            replace hD := hD.sub (ws' := [(he, .inr (2, [.ref h, .int (bI u28.1.1), .int u28.1.2.1, .int u28.1.2.2.1, .int u28.1.2.2.2.1, .int u28.1.2.2.2.2.1, .int u28.1.2.2.2.2.2.1, .int u28.1.2.2.2.2.2.2])), (h, .inr (0, [.ref a1, .ref a2, .ref a3, .int u28.2.1, .int u28.2.2.1, .int u28.2.2.2.1])), (a1, .inl (E.2.1 0, 42000, .inl u28.2.2.2.2.1)), (a2, .inl (E.2.1 0, 513, .inl u28.2.2.2.2.2.1)), (a3, .inl (E.2.1 1, 513, .inl u28.2.2.2.2.2.2)), (ac, .inl (E.2.1 0, nc, .inl (upd st.2.2 (Int32.toNatClampNeg p1) r25)))]) [1, 2, 3, 4, 5, 0] (by decide) rfl
            exact ar_vret hx hb hr hlocks hK hS (u28.1, u28.2, (upd st.2.2 (Int32.toNatClampNeg p1) r25)) (by subst hw28; subst hw25; subst ex17; subst hw4; subst ex3; exact Eq.symm (Eq.trans (f_En_code_s nc p1 p2 st) (Eq.trans (if_neg c1) (Eq.trans (if_pos c2) (Eq.trans (if_pos c5) (Eq.trans (if_pos c18) (Eq.trans (if_neg c19) rfl))))))) hP hD d_En_code_139
        · replace hok := hok.2 c18
          refine lv_aload_n hx hb d_En_code_63 rfl (lv_at hl 3 rfl) ?_
          refine lv_dup hx hb d_En_code_64 rfl ?_
          refine va_get (D := E.1) (ci := 2) (v := .int st.1.2.2.1) (C := R_En) (T := T_En) (N := 8) hx hb hts in_En hown hK hP 0 rfl rfl 3 (by decide) (hts _ m_89) (fun _ h9 => h9) rfl d_En_code_65 ?_
          refine lv_iload hx hb d_En_code_68 (lv_at hl 1 rfl) ?_
          refine lv_iadd hx hb d_En_code_70 ?_
          refine lv_topi (fun x29 ex29 => ?_)
          replace hok := hok x29 ex29
          refine va_put (D := E.1) (ci := 2) (v := .int x29) (ty := .int) (C := R_En) (T := T_En) (N := 8) hx hb hts in_En t_En t_En_ok n_En hown hK hP hD hS 0 rfl rfl 3 (by decide) (hts _ m_89) (fun _ h9 => h9) rfl (by decide +kernel) rfl rfl (Nat.le_of_ble_eq_true rfl) d_En_code_71 (fun Hn locsn hPn hDn hSn => ?_)
          clear hP hD hS
          have hP : va_P E.1 classes [(he, .inr (2, [.ref h, .int (bI st.1.1), .int x17, .int x29, .int st.1.2.2.2.1, .int st.1.2.2.2.2.1, .int st.1.2.2.2.2.2.1, .int st.1.2.2.2.2.2.2])), (h, .inr (0, [.ref a1, .ref a2, .ref a3, .int st.2.1.1, .int st.2.1.2.1, .int st.2.1.2.2.1])), (a1, .inl (E.2.1 0, 42000, .inl st.2.1.2.2.2.1)), (a2, .inl (E.2.1 0, 513, .inl st.2.1.2.2.2.2.1)), (a3, .inl (E.2.1 1, 513, .inl st.2.1.2.2.2.2.2)), (ac, .inl (E.2.1 0, nc, .inl st.2.2))] Hn := hPn
          have hD : va_D A [(he, .inr (2, [.ref h, .int (bI st.1.1), .int x17, .int x29, .int st.1.2.2.2.1, .int st.1.2.2.2.2.1, .int st.1.2.2.2.2.2.1, .int st.1.2.2.2.2.2.2])), (h, .inr (0, [.ref a1, .ref a2, .ref a3, .int st.2.1.1, .int st.2.1.2.1, .int st.2.1.2.2.1])), (a1, .inl (E.2.1 0, 42000, .inl st.2.1.2.2.2.1)), (a2, .inl (E.2.1 0, 513, .inl st.2.1.2.2.2.2.1)), (a3, .inl (E.2.1 1, 513, .inl st.2.1.2.2.2.2.2)), (ac, .inl (E.2.1 0, nc, .inl st.2.2))] := hDn
          have hS := hSn
          clear hPn hDn hSn
          exact ar_vret hx hb hr hlocks hK hS ((st.1.1, x17, x29, st.1.2.2.2.1, st.1.2.2.2.2.1, st.1.2.2.2.2.2.1, st.1.2.2.2.2.2.2), st.2.1, st.2.2) (by subst ex29; subst ex17; subst hw4; subst ex3; exact Eq.symm (Eq.trans (f_En_code_s nc p1 p2 st) (Eq.trans (if_neg c1) (Eq.trans (if_pos c2) (Eq.trans (if_pos c5) (Eq.trans (if_neg c18) rfl)))))) hP hD d_En_code_74
    · replace hok := hok.2 c2
      exact ar_vret hx hb hr hlocks hK hS st (by exact Eq.symm (Eq.trans (f_En_code_s nc p1 p2 st) (Eq.trans (if_neg c1) (Eq.trans (if_neg c2) rfl)))) hP hD d_En_code_10

noncomputable def f_En_put (nc : Nat) (p1 : Int32) (p2 : Int32) (st : (EnS) × (RoS) × (Nat → Int32)) : (EnS) × (RoS) × (Nat → Int32) :=
  if bI st.1.1 = 0 then
    let u3 := f_En_code nc p1 p2 st
    u3
  else
    let u4 := f_En_putPlain  p2 (st.1, st.2.1)
    (u4.1, u4.2, st.2.2)
theorem f_En_put_s (nc : Nat) (p1 : Int32) (p2 : Int32) (st : (EnS) × (RoS) × (Nat → Int32)) : f_En_put nc p1 p2 st = ((
  if bI st.1.1 = 0 then
    let u3 := f_En_code nc p1 p2 st
    u3
  else
    let u4 := f_En_putPlain  p2 (st.1, st.2.1)
    (u4.1, u4.2, st.2.2)
  : (EnS) × (RoS) × (Nat → Int32))) := rfl
def k_En_put (nc : Nat) (p1 : Int32) (p2 : Int32) (st : (EnS) × (RoS) × (Nat → Int32)) : Prop := ((bI st.1.1 = 0) → (k_En_code nc p1 p2 st) ∧ ((∀ u3, u3 = f_En_code nc p1 p2 st → True))) ∧ (¬ (bI st.1.1 = 0) → (∀ u4, u4 = f_En_putPlain  p2 (st.1, st.2.1) → True))
set_option maxHeartbeats 4000000 in
set_option maxRecDepth 100000 in
theorem c_En_put (l : Launch) (E : Ev) (A : Nat → Prop) (he h a1 a2 a3 ac nc : Nat) (st : (EnS) × (RoS) × (Nat → Int32)) (p1 : Int32) (p2 : Int32)  (hok : k_En_put nc p1 p2 st) :
    Kt l y_En_put b_En_put 4 none 4 0 0 E A [.ref he, .ref ac, .int p1, .int p2] [(he, .inr (2, [.ref h, .int (bI st.1.1), .int st.1.2.1, .int st.1.2.2.1, .int st.1.2.2.2.1, .int st.1.2.2.2.2.1, .int st.1.2.2.2.2.2.1, .int st.1.2.2.2.2.2.2])), (h, .inr (0, [.ref a1, .ref a2, .ref a3, .int st.2.1.1, .int st.2.1.2.1, .int st.2.1.2.2.1])), (a1, .inl (E.2.1 0, 42000, .inl st.2.1.2.2.2.1)), (a2, .inl (E.2.1 0, 513, .inl st.2.1.2.2.2.2.1)), (a3, .inl (E.2.1 1, 513, .inl st.2.1.2.2.2.2.2)), (ac, .inl (E.2.1 0, nc, .inl st.2.2))] (va_Qv (fun u : (EnS) × (RoS) × (Nat → Int32) => u = f_En_put nc p1 p2 st) (ar_W E A (fun u : (EnS) × (RoS) × (Nat → Int32) => [(he, .inr (2, [.ref h, .int (bI u.1.1), .int u.1.2.1, .int u.1.2.2.1, .int u.1.2.2.2.1, .int u.1.2.2.2.2.1, .int u.1.2.2.2.2.2.1, .int u.1.2.2.2.2.2.2])), (h, .inr (0, [.ref a1, .ref a2, .ref a3, .int u.2.1.1, .int u.2.1.2.1, .int u.2.1.2.2.1])), (a1, .inl (E.2.1 0, 42000, .inl u.2.1.2.2.2.1)), (a2, .inl (E.2.1 0, 513, .inl u.2.1.2.2.2.2.1)), (a3, .inl (E.2.1 1, 513, .inl u.2.1.2.2.2.2.2)), (ac, .inl (E.2.1 0, nc, .inl u.2.2))])) A) := by
  unfold k_En_put at hok
  refine Kt.of (by decide) (Nat.le_of_ble_eq_true rfl) ?_
  intro p e s m below meth c ls hx hb hml hown hts hr hlocks hex hin hA hZ hP hK hD hl
  have hS : va_S A s.heap s.heap [] := va_S.rf
  have hl : lv_has ls 4 [(0, .ref he), (1, .ref ac), (2, .int p1), (3, .int p2)] := hl
  refine lv_aload_n hx hb d_En_put_0 rfl (lv_at hl 0 rfl) ?_
  refine va_get (D := E.1) (ci := 2) (v := .int (bI st.1.1)) (C := R_En) (T := T_En) (N := 8) hx hb hts in_En hown hK hP 0 rfl rfl 1 (by decide) (hts _ m_87) (fun _ h9 => h9) rfl d_En_put_1 ?_
  refine lv_if_eq (tgt := 15) hx hb d_En_put_4 (by decide) (fun c1 => ?_) (fun c1 => ?_)
  · replace hok := hok.1 c1
    refine lv_aload_n hx hb d_En_put_15 rfl (lv_at hl 0 rfl) ?_
    refine lv_aload_n hx hb d_En_put_16 rfl (lv_at hl 1 rfl) ?_
    refine lv_iload_n hx hb d_En_put_17 rfl (lv_at hl 2 rfl) ?_
    refine lv_iload_n hx hb d_En_put_18 rfl (lv_at hl 3 rfl) ?_
    obtain ⟨hk2, hok⟩ := hok
    refine ar_usev (wr := []) hP hD hS hA [0, 1, 2, 3, 4, 5] [] rfl rfl rfl (by decide) (ar_runV (n := 3) (As := [.ref ac, .int p1, .int p2]) (rest := []) (ci := 2) (q0 := 0) hx hb hml hown hts hP hD hS hA hK hZ (c_En_code l E _ he h a1 a2 a3 ac nc st p1 p2 hk2) m_418 m_420 ms_9 m_5 m_421 (by decide +kernel) ⟨Nat.le_of_ble_eq_true rfl, Nat.le_of_ble_eq_true rfl⟩ [0, 1, 2, 3, 4, 5] rfl rfl rfl rfl rfl rfl rfl hl.1 rfl (Nat.le_of_ble_eq_true rfl) d_En_put_19 ⟨Nat.le_of_ble_eq_true rfl, Nat.le_of_ble_eq_true rfl⟩) (fun u3 Hn locsn hw3 hPn hDn hSn => ?_)
    replace hok := hok u3 hw3
    clear hP hD hS
    have hP : va_P E.1 classes [(he, .inr (2, [.ref h, .int (bI u3.1.1), .int u3.1.2.1, .int u3.1.2.2.1, .int u3.1.2.2.2.1, .int u3.1.2.2.2.2.1, .int u3.1.2.2.2.2.2.1, .int u3.1.2.2.2.2.2.2])), (h, .inr (0, [.ref a1, .ref a2, .ref a3, .int u3.2.1.1, .int u3.2.1.2.1, .int u3.2.1.2.2.1])), (a1, .inl (E.2.1 0, 42000, .inl u3.2.1.2.2.2.1)), (a2, .inl (E.2.1 0, 513, .inl u3.2.1.2.2.2.2.1)), (a3, .inl (E.2.1 1, 513, .inl u3.2.1.2.2.2.2.2)), (ac, .inl (E.2.1 0, nc, .inl u3.2.2))] Hn := hPn
    have hD : va_D A [(he, .inr (2, [.ref h, .int (bI u3.1.1), .int u3.1.2.1, .int u3.1.2.2.1, .int u3.1.2.2.2.1, .int u3.1.2.2.2.2.1, .int u3.1.2.2.2.2.2.1, .int u3.1.2.2.2.2.2.2])), (h, .inr (0, [.ref a1, .ref a2, .ref a3, .int u3.2.1.1, .int u3.2.1.2.1, .int u3.2.1.2.2.1])), (a1, .inl (E.2.1 0, 42000, .inl u3.2.1.2.2.2.1)), (a2, .inl (E.2.1 0, 513, .inl u3.2.1.2.2.2.2.1)), (a3, .inl (E.2.1 1, 513, .inl u3.2.1.2.2.2.2.2)), (ac, .inl (E.2.1 0, nc, .inl u3.2.2))] := hDn
    have hS := hSn
    clear hPn hDn hSn
    exact ar_vret hx hb hr hlocks hK hS u3 (by subst hw3; exact Eq.symm (Eq.trans (f_En_put_s nc p1 p2 st) (Eq.trans (if_pos c1) rfl))) hP hD d_En_put_22
  · replace hok := hok.2 c1
    refine lv_aload_n hx hb d_En_put_7 rfl (lv_at hl 0 rfl) ?_
    refine lv_iload_n hx hb d_En_put_8 rfl (lv_at hl 3 rfl) ?_
    refine ar_usev (wr := [(ac, .inl (E.2.1 0, nc, .inl st.2.2))]) hP hD hS hA [0, 1, 2, 3, 4] [5] rfl rfl rfl (by decide) (ar_runV (n := 1) (As := [.int p2]) (rest := []) (ci := 2) (q0 := 0) hx hb hml hown hts hP hD hS hA hK hZ (c_En_putPlain l E _ he h a1 a2 a3 (st.1, st.2.1) p2 ) m_229 m_231 ms_3 m_5 m_232 (by decide +kernel) ⟨Nat.le_of_ble_eq_true rfl, Nat.le_of_ble_eq_true rfl⟩ [0, 1, 2, 3, 4] rfl rfl rfl rfl rfl rfl rfl hl.1 rfl (Nat.le_of_ble_eq_true rfl) d_En_put_9 ⟨Nat.le_of_ble_eq_true rfl, Nat.le_of_ble_eq_true rfl⟩) (fun u4 Hn locsn hw4 hPn hDn hSn => ?_)
    replace hok := hok u4 hw4
    clear hP hD hS
    have hP : va_P E.1 classes [(ac, .inl (E.2.1 0, nc, .inl st.2.2)), (he, .inr (2, [.ref h, .int (bI u4.1.1), .int u4.1.2.1, .int u4.1.2.2.1, .int u4.1.2.2.2.1, .int u4.1.2.2.2.2.1, .int u4.1.2.2.2.2.2.1, .int u4.1.2.2.2.2.2.2])), (h, .inr (0, [.ref a1, .ref a2, .ref a3, .int u4.2.1, .int u4.2.2.1, .int u4.2.2.2.1])), (a1, .inl (E.2.1 0, 42000, .inl u4.2.2.2.2.1)), (a2, .inl (E.2.1 0, 513, .inl u4.2.2.2.2.2.1)), (a3, .inl (E.2.1 1, 513, .inl u4.2.2.2.2.2.2))] Hn := hPn
    have hD : va_D A [(ac, .inl (E.2.1 0, nc, .inl st.2.2)), (he, .inr (2, [.ref h, .int (bI u4.1.1), .int u4.1.2.1, .int u4.1.2.2.1, .int u4.1.2.2.2.1, .int u4.1.2.2.2.2.1, .int u4.1.2.2.2.2.2.1, .int u4.1.2.2.2.2.2.2])), (h, .inr (0, [.ref a1, .ref a2, .ref a3, .int u4.2.1, .int u4.2.2.1, .int u4.2.2.2.1])), (a1, .inl (E.2.1 0, 42000, .inl u4.2.2.2.2.1)), (a2, .inl (E.2.1 0, 513, .inl u4.2.2.2.2.2.1)), (a3, .inl (E.2.1 1, 513, .inl u4.2.2.2.2.2.2))] := hDn
    have hS := hSn
    clear hPn hDn hSn
    refine lv_goto (tgt := 22) hx hb d_En_put_12 (by decide) ?_
    replace hP := hP.sub (ws' := [(he, .inr (2, [.ref h, .int (bI u4.1.1), .int u4.1.2.1, .int u4.1.2.2.1, .int u4.1.2.2.2.1, .int u4.1.2.2.2.2.1, .int u4.1.2.2.2.2.2.1, .int u4.1.2.2.2.2.2.2])), (h, .inr (0, [.ref a1, .ref a2, .ref a3, .int u4.2.1, .int u4.2.2.1, .int u4.2.2.2.1])), (a1, .inl (E.2.1 0, 42000, .inl u4.2.2.2.2.1)), (a2, .inl (E.2.1 0, 513, .inl u4.2.2.2.2.2.1)), (a3, .inl (E.2.1 1, 513, .inl u4.2.2.2.2.2.2)), (ac, .inl (E.2.1 0, nc, .inl st.2.2))]) [1, 2, 3, 4, 5, 0] rfl
    replace hD := hD.sub (ws' := [(he, .inr (2, [.ref h, .int (bI u4.1.1), .int u4.1.2.1, .int u4.1.2.2.1, .int u4.1.2.2.2.1, .int u4.1.2.2.2.2.1, .int u4.1.2.2.2.2.2.1, .int u4.1.2.2.2.2.2.2])), (h, .inr (0, [.ref a1, .ref a2, .ref a3, .int u4.2.1, .int u4.2.2.1, .int u4.2.2.2.1])), (a1, .inl (E.2.1 0, 42000, .inl u4.2.2.2.2.1)), (a2, .inl (E.2.1 0, 513, .inl u4.2.2.2.2.2.1)), (a3, .inl (E.2.1 1, 513, .inl u4.2.2.2.2.2.2)), (ac, .inl (E.2.1 0, nc, .inl st.2.2))]) [1, 2, 3, 4, 5, 0] (by decide) rfl
    exact ar_vret hx hb hr hlocks hK hS (u4.1, u4.2, st.2.2) (by subst hw4; exact Eq.symm (Eq.trans (f_En_put_s nc p1 p2 st) (Eq.trans (if_neg c1) rfl))) hP hD d_En_put_22
