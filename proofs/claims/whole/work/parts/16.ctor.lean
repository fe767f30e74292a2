/-! constructors of the class -/
theorem ar_n6 {n : Nat} (h : n ≤ 65536) : ¬ (6 * nI n) < 0 ∧ (6 * nI n).toNatClampNeg = 6 * n := by
  have e : (6 : Int32) * nI n = nI (6 * n) := pk_mul 6 n
  rw [e]
  exact ⟨nI_pos (by omega), nI_clamp (by omega)⟩
set_option maxHeartbeats 4000000 in
set_option maxRecDepth 100000 in
theorem c_Ro_init (l : Launch) (E : Ev) (A : Nat → Prop) (h : Nat)    :
    Kt l y_Ro_init b_Ro_init 1 none 1 3 43026 E A [.ref h] [(h, .inr (0, [.null, .null, .null, .int 0, .int 0, .int 0]))] (va_Qv (fun _ : Nat × Nat × Nat => True) (ar_W E A (fun u : Nat × Nat × Nat => [(h, .inr (0, [.ref u.1, .ref u.2.1, .ref u.2.2, .int 0, .int 1, .int 0])), (u.1, .inl (E.2.1 0, 42000, .inl (fun _ => 0))), (u.2.1, .inl (E.2.1 0, 513, .inl (fun _ => 0))), (u.2.2, .inl (E.2.1 1, 513, .inl (fun _ => 0)))])) A) := by
  refine Kt.of (by decide) (Nat.le_of_ble_eq_true rfl) ?_
  intro p e s m below meth c ls hx hb hml hown hts hr hlocks hex hin hA hZ hP hK hD hl
  have hS : va_S A s.heap s.heap [] := va_S.rf
  have hl : lv_has ls 1 [(0, .ref h)] := hl
  refine lv_aload_n hx hb d_Ro_init_0 rfl (lv_at hl 0 rfl) ?_
  refine W.objInit hx hb hown (hts _ m_53) (hts _ m_23) (hts _ m_24) rfl (by rw [hml]; exact hl.1) rfl d_Ro_init_1 (Nat.le_of_ble_eq_true rfl) (Nat.le_of_ble_eq_true rfl) ?_
  refine W.eq (g2 := F0 m 4 ls []) rfl ?_
  refine lv_aload_n hx hb d_Ro_init_4 rfl (lv_at hl 0 rfl) ?_
  refine lv_ldc (v := 42000) hx hb hown (hts _ m_54) d_Ro_init_5 ?_
  refine ar_newI (N := 42000) hx hb hts hP hD hS hA hK (by decide) rfl (by show 42000 * 4 ≤ 536870912; omega) (Nat.le_of_ble_eq_true rfl) (by show 0 + 42000 ≤ 43026; omega) d_Ro_init_7 (fun q1 Hn hPn hDn hSn => ?_)
  clear hP hD hS
  have hP : va_P E.1 classes [(h, .inr (0, [.null, .null, .null, .int 0, .int 0, .int 0])), (q1, .inl (E.2.1 0, 42000, .inl (fun _ => 0)))] Hn := hPn
  have hD : va_D A [(h, .inr (0, [.null, .null, .null, .int 0, .int 0, .int 0])), (q1, .inl (E.2.1 0, 42000, .inl (fun _ => 0)))] := hDn
  have hS := hSn
  clear hPn hDn hSn
  refine W.widen (k := 1) (n := 42000) (by omega) (by omega) ?_
  refine va_putF (D := E.1) (ci := 0) (v := .ref q1) (ty := (.array .int)) (C := R_Ro) (T := T_Ro) (N := 6) hx hb hts in_Ro t_Ro t_Ro_ok n_Ro hown hK hP hD hS 0 rfl rfl 0 (by decide) (hts _ m_55) (fun _ h9 => h9) rfl hin rfl (by decide +kernel) rfl rfl (Nat.le_of_ble_eq_true rfl) d_Ro_init_9 (fun Hn locsn hPn hDn hSn => ?_)
  clear hP hD hS
  have hP : va_P E.1 classes [(h, .inr (0, [.ref q1, .null, .null, .int 0, .int 0, .int 0])), (q1, .inl (E.2.1 0, 42000, .inl (fun _ => 0)))] Hn := hPn
  have hD : va_D A [(h, .inr (0, [.ref q1, .null, .null, .int 0, .int 0, .int 0])), (q1, .inl (E.2.1 0, 42000, .inl (fun _ => 0)))] := hDn
  have hS := hSn
  clear hPn hDn hSn
  refine lv_aload_n hx hb d_Ro_init_12 rfl (lv_at hl 0 rfl) ?_
  refine lv_sipush (v := 513) hx hb d_Ro_init_13 (by decide) ?_
  refine ar_newI (N := 513) hx hb hts hP hD hS hA hK (by decide) rfl (by show 513 * 4 ≤ 536870912; omega) (Nat.le_of_ble_eq_true rfl) (by show 42000 + 513 ≤ 43026; omega) d_Ro_init_16 (fun q2 Hn hPn hDn hSn => ?_)
  clear hP hD hS
  have hP : va_P E.1 classes [(h, .inr (0, [.ref q1, .null, .null, .int 0, .int 0, .int 0])), (q1, .inl (E.2.1 0, 42000, .inl (fun _ => 0))), (q2, .inl (E.2.1 0, 513, .inl (fun _ => 0)))] Hn := hPn
  have hD : va_D A [(h, .inr (0, [.ref q1, .null, .null, .int 0, .int 0, .int 0])), (q1, .inl (E.2.1 0, 42000, .inl (fun _ => 0))), (q2, .inl (E.2.1 0, 513, .inl (fun _ => 0)))] := hDn
  have hS := hSn
  clear hPn hDn hSn
  refine W.widen (k := 2) (n := 42513) (by omega) (by omega) ?_
  refine va_putF (D := E.1) (ci := 0) (v := .ref q2) (ty := (.array .int)) (C := R_Ro) (T := T_Ro) (N := 6) hx hb hts in_Ro t_Ro t_Ro_ok n_Ro hown hK hP hD hS 0 rfl rfl 1 (by decide) (hts _ m_56) (fun _ h9 => h9) rfl hin rfl (by decide +kernel) rfl rfl (Nat.le_of_ble_eq_true rfl) d_Ro_init_18 (fun Hn locsn hPn hDn hSn => ?_)
  clear hP hD hS
  have hP : va_P E.1 classes [(h, .inr (0, [.ref q1, .ref q2, .null, .int 0, .int 0, .int 0])), (q1, .inl (E.2.1 0, 42000, .inl (fun _ => 0))), (q2, .inl (E.2.1 0, 513, .inl (fun _ => 0)))] Hn := hPn
  have hD : va_D A [(h, .inr (0, [.ref q1, .ref q2, .null, .int 0, .int 0, .int 0])), (q1, .inl (E.2.1 0, 42000, .inl (fun _ => 0))), (q2, .inl (E.2.1 0, 513, .inl (fun _ => 0)))] := hDn
  have hS := hSn
  clear hPn hDn hSn
  refine lv_aload_n hx hb d_Ro_init_21 rfl (lv_at hl 0 rfl) ?_
  refine lv_sipush (v := 513) hx hb d_Ro_init_22 (by decide) ?_
  refine ar_newZ (N := 513) hx hb hts hP hD hS hA hK (by decide) rfl (by show 513 * 1 ≤ 536870912; omega) (Nat.le_of_ble_eq_true rfl) (by show 42513 + 513 ≤ 43026; omega) d_Ro_init_25 (fun q3 Hn hPn hDn hSn => ?_)
  clear hP hD hS
  have hP : va_P E.1 classes [(h, .inr (0, [.ref q1, .ref q2, .null, .int 0, .int 0, .int 0])), (q1, .inl (E.2.1 0, 42000, .inl (fun _ => 0))), (q2, .inl (E.2.1 0, 513, .inl (fun _ => 0))), (q3, .inl (E.2.1 1, 513, .inl (fun _ => 0)))] Hn := hPn
  have hD : va_D A [(h, .inr (0, [.ref q1, .ref q2, .null, .int 0, .int 0, .int 0])), (q1, .inl (E.2.1 0, 42000, .inl (fun _ => 0))), (q2, .inl (E.2.1 0, 513, .inl (fun _ => 0))), (q3, .inl (E.2.1 1, 513, .inl (fun _ => 0)))] := hDn
  have hS := hSn
  clear hPn hDn hSn
  refine W.widen (k := 3) (n := 43026) (by omega) (by omega) ?_
  refine va_putF (D := E.1) (ci := 0) (v := .ref q3) (ty := (.array .boolean)) (C := R_Ro) (T := T_Ro) (N := 6) hx hb hts in_Ro t_Ro t_Ro_ok n_Ro hown hK hP hD hS 0 rfl rfl 2 (by decide) (hts _ m_57) (fun _ h9 => h9) rfl hin rfl (by decide +kernel) rfl rfl (Nat.le_of_ble_eq_true rfl) d_Ro_init_27 (fun Hn locsn hPn hDn hSn => ?_)
  clear hP hD hS
  have hP : va_P E.1 classes [(h, .inr (0, [.ref q1, .ref q2, .ref q3, .int 0, .int 0, .int 0])), (q1, .inl (E.2.1 0, 42000, .inl (fun _ => 0))), (q2, .inl (E.2.1 0, 513, .inl (fun _ => 0))), (q3, .inl (E.2.1 1, 513, .inl (fun _ => 0)))] Hn := hPn
  have hD : va_D A [(h, .inr (0, [.ref q1, .ref q2, .ref q3, .int 0, .int 0, .int 0])), (q1, .inl (E.2.1 0, 42000, .inl (fun _ => 0))), (q2, .inl (E.2.1 0, 513, .inl (fun _ => 0))), (q3, .inl (E.2.1 1, 513, .inl (fun _ => 0)))] := hDn
  have hS := hSn
  clear hPn hDn hSn
  refine lv_aload_n hx hb d_Ro_init_30 rfl (lv_at hl 0 rfl) ?_
  refine lv_iconst (v := 0) hx hb d_Ro_init_31 (by decide) ?_
  refine va_put (D := E.1) (ci := 0) (v := .int 0) (ty := .int) (C := R_Ro) (T := T_Ro) (N := 6) hx hb hts in_Ro t_Ro t_Ro_ok n_Ro hown hK hP hD hS 0 rfl rfl 3 (by decide) (hts _ m_58) (fun _ h9 => h9) rfl (by decide +kernel) rfl rfl (Nat.le_of_ble_eq_true rfl) d_Ro_init_32 (fun Hn locsn hPn hDn hSn => ?_)
  clear hP hD hS
  have hP : va_P E.1 classes [(h, .inr (0, [.ref q1, .ref q2, .ref q3, .int 0, .int 0, .int 0])), (q1, .inl (E.2.1 0, 42000, .inl (fun _ => 0))), (q2, .inl (E.2.1 0, 513, .inl (fun _ => 0))), (q3, .inl (E.2.1 1, 513, .inl (fun _ => 0)))] Hn := hPn
  have hD : va_D A [(h, .inr (0, [.ref q1, .ref q2, .ref q3, .int 0, .int 0, .int 0])), (q1, .inl (E.2.1 0, 42000, .inl (fun _ => 0))), (q2, .inl (E.2.1 0, 513, .inl (fun _ => 0))), (q3, .inl (E.2.1 1, 513, .inl (fun _ => 0)))] := hDn
  have hS := hSn
  clear hPn hDn hSn
  refine lv_aload_n hx hb d_Ro_init_35 rfl (lv_at hl 0 rfl) ?_
  refine lv_iconst (v := 1) hx hb d_Ro_init_36 (by decide) ?_
  refine va_put (D := E.1) (ci := 0) (v := .int 1) (ty := .int) (C := R_Ro) (T := T_Ro) (N := 6) hx hb hts in_Ro t_Ro t_Ro_ok n_Ro hown hK hP hD hS 0 rfl rfl 4 (by decide) (hts _ m_59) (fun _ h9 => h9) rfl (by decide +kernel) rfl rfl (Nat.le_of_ble_eq_true rfl) d_Ro_init_37 (fun Hn locsn hPn hDn hSn => ?_)
  clear hP hD hS
  have hP : va_P E.1 classes [(h, .inr (0, [.ref q1, .ref q2, .ref q3, .int 0, .int 1, .int 0])), (q1, .inl (E.2.1 0, 42000, .inl (fun _ => 0))), (q2, .inl (E.2.1 0, 513, .inl (fun _ => 0))), (q3, .inl (E.2.1 1, 513, .inl (fun _ => 0)))] Hn := hPn
  have hD : va_D A [(h, .inr (0, [.ref q1, .ref q2, .ref q3, .int 0, .int 1, .int 0])), (q1, .inl (E.2.1 0, 42000, .inl (fun _ => 0))), (q2, .inl (E.2.1 0, 513, .inl (fun _ => 0))), (q3, .inl (E.2.1 1, 513, .inl (fun _ => 0)))] := hDn
  have hS := hSn
  clear hPn hDn hSn
  refine lv_aload_n hx hb d_Ro_init_40 rfl (lv_at hl 0 rfl) ?_
  refine lv_iconst (v := 0) hx hb d_Ro_init_41 (by decide) ?_
  refine va_put (D := E.1) (ci := 0) (v := .int 0) (ty := .int) (C := R_Ro) (T := T_Ro) (N := 6) hx hb hts in_Ro t_Ro t_Ro_ok n_Ro hown hK hP hD hS 0 rfl rfl 5 (by decide) (hts _ m_60) (fun _ h9 => h9) rfl (by decide +kernel) rfl rfl (Nat.le_of_ble_eq_true rfl) d_Ro_init_42 (fun Hn locsn hPn hDn hSn => ?_)
  clear hP hD hS
  have hP : va_P E.1 classes [(h, .inr (0, [.ref q1, .ref q2, .ref q3, .int 0, .int 1, .int 0])), (q1, .inl (E.2.1 0, 42000, .inl (fun _ => 0))), (q2, .inl (E.2.1 0, 513, .inl (fun _ => 0))), (q3, .inl (E.2.1 1, 513, .inl (fun _ => 0)))] Hn := hPn
  have hD : va_D A [(h, .inr (0, [.ref q1, .ref q2, .ref q3, .int 0, .int 1, .int 0])), (q1, .inl (E.2.1 0, 42000, .inl (fun _ => 0))), (q2, .inl (E.2.1 0, 513, .inl (fun _ => 0))), (q3, .inl (E.2.1 1, 513, .inl (fun _ => 0)))] := hDn
  have hS := hSn
  clear hPn hDn hSn
  replace hP := hP.sub (ws' := [(h, .inr (0, [.ref q1, .ref q2, .ref q3, .int 0, .int 1, .int 0])), (q1, .inl (E.2.1 0, 42000, .inl (fun _ => 0))), (q2, .inl (E.2.1 0, 513, .inl (fun _ => 0))), (q3, .inl (E.2.1 1, 513, .inl (fun _ => 0)))]) [0, 1, 2, 3] rfl
  replace hD := hD.sub (ws' := [(h, .inr (0, [.ref q1, .ref q2, .ref q3, .int 0, .int 1, .int 0])), (q1, .inl (E.2.1 0, 42000, .inl (fun _ => 0))), (q2, .inl (E.2.1 0, 513, .inl (fun _ => 0))), (q3, .inl (E.2.1 1, 513, .inl (fun _ => 0)))]) [0, 1, 2, 3] (by decide) rfl
  refine W.widen (k := 3) (n := 43026) (by omega) (by omega) ?_
  exact ar_vret hx hb hr hlocks hK hS (q1, q2, q3) trivial hP hD d_Ro_init_45

set_option maxHeartbeats 4000000 in
set_option maxRecDepth 100000 in
theorem c_Si_init (l : Launch) (E : Ev) (A : Nat → Prop) (sd nc : Nat)   (hnc : nc ≤ 65536) :
    Kt l y_Si_init b_Si_init 2 none 1 2 69632 E A [.ref sd, .int (nI nc)] [(sd, .inr (1, [.null, .null]))] (va_Qv (fun _ : Nat × Nat => True) (ar_W E A (fun u : Nat × Nat => [(sd, .inr (1, [.ref u.1, .ref u.2])), (u.1, .inl (E.2.1 0, nc, .inl (fun _ => 0))), (u.2, .inl (E.2.1 0, 4096, .inl (fun _ => 0)))])) A) := by
  refine Kt.of (by decide) (Nat.le_of_ble_eq_true rfl) ?_
  intro p e s m below meth c ls hx hb hml hown hts hr hlocks hex hin hA hZ hP hK hD hl
  have hS : va_S A s.heap s.heap [] := va_S.rf
  have hl : lv_has ls 2 [(0, .ref sd), (1, .int (nI nc))] := hl
  refine lv_aload_n hx hb d_Si_init_0 rfl (lv_at hl 0 rfl) ?_
  refine W.objInit hx hb hown (hts _ m_37) (hts _ m_23) (hts _ m_24) rfl (by rw [hml]; exact hl.1) rfl d_Si_init_1 (Nat.le_of_ble_eq_true rfl) (Nat.le_of_ble_eq_true rfl) ?_
  refine W.eq (g2 := F0 m 4 ls []) rfl ?_
  refine lv_aload_n hx hb d_Si_init_4 rfl (lv_at hl 0 rfl) ?_
  refine lv_iload_n hx hb d_Si_init_5 rfl (lv_at hl 1 rfl) ?_
  refine ar_newI (N := nc) hx hb hts hP hD hS hA hK (nI_pos (by omega)) (nI_clamp (by omega)) (by show nc * 4 ≤ 536870912; omega) (Nat.le_of_ble_eq_true rfl) (by show 0 + nc ≤ 69632; omega) d_Si_init_6 (fun q1 Hn hPn hDn hSn => ?_)
  clear hP hD hS
  have hP : va_P E.1 classes [(sd, .inr (1, [.null, .null])), (q1, .inl (E.2.1 0, nc, .inl (fun _ => 0)))] Hn := hPn
  have hD : va_D A [(sd, .inr (1, [.null, .null])), (q1, .inl (E.2.1 0, nc, .inl (fun _ => 0)))] := hDn
  have hS := hSn
  clear hPn hDn hSn
  refine W.widen (k := 1) (n := 65536) (by omega) (by omega) ?_
  refine va_putF (D := E.1) (ci := 1) (v := .ref q1) (ty := (.array .int)) (C := R_Si) (T := T_Si) (N := 2) hx hb hts in_Si t_Si t_Si_ok n_Si hown hK hP hD hS 0 rfl rfl 0 (by decide) (hts _ m_38) (fun _ h9 => h9) rfl hin rfl (by decide +kernel) rfl rfl (Nat.le_of_ble_eq_true rfl) d_Si_init_8 (fun Hn locsn hPn hDn hSn => ?_)
  clear hP hD hS
  have hP : va_P E.1 classes [(sd, .inr (1, [.ref q1, .null])), (q1, .inl (E.2.1 0, nc, .inl (fun _ => 0)))] Hn := hPn
  have hD : va_D A [(sd, .inr (1, [.ref q1, .null])), (q1, .inl (E.2.1 0, nc, .inl (fun _ => 0)))] := hDn
  have hS := hSn
  clear hPn hDn hSn
  refine lv_aload_n hx hb d_Si_init_11 rfl (lv_at hl 0 rfl) ?_
  refine lv_sipush (v := 4096) hx hb d_Si_init_12 (by decide) ?_
  refine ar_newI (N := 4096) hx hb hts hP hD hS hA hK (by decide) rfl (by show 4096 * 4 ≤ 536870912; omega) (Nat.le_of_ble_eq_true rfl) (by show 65536 + 4096 ≤ 69632; omega) d_Si_init_15 (fun q2 Hn hPn hDn hSn => ?_)
  clear hP hD hS
  have hP : va_P E.1 classes [(sd, .inr (1, [.ref q1, .null])), (q1, .inl (E.2.1 0, nc, .inl (fun _ => 0))), (q2, .inl (E.2.1 0, 4096, .inl (fun _ => 0)))] Hn := hPn
  have hD : va_D A [(sd, .inr (1, [.ref q1, .null])), (q1, .inl (E.2.1 0, nc, .inl (fun _ => 0))), (q2, .inl (E.2.1 0, 4096, .inl (fun _ => 0)))] := hDn
  have hS := hSn
  clear hPn hDn hSn
  refine W.widen (k := 2) (n := 69632) (by omega) (by omega) ?_
  refine va_putF (D := E.1) (ci := 1) (v := .ref q2) (ty := (.array .int)) (C := R_Si) (T := T_Si) (N := 2) hx hb hts in_Si t_Si t_Si_ok n_Si hown hK hP hD hS 0 rfl rfl 1 (by decide) (hts _ m_40) (fun _ h9 => h9) rfl hin rfl (by decide +kernel) rfl rfl (Nat.le_of_ble_eq_true rfl) d_Si_init_17 (fun Hn locsn hPn hDn hSn => ?_)
  clear hP hD hS
  have hP : va_P E.1 classes [(sd, .inr (1, [.ref q1, .ref q2])), (q1, .inl (E.2.1 0, nc, .inl (fun _ => 0))), (q2, .inl (E.2.1 0, 4096, .inl (fun _ => 0)))] Hn := hPn
  have hD : va_D A [(sd, .inr (1, [.ref q1, .ref q2])), (q1, .inl (E.2.1 0, nc, .inl (fun _ => 0))), (q2, .inl (E.2.1 0, 4096, .inl (fun _ => 0)))] := hDn
  have hS := hSn
  clear hPn hDn hSn
  replace hP := hP.sub (ws' := [(sd, .inr (1, [.ref q1, .ref q2])), (q1, .inl (E.2.1 0, nc, .inl (fun _ => 0))), (q2, .inl (E.2.1 0, 4096, .inl (fun _ => 0)))]) [0, 1, 2] rfl
  replace hD := hD.sub (ws' := [(sd, .inr (1, [.ref q1, .ref q2])), (q1, .inl (E.2.1 0, nc, .inl (fun _ => 0))), (q2, .inl (E.2.1 0, 4096, .inl (fun _ => 0)))]) [0, 1, 2] (by decide) rfl
  refine W.widen (k := 2) (n := 69632) (by omega) (by omega) ?_
  exact ar_vret hx hb hr hlocks hK hS (q1, q2) trivial hP hD d_Si_init_20

set_option maxHeartbeats 4000000 in
set_option maxRecDepth 100000 in
theorem c_En_init (l : Launch) (E : Ev) (A : Nat → Prop) (he h : Nat)    :
    Kt l y_En_init b_En_init 2 none 1 0 0 E A [.ref he, .ref h] [(he, .inr (2, [.null, .int (bI false), .int 0, .int 0, .int 0, .int 0, .int 0, .int 0]))] (va_Qv (fun _ : Unit => True) (ar_W E A (fun u : Unit => [(he, .inr (2, [.ref h, .int (bI false), .int 32768, .int 0, .int 12, .int 0, .int 0, .int 8]))])) A) := by
  refine Kt.of (by decide) (Nat.le_of_ble_eq_true rfl) ?_
  intro p e s m below meth c ls hx hb hml hown hts hr hlocks hex hin hA hZ hP hK hD hl
  have hS : va_S A s.heap s.heap [] := va_S.rf
  have hl : lv_has ls 2 [(0, .ref he), (1, .ref h)] := hl
  refine lv_aload_n hx hb d_En_init_0 rfl (lv_at hl 0 rfl) ?_
  refine W.objInit hx hb hown (hts _ m_80) (hts _ m_23) (hts _ m_24) rfl (by rw [hml]; exact hl.1) rfl d_En_init_1 (Nat.le_of_ble_eq_true rfl) (Nat.le_of_ble_eq_true rfl) ?_
  refine W.eq (g2 := F0 m 4 ls []) rfl ?_
  refine lv_aload_n hx hb d_En_init_4 rfl (lv_at hl 0 rfl) ?_
  refine lv_aload_n hx hb d_En_init_5 rfl (lv_at hl 1 rfl) ?_
  refine va_putF (D := E.1) (ci := 2) (v := .ref h) (ty := (.object "ArithmeticRows$Row")) (C := R_En) (T := T_En) (N := 8) hx hb hts in_En t_En t_En_ok n_En hown hK hP hD hS 0 rfl rfl 0 (by decide) (hts _ m_86) (fun _ h9 => h9) rfl hin rfl (by decide +kernel) rfl rfl (Nat.le_of_ble_eq_true rfl) d_En_init_6 (fun Hn locsn hPn hDn hSn => ?_)
  clear hP hD hS
  have hP : va_P E.1 classes [(he, .inr (2, [.ref h, .int (bI false), .int 0, .int 0, .int 0, .int 0, .int 0, .int 0]))] Hn := hPn
  have hD : va_D A [(he, .inr (2, [.ref h, .int (bI false), .int 0, .int 0, .int 0, .int 0, .int 0, .int 0]))] := hDn
  have hS := hSn
  clear hPn hDn hSn
  refine lv_aload_n hx hb d_En_init_9 rfl (lv_at hl 0 rfl) ?_
  refine lv_iconst (v := 0) hx hb d_En_init_10 (by decide) ?_
  refine ar_usev (wr := []) hP hD hS hA [0] [] rfl rfl rfl (by decide) (ar_runV (n := 1) (As := [.int (bI false)]) (rest := []) (ci := 2) (q0 := 0) hx hb hml hown hts hP hD hS hA hK hZ (c_En_begin l E _ he h (false, 0, 0, 0, 0, 0, 0) false ) m_81 m_82 m_83 m_5 m_84 (by decide +kernel) ⟨Nat.le_of_ble_eq_true rfl, Nat.le_of_ble_eq_true rfl⟩ [0] rfl rfl rfl rfl rfl rfl rfl hl.1 rfl (Nat.le_of_ble_eq_true rfl) d_En_init_11 ⟨Nat.le_of_ble_eq_true rfl, Nat.le_of_ble_eq_true rfl⟩) (fun u1 Hn locsn hw1 hPn hDn hSn => ?_)
  clear hP hD hS
  have hP : va_P E.1 classes [(he, .inr (2, [.ref h, .int (bI u1.1), .int u1.2.1, .int u1.2.2.1, .int u1.2.2.2.1, .int u1.2.2.2.2.1, .int u1.2.2.2.2.2.1, .int u1.2.2.2.2.2.2]))] Hn := hPn
  have hD : va_D A [(he, .inr (2, [.ref h, .int (bI u1.1), .int u1.2.1, .int u1.2.2.1, .int u1.2.2.2.1, .int u1.2.2.2.2.1, .int u1.2.2.2.2.2.1, .int u1.2.2.2.2.2.2]))] := hDn
  have hS := hSn
  clear hPn hDn hSn
  subst hw1
  replace hP := hP.sub (ws' := [(he, .inr (2, [.ref h, .int (bI false), .int 32768, .int 0, .int 12, .int 0, .int 0, .int 8]))]) [0] rfl
  replace hD := hD.sub (ws' := [(he, .inr (2, [.ref h, .int (bI false), .int 32768, .int 0, .int 12, .int 0, .int 0, .int 8]))]) [0] (by decide) rfl
  refine W.widen (k := 0) (n := 0) (by omega) (by omega) ?_
  exact ar_vret hx hb hr hlocks hK hS () trivial hP hD d_En_init_14

set_option maxHeartbeats 4000000 in
set_option maxRecDepth 100000 in
theorem c_De_init (l : Launch) (E : Ev) (A : Nat → Prop) (hd h : Nat)    :
    Kt l y_De_init b_De_init 2 none 1 0 0 E A [.ref hd, .ref h] [(hd, .inr (3, [.null, .int 0, .int (bI false), .int (bI false), .int 0, .int 0, .int 0, .int 0, .int 0, .int 0, .int 0]))] (va_Qv (fun _ : Unit => True) (ar_W E A (fun u : Unit => [(hd, .inr (3, [.ref h, .int 0, .int (bI false), .int (bI false), .int 0, .int 0, .int (-1), .int 0, .int 0, .int 0, .int 0]))])) A) := by
  refine Kt.of (by decide) (Nat.le_of_ble_eq_true rfl) ?_
  intro p e s m below meth c ls hx hb hml hown hts hr hlocks hex hin hA hZ hP hK hD hl
  have hS : va_S A s.heap s.heap [] := va_S.rf
  have hl : lv_has ls 2 [(0, .ref hd), (1, .ref h)] := hl
  refine lv_aload_n hx hb d_De_init_0 rfl (lv_at hl 0 rfl) ?_
  refine W.objInit hx hb hown (hts _ m_116) (hts _ m_23) (hts _ m_24) rfl (by rw [hml]; exact hl.1) rfl d_De_init_1 (Nat.le_of_ble_eq_true rfl) (Nat.le_of_ble_eq_true rfl) ?_
  refine W.eq (g2 := F0 m 4 ls []) rfl ?_
  refine lv_aload_n hx hb d_De_init_4 rfl (lv_at hl 0 rfl) ?_
  refine lv_aload_n hx hb d_De_init_5 rfl (lv_at hl 1 rfl) ?_
  refine va_putF (D := E.1) (ci := 3) (v := .ref h) (ty := (.object "ArithmeticRows$Row")) (C := R_De) (T := T_De) (N := 11) hx hb hts in_De t_De t_De_ok n_De hown hK hP hD hS 0 rfl rfl 0 (by decide) (hts _ m_117) (fun _ h9 => h9) rfl hin rfl (by decide +kernel) rfl rfl (Nat.le_of_ble_eq_true rfl) d_De_init_6 (fun Hn locsn hPn hDn hSn => ?_)
  clear hP hD hS
  have hP : va_P E.1 classes [(hd, .inr (3, [.ref h, .int 0, .int (bI false), .int (bI false), .int 0, .int 0, .int 0, .int 0, .int 0, .int 0, .int 0]))] Hn := hPn
  have hD : va_D A [(hd, .inr (3, [.ref h, .int 0, .int (bI false), .int (bI false), .int 0, .int 0, .int 0, .int 0, .int 0, .int 0, .int 0]))] := hDn
  have hS := hSn
  clear hPn hDn hSn
  refine lv_aload_n hx hb d_De_init_9 rfl (lv_at hl 0 rfl) ?_
  refine lv_iconst (v := 0) hx hb d_De_init_10 (by decide) ?_
  refine va_put (D := E.1) (ci := 3) (v := .int 0) (ty := .int) (C := R_De) (T := T_De) (N := 11) hx hb hts in_De t_De t_De_ok n_De hown hK hP hD hS 0 rfl rfl 1 (by decide) (hts _ m_118) (fun _ h9 => h9) rfl (by decide +kernel) rfl rfl (Nat.le_of_ble_eq_true rfl) d_De_init_11 (fun Hn locsn hPn hDn hSn => ?_)
  clear hP hD hS
  have hP : va_P E.1 classes [(hd, .inr (3, [.ref h, .int 0, .int (bI false), .int (bI false), .int 0, .int 0, .int 0, .int 0, .int 0, .int 0, .int 0]))] Hn := hPn
  have hD : va_D A [(hd, .inr (3, [.ref h, .int 0, .int (bI false), .int (bI false), .int 0, .int 0, .int 0, .int 0, .int 0, .int 0, .int 0]))] := hDn
  have hS := hSn
  clear hPn hDn hSn
  refine lv_aload_n hx hb d_De_init_14 rfl (lv_at hl 0 rfl) ?_
  refine lv_iconst (v := 0) hx hb d_De_init_15 (by decide) ?_
  refine va_put (D := E.1) (ci := 3) (v := .int 0) (ty := .boolean) (C := R_De) (T := T_De) (N := 11) hx hb hts in_De t_De t_De_ok n_De hown hK hP hD hS 0 rfl rfl 2 (by decide) (hts _ m_119) (fun _ h9 => h9) rfl (by decide +kernel) rfl rfl (Nat.le_of_ble_eq_true rfl) d_De_init_16 (fun Hn locsn hPn hDn hSn => ?_)
  clear hP hD hS
  have hP : va_P E.1 classes [(hd, .inr (3, [.ref h, .int 0, .int 0, .int (bI false), .int 0, .int 0, .int 0, .int 0, .int 0, .int 0, .int 0]))] Hn := hPn
  have hD : va_D A [(hd, .inr (3, [.ref h, .int 0, .int 0, .int (bI false), .int 0, .int 0, .int 0, .int 0, .int 0, .int 0, .int 0]))] := hDn
  have hS := hSn
  clear hPn hDn hSn
  refine lv_aload_n hx hb d_De_init_19 rfl (lv_at hl 0 rfl) ?_
  refine lv_iconst (v := 0) hx hb d_De_init_20 (by decide) ?_
  refine va_put (D := E.1) (ci := 3) (v := .int 0) (ty := .boolean) (C := R_De) (T := T_De) (N := 11) hx hb hts in_De t_De t_De_ok n_De hown hK hP hD hS 0 rfl rfl 3 (by decide) (hts _ m_120) (fun _ h9 => h9) rfl (by decide +kernel) rfl rfl (Nat.le_of_ble_eq_true rfl) d_De_init_21 (fun Hn locsn hPn hDn hSn => ?_)
  clear hP hD hS
  have hP : va_P E.1 classes [(hd, .inr (3, [.ref h, .int 0, .int 0, .int 0, .int 0, .int 0, .int 0, .int 0, .int 0, .int 0, .int 0]))] Hn := hPn
  have hD : va_D A [(hd, .inr (3, [.ref h, .int 0, .int 0, .int 0, .int 0, .int 0, .int 0, .int 0, .int 0, .int 0, .int 0]))] := hDn
  have hS := hSn
  clear hPn hDn hSn
  refine lv_aload_n hx hb d_De_init_24 rfl (lv_at hl 0 rfl) ?_
  refine lv_iconst (v := (-1)) hx hb d_De_init_25 (by decide) ?_
  refine va_put (D := E.1) (ci := 3) (v := .int (-1)) (ty := .int) (C := R_De) (T := T_De) (N := 11) hx hb hts in_De t_De t_De_ok n_De hown hK hP hD hS 0 rfl rfl 6 (by decide) (hts _ m_123) (fun _ h9 => h9) rfl (by decide +kernel) rfl rfl (Nat.le_of_ble_eq_true rfl) d_De_init_26 (fun Hn locsn hPn hDn hSn => ?_)
  clear hP hD hS
  have hP : va_P E.1 classes [(hd, .inr (3, [.ref h, .int 0, .int 0, .int 0, .int 0, .int 0, .int (-1), .int 0, .int 0, .int 0, .int 0]))] Hn := hPn
  have hD : va_D A [(hd, .inr (3, [.ref h, .int 0, .int 0, .int 0, .int 0, .int 0, .int (-1), .int 0, .int 0, .int 0, .int 0]))] := hDn
  have hS := hSn
  clear hPn hDn hSn
  replace hP := hP.sub (ws' := [(hd, .inr (3, [.ref h, .int 0, .int (bI false), .int (bI false), .int 0, .int 0, .int (-1), .int 0, .int 0, .int 0, .int 0]))]) [0] rfl
  replace hD := hD.sub (ws' := [(hd, .inr (3, [.ref h, .int 0, .int (bI false), .int (bI false), .int 0, .int 0, .int (-1), .int 0, .int 0, .int 0, .int 0]))]) [0] (by decide) rfl
  refine W.widen (k := 0) (n := 0) (by omega) (by omega) ?_
  exact ar_vret hx hb hr hlocks hK hS () trivial hP hD d_De_init_29

set_option maxHeartbeats 4000000 in
set_option maxRecDepth 100000 in
theorem c_X_init (l : Launch) (E : Ev) (A : Nat → Prop) (x nx : Nat)  (p0 : Int32) (hnx : nx ≤ 65536) (hnx0 : (if 1 < (if p0 < 65536 then p0 else 65536) then (if p0 < 65536 then p0 else 65536) else 1) = nI nx) :
    Kt l y_X_init b_X_init 2 none 2 13 575535 E A [.ref x, .int p0] [(x, .inr (4, [.int 0, .null, .null, .null, .null, .null, .null, .int 0, .int (bI false), .int 0]))] (va_Qv (fun _ : Nat × Nat × Nat × Nat × Nat × Nat × Nat × Nat × Nat × Nat × Nat × Nat × Nat => True) (ar_W E A (fun u : Nat × Nat × Nat × Nat × Nat × Nat × Nat × Nat × Nat × Nat × Nat × Nat × Nat => [(x, .inr (4, [.int (nI nx), .ref u.1, .ref u.2.2.2.1, .ref u.2.2.2.2.2.2.1, .ref u.2.2.2.2.2.2.2.2.2.2.1, .ref u.2.2.2.2.2.2.2.2.2.2.2.1, .ref u.2.2.2.2.2.2.2.2.2.2.2.2, .int 0, .int (bI false), .int 1])), (u.1, .inr (1, [.ref u.2.1, .ref u.2.2.1])), (u.2.1, .inl (E.2.1 0, nx, .inl (fun _ => 0))), (u.2.2.1, .inl (E.2.1 0, 4096, .inl (fun _ => 0))), (u.2.2.2.1, .inr (1, [.ref u.2.2.2.2.1, .ref u.2.2.2.2.2.1])), (u.2.2.2.2.1, .inl (E.2.1 0, nx, .inl (fun _ => 0))), (u.2.2.2.2.2.1, .inl (E.2.1 0, 4096, .inl (fun _ => 0))), (u.2.2.2.2.2.2.1, .inr (0, [.ref u.2.2.2.2.2.2.2.1, .ref u.2.2.2.2.2.2.2.2.1, .ref u.2.2.2.2.2.2.2.2.2.1, .int 0, .int 1, .int 0])), (u.2.2.2.2.2.2.2.1, .inl (E.2.1 0, 42000, .inl (fun _ => 0))), (u.2.2.2.2.2.2.2.2.1, .inl (E.2.1 0, 513, .inl (fun _ => 0))), (u.2.2.2.2.2.2.2.2.2.1, .inl (E.2.1 1, 513, .inl (fun _ => 0))), (u.2.2.2.2.2.2.2.2.2.2.1, .inr (2, [.ref u.2.2.2.2.2.2.1, .int (bI false), .int 32768, .int 0, .int 12, .int 0, .int 0, .int 8])), (u.2.2.2.2.2.2.2.2.2.2.2.1, .inr (3, [.ref u.2.2.2.2.2.2.1, .int 0, .int (bI false), .int (bI false), .int 0, .int 0, .int (-1), .int 0, .int 0, .int 0, .int 0])), (u.2.2.2.2.2.2.2.2.2.2.2.2, .inl (E.2.1 0, (6 * nx), .inl (fun _ => 0)))])) A) := by
  refine Kt.of (by decide) (Nat.le_of_ble_eq_true rfl) ?_
  intro p e s m below meth c ls hx hb hml hown hts hr hlocks hex hin hA hZ hP hK hD hl
  have hS : va_S A s.heap s.heap [] := va_S.rf
  have hl : lv_has ls 2 [(0, .ref x), (1, .int p0)] := hl
  refine lv_aload_n hx hb d_X_init_0 rfl (lv_at hl 0 rfl) ?_
  refine W.objInit hx hb hown (hts _ m_22) (hts _ m_23) (hts _ m_24) rfl (by rw [hml]; exact hl.1) rfl d_X_init_1 (Nat.le_of_ble_eq_true rfl) (Nat.le_of_ble_eq_true rfl) ?_
  refine W.eq (g2 := F0 m 4 ls []) rfl ?_
  refine lv_aload_n hx hb d_X_init_4 rfl (lv_at hl 0 rfl) ?_
  refine lv_iconst (v := 1) hx hb d_X_init_5 (by decide) ?_
  refine lv_ldc (v := 65536) hx hb hown (hts _ m_25) d_X_init_6 ?_
  refine lv_iload_n hx hb d_X_init_8 rfl (lv_at hl 1 rfl) ?_
  refine va_mmin hx hb (hml.trans hl.1.symm) hown (hts _ m_26) (hts _ m_27) (hts _ m_2) (hts _ m_28) (Nat.le_of_ble_eq_true rfl) (Nat.le_of_ble_eq_true rfl) (Nat.zero_le _) (Nat.zero_le _) d_X_init_9 ?_
  refine va_mmax hx hb (hml.trans hl.1.symm) hown (hts _ m_29) (hts _ m_30) (hts _ m_2) (hts _ m_31) (Nat.le_of_ble_eq_true rfl) (Nat.le_of_ble_eq_true rfl) (Nat.zero_le _) (Nat.zero_le _) d_X_init_12 ?_
  refine lv_topi (fun x1 ex1 => ?_)
  have ex1 := ex1.trans hnx0
  subst ex1
  refine va_putF (D := E.1) (ci := 4) (v := .int (nI nx)) (ty := .int) (C := R_X) (T := T_X) (N := 10) hx hb hts in_X t_X t_X_ok n_X hown hK hP hD hS 0 rfl rfl 0 (by decide) (hts _ m_151) (fun _ h9 => h9) rfl hin rfl (by decide +kernel) rfl rfl (Nat.le_of_ble_eq_true rfl) d_X_init_15 (fun Hn locsn hPn hDn hSn => ?_)
  clear hP hD hS
  have hP : va_P E.1 classes [(x, .inr (4, [.int (nI nx), .null, .null, .null, .null, .null, .null, .int 0, .int (bI false), .int 0]))] Hn := hPn
  have hD : va_D A [(x, .inr (4, [.int (nI nx), .null, .null, .null, .null, .null, .null, .int 0, .int (bI false), .int 0]))] := hDn
  have hS := hSn
  clear hPn hDn hSn
  refine lv_aload_n hx hb d_X_init_18 rfl (lv_at hl 0 rfl) ?_
  refine va_new (D := E.1) (ci := 1) (fs := [.null, .null]) (C := R_Si) (T := T_Si) (N := 2) hx hb hts in_Si t_Si t_Si_ok hown (hts _ m_32) (hts _ m_33) (hts _ m_3) hK hP hD hS hA rfl (fun j hj => by rcases (show j = 0 ∨ j = 1 by omega) with rfl | rfl <;> rfl) (Nat.le_of_ble_eq_true rfl) (Nat.le_of_ble_eq_true rfl) d_X_init_19 (fun q2 Hn hPn hDn hSn => ?_)
  clear hP hD hS
  have hP : va_P E.1 classes [(x, .inr (4, [.int (nI nx), .null, .null, .null, .null, .null, .null, .int 0, .int (bI false), .int 0])), (q2, .inr (1, [.null, .null]))] Hn := hPn
  have hD : va_D A [(x, .inr (4, [.int (nI nx), .null, .null, .null, .null, .null, .null, .int 0, .int (bI false), .int 0])), (q2, .inr (1, [.null, .null]))] := hDn
  have hS := hSn
  clear hPn hDn hSn
  refine W.widen (k := 1) (n := 2) (by omega) (by omega) ?_
  refine lv_dup hx hb d_X_init_22 rfl ?_
  refine lv_aload_n hx hb d_X_init_23 rfl (lv_at hl 0 rfl) ?_
  refine va_get (D := E.1) (ci := 4) (v := .int (nI nx)) (C := R_X) (T := T_X) (N := 10) hx hb hts in_X hown hK hP 0 rfl rfl 0 (by decide) (hts _ m_151) (fun _ h9 => h9) rfl d_X_init_24 ?_
  refine ar_usev (wr := [(x, .inr (4, [.int (nI nx), .null, .null, .null, .null, .null, .null, .int 0, .int (bI false), .int 0]))]) hP hD hS hA [1] [0] rfl rfl rfl (by decide) (ar_runI (n := 1) (As := [.int (nI nx)]) (rest := [.ref q2, .ref x]) hx hb hml hown hts hP hD hS hA hK hZ (c_Si_init l E _ q2 nx hnx) m_34 m_35 m_3 m_36 rfl (by decide +kernel) ⟨Nat.le_of_ble_eq_true rfl, Nat.le_of_ble_eq_true rfl⟩ [1] rfl rfl rfl rfl hl.1 rfl (Nat.le_of_ble_eq_true rfl) d_X_init_27 ⟨Nat.le_of_ble_eq_true rfl, Nat.le_of_ble_eq_true rfl⟩) (fun u3 Hn locsn _ hPn hDn hSn => ?_)
  clear hP hD hS
  have hP : va_P E.1 classes [(x, .inr (4, [.int (nI nx), .null, .null, .null, .null, .null, .null, .int 0, .int (bI false), .int 0])), (q2, .inr (1, [.ref u3.1, .ref u3.2])), (u3.1, .inl (E.2.1 0, nx, .inl (fun _ => 0))), (u3.2, .inl (E.2.1 0, 4096, .inl (fun _ => 0)))] Hn := hPn
  have hD : va_D A [(x, .inr (4, [.int (nI nx), .null, .null, .null, .null, .null, .null, .int 0, .int (bI false), .int 0])), (q2, .inr (1, [.ref u3.1, .ref u3.2])), (u3.1, .inl (E.2.1 0, nx, .inl (fun _ => 0))), (u3.2, .inl (E.2.1 0, 4096, .inl (fun _ => 0)))] := hDn
  have hS := hSn
  clear hPn hDn hSn
  refine W.widen (k := 3) (n := 69634) (by omega) (by omega) ?_
  refine va_putF (D := E.1) (ci := 4) (v := .ref q2) (ty := (.object "ArithmeticRows$Side")) (C := R_X) (T := T_X) (N := 10) hx hb hts in_X t_X t_X_ok n_X hown hK hP hD hS 0 rfl rfl 1 (by decide) (hts _ m_152) (fun _ h9 => h9) rfl hin rfl (by decide +kernel) rfl rfl (Nat.le_of_ble_eq_true rfl) d_X_init_30 (fun Hn locsn hPn hDn hSn => ?_)
  clear hP hD hS
  have hP : va_P E.1 classes [(x, .inr (4, [.int (nI nx), .ref q2, .null, .null, .null, .null, .null, .int 0, .int (bI false), .int 0])), (q2, .inr (1, [.ref u3.1, .ref u3.2])), (u3.1, .inl (E.2.1 0, nx, .inl (fun _ => 0))), (u3.2, .inl (E.2.1 0, 4096, .inl (fun _ => 0)))] Hn := hPn
  have hD : va_D A [(x, .inr (4, [.int (nI nx), .ref q2, .null, .null, .null, .null, .null, .int 0, .int (bI false), .int 0])), (q2, .inr (1, [.ref u3.1, .ref u3.2])), (u3.1, .inl (E.2.1 0, nx, .inl (fun _ => 0))), (u3.2, .inl (E.2.1 0, 4096, .inl (fun _ => 0)))] := hDn
  have hS := hSn
  clear hPn hDn hSn
  refine lv_aload_n hx hb d_X_init_33 rfl (lv_at hl 0 rfl) ?_
  refine va_new (D := E.1) (ci := 1) (fs := [.null, .null]) (C := R_Si) (T := T_Si) (N := 2) hx hb hts in_Si t_Si t_Si_ok hown (hts _ m_32) (hts _ m_33) (hts _ m_3) hK hP hD hS hA rfl (fun j hj => by rcases (show j = 0 ∨ j = 1 by omega) with rfl | rfl <;> rfl) (Nat.le_of_ble_eq_true rfl) (Nat.le_of_ble_eq_true rfl) d_X_init_34 (fun q4 Hn hPn hDn hSn => ?_)
  clear hP hD hS
  have hP : va_P E.1 classes [(x, .inr (4, [.int (nI nx), .ref q2, .null, .null, .null, .null, .null, .int 0, .int (bI false), .int 0])), (q2, .inr (1, [.ref u3.1, .ref u3.2])), (u3.1, .inl (E.2.1 0, nx, .inl (fun _ => 0))), (u3.2, .inl (E.2.1 0, 4096, .inl (fun _ => 0))), (q4, .inr (1, [.null, .null]))] Hn := hPn
  have hD : va_D A [(x, .inr (4, [.int (nI nx), .ref q2, .null, .null, .null, .null, .null, .int 0, .int (bI false), .int 0])), (q2, .inr (1, [.ref u3.1, .ref u3.2])), (u3.1, .inl (E.2.1 0, nx, .inl (fun _ => 0))), (u3.2, .inl (E.2.1 0, 4096, .inl (fun _ => 0))), (q4, .inr (1, [.null, .null]))] := hDn
  have hS := hSn
  clear hPn hDn hSn
  refine W.widen (k := 4) (n := 69636) (by omega) (by omega) ?_
  refine lv_dup hx hb d_X_init_37 rfl ?_
  refine lv_aload_n hx hb d_X_init_38 rfl (lv_at hl 0 rfl) ?_
  refine va_get (D := E.1) (ci := 4) (v := .int (nI nx)) (C := R_X) (T := T_X) (N := 10) hx hb hts in_X hown hK hP 0 rfl rfl 0 (by decide) (hts _ m_151) (fun _ h9 => h9) rfl d_X_init_39 ?_
  refine ar_usev (wr := [(x, .inr (4, [.int (nI nx), .ref q2, .null, .null, .null, .null, .null, .int 0, .int (bI false), .int 0])), (q2, .inr (1, [.ref u3.1, .ref u3.2])), (u3.1, .inl (E.2.1 0, nx, .inl (fun _ => 0))), (u3.2, .inl (E.2.1 0, 4096, .inl (fun _ => 0)))]) hP hD hS hA [4] [0, 1, 2, 3] rfl rfl rfl (by decide) (ar_runI (n := 1) (As := [.int (nI nx)]) (rest := [.ref q4, .ref x]) hx hb hml hown hts hP hD hS hA hK hZ (c_Si_init l E _ q4 nx hnx) m_34 m_35 m_3 m_36 rfl (by decide +kernel) ⟨Nat.le_of_ble_eq_true rfl, Nat.le_of_ble_eq_true rfl⟩ [4] rfl rfl rfl rfl hl.1 rfl (Nat.le_of_ble_eq_true rfl) d_X_init_42 ⟨Nat.le_of_ble_eq_true rfl, Nat.le_of_ble_eq_true rfl⟩) (fun u5 Hn locsn _ hPn hDn hSn => ?_)
  clear hP hD hS
  have hP : va_P E.1 classes [(x, .inr (4, [.int (nI nx), .ref q2, .null, .null, .null, .null, .null, .int 0, .int (bI false), .int 0])), (q2, .inr (1, [.ref u3.1, .ref u3.2])), (u3.1, .inl (E.2.1 0, nx, .inl (fun _ => 0))), (u3.2, .inl (E.2.1 0, 4096, .inl (fun _ => 0))), (q4, .inr (1, [.ref u5.1, .ref u5.2])), (u5.1, .inl (E.2.1 0, nx, .inl (fun _ => 0))), (u5.2, .inl (E.2.1 0, 4096, .inl (fun _ => 0)))] Hn := hPn
  have hD : va_D A [(x, .inr (4, [.int (nI nx), .ref q2, .null, .null, .null, .null, .null, .int 0, .int (bI false), .int 0])), (q2, .inr (1, [.ref u3.1, .ref u3.2])), (u3.1, .inl (E.2.1 0, nx, .inl (fun _ => 0))), (u3.2, .inl (E.2.1 0, 4096, .inl (fun _ => 0))), (q4, .inr (1, [.ref u5.1, .ref u5.2])), (u5.1, .inl (E.2.1 0, nx, .inl (fun _ => 0))), (u5.2, .inl (E.2.1 0, 4096, .inl (fun _ => 0)))] := hDn
  have hS := hSn
  clear hPn hDn hSn
  refine W.widen (k := 6) (n := 139268) (by omega) (by omega) ?_
  refine va_putF (D := E.1) (ci := 4) (v := .ref q4) (ty := (.object "ArithmeticRows$Side")) (C := R_X) (T := T_X) (N := 10) hx hb hts in_X t_X t_X_ok n_X hown hK hP hD hS 0 rfl rfl 2 (by decide) (hts _ m_153) (fun _ h9 => h9) rfl hin rfl (by decide +kernel) rfl rfl (Nat.le_of_ble_eq_true rfl) d_X_init_45 (fun Hn locsn hPn hDn hSn => ?_)
  clear hP hD hS
  have hP : va_P E.1 classes [(x, .inr (4, [.int (nI nx), .ref q2, .ref q4, .null, .null, .null, .null, .int 0, .int (bI false), .int 0])), (q2, .inr (1, [.ref u3.1, .ref u3.2])), (u3.1, .inl (E.2.1 0, nx, .inl (fun _ => 0))), (u3.2, .inl (E.2.1 0, 4096, .inl (fun _ => 0))), (q4, .inr (1, [.ref u5.1, .ref u5.2])), (u5.1, .inl (E.2.1 0, nx, .inl (fun _ => 0))), (u5.2, .inl (E.2.1 0, 4096, .inl (fun _ => 0)))] Hn := hPn
  have hD : va_D A [(x, .inr (4, [.int (nI nx), .ref q2, .ref q4, .null, .null, .null, .null, .int 0, .int (bI false), .int 0])), (q2, .inr (1, [.ref u3.1, .ref u3.2])), (u3.1, .inl (E.2.1 0, nx, .inl (fun _ => 0))), (u3.2, .inl (E.2.1 0, 4096, .inl (fun _ => 0))), (q4, .inr (1, [.ref u5.1, .ref u5.2])), (u5.1, .inl (E.2.1 0, nx, .inl (fun _ => 0))), (u5.2, .inl (E.2.1 0, 4096, .inl (fun _ => 0)))] := hDn
  have hS := hSn
  clear hPn hDn hSn
  refine lv_aload_n hx hb d_X_init_48 rfl (lv_at hl 0 rfl) ?_
  refine va_new (D := E.1) (ci := 0) (fs := [.null, .null, .null, .int 0, .int 0, .int 0]) (C := R_Ro) (T := T_Ro) (N := 6) hx hb hts in_Ro t_Ro t_Ro_ok hown (hts _ m_48) (hts _ m_49) (hts _ m_4) hK hP hD hS hA rfl (fun j hj => by rcases (show j = 0 ∨ j = 1 ∨ j = 2 ∨ j = 3 ∨ j = 4 ∨ j = 5 by omega) with rfl | rfl | rfl | rfl | rfl | rfl <;> rfl) (Nat.le_of_ble_eq_true rfl) (Nat.le_of_ble_eq_true rfl) d_X_init_49 (fun q6 Hn hPn hDn hSn => ?_)
  clear hP hD hS
  have hP : va_P E.1 classes [(x, .inr (4, [.int (nI nx), .ref q2, .ref q4, .null, .null, .null, .null, .int 0, .int (bI false), .int 0])), (q2, .inr (1, [.ref u3.1, .ref u3.2])), (u3.1, .inl (E.2.1 0, nx, .inl (fun _ => 0))), (u3.2, .inl (E.2.1 0, 4096, .inl (fun _ => 0))), (q4, .inr (1, [.ref u5.1, .ref u5.2])), (u5.1, .inl (E.2.1 0, nx, .inl (fun _ => 0))), (u5.2, .inl (E.2.1 0, 4096, .inl (fun _ => 0))), (q6, .inr (0, [.null, .null, .null, .int 0, .int 0, .int 0]))] Hn := hPn
  have hD : va_D A [(x, .inr (4, [.int (nI nx), .ref q2, .ref q4, .null, .null, .null, .null, .int 0, .int (bI false), .int 0])), (q2, .inr (1, [.ref u3.1, .ref u3.2])), (u3.1, .inl (E.2.1 0, nx, .inl (fun _ => 0))), (u3.2, .inl (E.2.1 0, 4096, .inl (fun _ => 0))), (q4, .inr (1, [.ref u5.1, .ref u5.2])), (u5.1, .inl (E.2.1 0, nx, .inl (fun _ => 0))), (u5.2, .inl (E.2.1 0, 4096, .inl (fun _ => 0))), (q6, .inr (0, [.null, .null, .null, .int 0, .int 0, .int 0]))] := hDn
  have hS := hSn
  clear hPn hDn hSn
  refine W.widen (k := 7) (n := 139274) (by omega) (by omega) ?_
  refine lv_dup hx hb d_X_init_52 rfl ?_
  refine ar_usev (wr := [(x, .inr (4, [.int (nI nx), .ref q2, .ref q4, .null, .null, .null, .null, .int 0, .int (bI false), .int 0])), (q2, .inr (1, [.ref u3.1, .ref u3.2])), (u3.1, .inl (E.2.1 0, nx, .inl (fun _ => 0))), (u3.2, .inl (E.2.1 0, 4096, .inl (fun _ => 0))), (q4, .inr (1, [.ref u5.1, .ref u5.2])), (u5.1, .inl (E.2.1 0, nx, .inl (fun _ => 0))), (u5.2, .inl (E.2.1 0, 4096, .inl (fun _ => 0)))]) hP hD hS hA [7] [0, 1, 2, 3, 4, 5, 6] rfl rfl rfl (by decide) (ar_runI (n := 0) (As := []) (rest := [.ref q6, .ref x]) hx hb hml hown hts hP hD hS hA hK hZ (c_Ro_init l E _ q6 ) m_50 m_51 m_4 m_52 rfl (by decide +kernel) ⟨Nat.le_of_ble_eq_true rfl, Nat.le_of_ble_eq_true rfl⟩ [7] rfl rfl rfl rfl hl.1 rfl (Nat.le_of_ble_eq_true rfl) d_X_init_53 ⟨Nat.le_of_ble_eq_true rfl, Nat.le_of_ble_eq_true rfl⟩) (fun u7 Hn locsn _ hPn hDn hSn => ?_)
  clear hP hD hS
  have hP : va_P E.1 classes [(x, .inr (4, [.int (nI nx), .ref q2, .ref q4, .null, .null, .null, .null, .int 0, .int (bI false), .int 0])), (q2, .inr (1, [.ref u3.1, .ref u3.2])), (u3.1, .inl (E.2.1 0, nx, .inl (fun _ => 0))), (u3.2, .inl (E.2.1 0, 4096, .inl (fun _ => 0))), (q4, .inr (1, [.ref u5.1, .ref u5.2])), (u5.1, .inl (E.2.1 0, nx, .inl (fun _ => 0))), (u5.2, .inl (E.2.1 0, 4096, .inl (fun _ => 0))), (q6, .inr (0, [.ref u7.1, .ref u7.2.1, .ref u7.2.2, .int 0, .int 1, .int 0])), (u7.1, .inl (E.2.1 0, 42000, .inl (fun _ => 0))), (u7.2.1, .inl (E.2.1 0, 513, .inl (fun _ => 0))), (u7.2.2, .inl (E.2.1 1, 513, .inl (fun _ => 0)))] Hn := hPn
  have hD : va_D A [(x, .inr (4, [.int (nI nx), .ref q2, .ref q4, .null, .null, .null, .null, .int 0, .int (bI false), .int 0])), (q2, .inr (1, [.ref u3.1, .ref u3.2])), (u3.1, .inl (E.2.1 0, nx, .inl (fun _ => 0))), (u3.2, .inl (E.2.1 0, 4096, .inl (fun _ => 0))), (q4, .inr (1, [.ref u5.1, .ref u5.2])), (u5.1, .inl (E.2.1 0, nx, .inl (fun _ => 0))), (u5.2, .inl (E.2.1 0, 4096, .inl (fun _ => 0))), (q6, .inr (0, [.ref u7.1, .ref u7.2.1, .ref u7.2.2, .int 0, .int 1, .int 0])), (u7.1, .inl (E.2.1 0, 42000, .inl (fun _ => 0))), (u7.2.1, .inl (E.2.1 0, 513, .inl (fun _ => 0))), (u7.2.2, .inl (E.2.1 1, 513, .inl (fun _ => 0)))] := hDn
  have hS := hSn
  clear hPn hDn hSn
  refine W.widen (k := 10) (n := 182300) (by omega) (by omega) ?_
  refine va_putF (D := E.1) (ci := 4) (v := .ref q6) (ty := (.object "ArithmeticRows$Row")) (C := R_X) (T := T_X) (N := 10) hx hb hts in_X t_X t_X_ok n_X hown hK hP hD hS 0 rfl rfl 3 (by decide) (hts _ m_154) (fun _ h9 => h9) rfl hin rfl (by decide +kernel) rfl rfl (Nat.le_of_ble_eq_true rfl) d_X_init_56 (fun Hn locsn hPn hDn hSn => ?_)
  clear hP hD hS
  have hP : va_P E.1 classes [(x, .inr (4, [.int (nI nx), .ref q2, .ref q4, .ref q6, .null, .null, .null, .int 0, .int (bI false), .int 0])), (q2, .inr (1, [.ref u3.1, .ref u3.2])), (u3.1, .inl (E.2.1 0, nx, .inl (fun _ => 0))), (u3.2, .inl (E.2.1 0, 4096, .inl (fun _ => 0))), (q4, .inr (1, [.ref u5.1, .ref u5.2])), (u5.1, .inl (E.2.1 0, nx, .inl (fun _ => 0))), (u5.2, .inl (E.2.1 0, 4096, .inl (fun _ => 0))), (q6, .inr (0, [.ref u7.1, .ref u7.2.1, .ref u7.2.2, .int 0, .int 1, .int 0])), (u7.1, .inl (E.2.1 0, 42000, .inl (fun _ => 0))), (u7.2.1, .inl (E.2.1 0, 513, .inl (fun _ => 0))), (u7.2.2, .inl (E.2.1 1, 513, .inl (fun _ => 0)))] Hn := hPn
  have hD : va_D A [(x, .inr (4, [.int (nI nx), .ref q2, .ref q4, .ref q6, .null, .null, .null, .int 0, .int (bI false), .int 0])), (q2, .inr (1, [.ref u3.1, .ref u3.2])), (u3.1, .inl (E.2.1 0, nx, .inl (fun _ => 0))), (u3.2, .inl (E.2.1 0, 4096, .inl (fun _ => 0))), (q4, .inr (1, [.ref u5.1, .ref u5.2])), (u5.1, .inl (E.2.1 0, nx, .inl (fun _ => 0))), (u5.2, .inl (E.2.1 0, 4096, .inl (fun _ => 0))), (q6, .inr (0, [.ref u7.1, .ref u7.2.1, .ref u7.2.2, .int 0, .int 1, .int 0])), (u7.1, .inl (E.2.1 0, 42000, .inl (fun _ => 0))), (u7.2.1, .inl (E.2.1 0, 513, .inl (fun _ => 0))), (u7.2.2, .inl (E.2.1 1, 513, .inl (fun _ => 0)))] := hDn
  have hS := hSn
  clear hPn hDn hSn
  refine lv_aload_n hx hb d_X_init_59 rfl (lv_at hl 0 rfl) ?_
  refine va_new (D := E.1) (ci := 2) (fs := [.null, .int (bI false), .int 0, .int 0, .int 0, .int 0, .int 0, .int 0]) (C := R_En) (T := T_En) (N := 8) hx hb hts in_En t_En t_En_ok hown (hts _ m_75) (hts _ m_76) (hts _ m_5) hK hP hD hS hA rfl (fun j hj => by rcases (show j = 0 ∨ j = 1 ∨ j = 2 ∨ j = 3 ∨ j = 4 ∨ j = 5 ∨ j = 6 ∨ j = 7 by omega) with rfl | rfl | rfl | rfl | rfl | rfl | rfl | rfl <;> rfl) (Nat.le_of_ble_eq_true rfl) (Nat.le_of_ble_eq_true rfl) d_X_init_60 (fun q8 Hn hPn hDn hSn => ?_)
  clear hP hD hS
  have hP : va_P E.1 classes [(x, .inr (4, [.int (nI nx), .ref q2, .ref q4, .ref q6, .null, .null, .null, .int 0, .int (bI false), .int 0])), (q2, .inr (1, [.ref u3.1, .ref u3.2])), (u3.1, .inl (E.2.1 0, nx, .inl (fun _ => 0))), (u3.2, .inl (E.2.1 0, 4096, .inl (fun _ => 0))), (q4, .inr (1, [.ref u5.1, .ref u5.2])), (u5.1, .inl (E.2.1 0, nx, .inl (fun _ => 0))), (u5.2, .inl (E.2.1 0, 4096, .inl (fun _ => 0))), (q6, .inr (0, [.ref u7.1, .ref u7.2.1, .ref u7.2.2, .int 0, .int 1, .int 0])), (u7.1, .inl (E.2.1 0, 42000, .inl (fun _ => 0))), (u7.2.1, .inl (E.2.1 0, 513, .inl (fun _ => 0))), (u7.2.2, .inl (E.2.1 1, 513, .inl (fun _ => 0))), (q8, .inr (2, [.null, .int (bI false), .int 0, .int 0, .int 0, .int 0, .int 0, .int 0]))] Hn := hPn
  have hD : va_D A [(x, .inr (4, [.int (nI nx), .ref q2, .ref q4, .ref q6, .null, .null, .null, .int 0, .int (bI false), .int 0])), (q2, .inr (1, [.ref u3.1, .ref u3.2])), (u3.1, .inl (E.2.1 0, nx, .inl (fun _ => 0))), (u3.2, .inl (E.2.1 0, 4096, .inl (fun _ => 0))), (q4, .inr (1, [.ref u5.1, .ref u5.2])), (u5.1, .inl (E.2.1 0, nx, .inl (fun _ => 0))), (u5.2, .inl (E.2.1 0, 4096, .inl (fun _ => 0))), (q6, .inr (0, [.ref u7.1, .ref u7.2.1, .ref u7.2.2, .int 0, .int 1, .int 0])), (u7.1, .inl (E.2.1 0, 42000, .inl (fun _ => 0))), (u7.2.1, .inl (E.2.1 0, 513, .inl (fun _ => 0))), (u7.2.2, .inl (E.2.1 1, 513, .inl (fun _ => 0))), (q8, .inr (2, [.null, .int (bI false), .int 0, .int 0, .int 0, .int 0, .int 0, .int 0]))] := hDn
  have hS := hSn
  clear hPn hDn hSn
  refine W.widen (k := 11) (n := 182308) (by omega) (by omega) ?_
  refine lv_dup hx hb d_X_init_63 rfl ?_
  refine lv_aload_n hx hb d_X_init_64 rfl (lv_at hl 0 rfl) ?_
  refine va_get (D := E.1) (ci := 4) (v := .ref q6) (C := R_X) (T := T_X) (N := 10) hx hb hts in_X hown hK hP 0 rfl rfl 3 (by decide) (hts _ m_154) (fun _ h9 => h9) rfl d_X_init_65 ?_
  refine ar_usev (wr := [(x, .inr (4, [.int (nI nx), .ref q2, .ref q4, .ref q6, .null, .null, .null, .int 0, .int (bI false), .int 0])), (q2, .inr (1, [.ref u3.1, .ref u3.2])), (u3.1, .inl (E.2.1 0, nx, .inl (fun _ => 0))), (u3.2, .inl (E.2.1 0, 4096, .inl (fun _ => 0))), (q4, .inr (1, [.ref u5.1, .ref u5.2])), (u5.1, .inl (E.2.1 0, nx, .inl (fun _ => 0))), (u5.2, .inl (E.2.1 0, 4096, .inl (fun _ => 0))), (q6, .inr (0, [.ref u7.1, .ref u7.2.1, .ref u7.2.2, .int 0, .int 1, .int 0])), (u7.1, .inl (E.2.1 0, 42000, .inl (fun _ => 0))), (u7.2.1, .inl (E.2.1 0, 513, .inl (fun _ => 0))), (u7.2.2, .inl (E.2.1 1, 513, .inl (fun _ => 0)))]) hP hD hS hA [11] [0, 1, 2, 3, 4, 5, 6, 7, 8, 9, 10] rfl rfl rfl (by decide) (ar_runI (n := 1) (As := [.ref q6]) (rest := [.ref q8, .ref x]) hx hb hml hown hts hP hD hS hA hK hZ (c_En_init l E _ q8 q6 ) m_77 m_78 m_5 m_79 rfl (by decide +kernel) ⟨Nat.le_of_ble_eq_true rfl, Nat.le_of_ble_eq_true rfl⟩ [11] rfl rfl rfl rfl hl.1 rfl (Nat.le_of_ble_eq_true rfl) d_X_init_68 ⟨Nat.le_of_ble_eq_true rfl, Nat.le_of_ble_eq_true rfl⟩) (fun u9 Hn locsn _ hPn hDn hSn => ?_)
  clear hP hD hS
  have hP : va_P E.1 classes [(x, .inr (4, [.int (nI nx), .ref q2, .ref q4, .ref q6, .null, .null, .null, .int 0, .int (bI false), .int 0])), (q2, .inr (1, [.ref u3.1, .ref u3.2])), (u3.1, .inl (E.2.1 0, nx, .inl (fun _ => 0))), (u3.2, .inl (E.2.1 0, 4096, .inl (fun _ => 0))), (q4, .inr (1, [.ref u5.1, .ref u5.2])), (u5.1, .inl (E.2.1 0, nx, .inl (fun _ => 0))), (u5.2, .inl (E.2.1 0, 4096, .inl (fun _ => 0))), (q6, .inr (0, [.ref u7.1, .ref u7.2.1, .ref u7.2.2, .int 0, .int 1, .int 0])), (u7.1, .inl (E.2.1 0, 42000, .inl (fun _ => 0))), (u7.2.1, .inl (E.2.1 0, 513, .inl (fun _ => 0))), (u7.2.2, .inl (E.2.1 1, 513, .inl (fun _ => 0))), (q8, .inr (2, [.ref q6, .int (bI false), .int 32768, .int 0, .int 12, .int 0, .int 0, .int 8]))] Hn := hPn
  have hD : va_D A [(x, .inr (4, [.int (nI nx), .ref q2, .ref q4, .ref q6, .null, .null, .null, .int 0, .int (bI false), .int 0])), (q2, .inr (1, [.ref u3.1, .ref u3.2])), (u3.1, .inl (E.2.1 0, nx, .inl (fun _ => 0))), (u3.2, .inl (E.2.1 0, 4096, .inl (fun _ => 0))), (q4, .inr (1, [.ref u5.1, .ref u5.2])), (u5.1, .inl (E.2.1 0, nx, .inl (fun _ => 0))), (u5.2, .inl (E.2.1 0, 4096, .inl (fun _ => 0))), (q6, .inr (0, [.ref u7.1, .ref u7.2.1, .ref u7.2.2, .int 0, .int 1, .int 0])), (u7.1, .inl (E.2.1 0, 42000, .inl (fun _ => 0))), (u7.2.1, .inl (E.2.1 0, 513, .inl (fun _ => 0))), (u7.2.2, .inl (E.2.1 1, 513, .inl (fun _ => 0))), (q8, .inr (2, [.ref q6, .int (bI false), .int 32768, .int 0, .int 12, .int 0, .int 0, .int 8]))] := hDn
  have hS := hSn
  clear hPn hDn hSn
  refine W.widen (k := 11) (n := 182308) (by omega) (by omega) ?_
  refine va_putF (D := E.1) (ci := 4) (v := .ref q8) (ty := (.object "ArithmeticRows$Encoder")) (C := R_X) (T := T_X) (N := 10) hx hb hts in_X t_X t_X_ok n_X hown hK hP hD hS 0 rfl rfl 4 (by decide) (hts _ m_155) (fun _ h9 => h9) rfl hin rfl (by decide +kernel) rfl rfl (Nat.le_of_ble_eq_true rfl) d_X_init_71 (fun Hn locsn hPn hDn hSn => ?_)
  clear hP hD hS
  have hP : va_P E.1 classes [(x, .inr (4, [.int (nI nx), .ref q2, .ref q4, .ref q6, .ref q8, .null, .null, .int 0, .int (bI false), .int 0])), (q2, .inr (1, [.ref u3.1, .ref u3.2])), (u3.1, .inl (E.2.1 0, nx, .inl (fun _ => 0))), (u3.2, .inl (E.2.1 0, 4096, .inl (fun _ => 0))), (q4, .inr (1, [.ref u5.1, .ref u5.2])), (u5.1, .inl (E.2.1 0, nx, .inl (fun _ => 0))), (u5.2, .inl (E.2.1 0, 4096, .inl (fun _ => 0))), (q6, .inr (0, [.ref u7.1, .ref u7.2.1, .ref u7.2.2, .int 0, .int 1, .int 0])), (u7.1, .inl (E.2.1 0, 42000, .inl (fun _ => 0))), (u7.2.1, .inl (E.2.1 0, 513, .inl (fun _ => 0))), (u7.2.2, .inl (E.2.1 1, 513, .inl (fun _ => 0))), (q8, .inr (2, [.ref q6, .int (bI false), .int 32768, .int 0, .int 12, .int 0, .int 0, .int 8]))] Hn := hPn
  have hD : va_D A [(x, .inr (4, [.int (nI nx), .ref q2, .ref q4, .ref q6, .ref q8, .null, .null, .int 0, .int (bI false), .int 0])), (q2, .inr (1, [.ref u3.1, .ref u3.2])), (u3.1, .inl (E.2.1 0, nx, .inl (fun _ => 0))), (u3.2, .inl (E.2.1 0, 4096, .inl (fun _ => 0))), (q4, .inr (1, [.ref u5.1, .ref u5.2])), (u5.1, .inl (E.2.1 0, nx, .inl (fun _ => 0))), (u5.2, .inl (E.2.1 0, 4096, .inl (fun _ => 0))), (q6, .inr (0, [.ref u7.1, .ref u7.2.1, .ref u7.2.2, .int 0, .int 1, .int 0])), (u7.1, .inl (E.2.1 0, 42000, .inl (fun _ => 0))), (u7.2.1, .inl (E.2.1 0, 513, .inl (fun _ => 0))), (u7.2.2, .inl (E.2.1 1, 513, .inl (fun _ => 0))), (q8, .inr (2, [.ref q6, .int (bI false), .int 32768, .int 0, .int 12, .int 0, .int 0, .int 8]))] := hDn
  have hS := hSn
  clear hPn hDn hSn
  refine lv_aload_n hx hb d_X_init_74 rfl (lv_at hl 0 rfl) ?_
  refine va_new (D := E.1) (ci := 3) (fs := [.null, .int 0, .int (bI false), .int (bI false), .int 0, .int 0, .int 0, .int 0, .int 0, .int 0, .int 0]) (C := R_De) (T := T_De) (N := 11) hx hb hts in_De t_De t_De_ok hown (hts _ m_111) (hts _ m_112) (hts _ m_6) hK hP hD hS hA rfl (fun j hj => by rcases (show j = 0 ∨ j = 1 ∨ j = 2 ∨ j = 3 ∨ j = 4 ∨ j = 5 ∨ j = 6 ∨ j = 7 ∨ j = 8 ∨ j = 9 ∨ j = 10 by omega) with rfl | rfl | rfl | rfl | rfl | rfl | rfl | rfl | rfl | rfl | rfl <;> rfl) (Nat.le_of_ble_eq_true rfl) (Nat.le_of_ble_eq_true rfl) d_X_init_75 (fun q10 Hn hPn hDn hSn => ?_)
  clear hP hD hS
  have hP : va_P E.1 classes [(x, .inr (4, [.int (nI nx), .ref q2, .ref q4, .ref q6, .ref q8, .null, .null, .int 0, .int (bI false), .int 0])), (q2, .inr (1, [.ref u3.1, .ref u3.2])), (u3.1, .inl (E.2.1 0, nx, .inl (fun _ => 0))), (u3.2, .inl (E.2.1 0, 4096, .inl (fun _ => 0))), (q4, .inr (1, [.ref u5.1, .ref u5.2])), (u5.1, .inl (E.2.1 0, nx, .inl (fun _ => 0))), (u5.2, .inl (E.2.1 0, 4096, .inl (fun _ => 0))), (q6, .inr (0, [.ref u7.1, .ref u7.2.1, .ref u7.2.2, .int 0, .int 1, .int 0])), (u7.1, .inl (E.2.1 0, 42000, .inl (fun _ => 0))), (u7.2.1, .inl (E.2.1 0, 513, .inl (fun _ => 0))), (u7.2.2, .inl (E.2.1 1, 513, .inl (fun _ => 0))), (q8, .inr (2, [.ref q6, .int (bI false), .int 32768, .int 0, .int 12, .int 0, .int 0, .int 8])), (q10, .inr (3, [.null, .int 0, .int (bI false), .int (bI false), .int 0, .int 0, .int 0, .int 0, .int 0, .int 0, .int 0]))] Hn := hPn
  have hD : va_D A [(x, .inr (4, [.int (nI nx), .ref q2, .ref q4, .ref q6, .ref q8, .null, .null, .int 0, .int (bI false), .int 0])), (q2, .inr (1, [.ref u3.1, .ref u3.2])), (u3.1, .inl (E.2.1 0, nx, .inl (fun _ => 0))), (u3.2, .inl (E.2.1 0, 4096, .inl (fun _ => 0))), (q4, .inr (1, [.ref u5.1, .ref u5.2])), (u5.1, .inl (E.2.1 0, nx, .inl (fun _ => 0))), (u5.2, .inl (E.2.1 0, 4096, .inl (fun _ => 0))), (q6, .inr (0, [.ref u7.1, .ref u7.2.1, .ref u7.2.2, .int 0, .int 1, .int 0])), (u7.1, .inl (E.2.1 0, 42000, .inl (fun _ => 0))), (u7.2.1, .inl (E.2.1 0, 513, .inl (fun _ => 0))), (u7.2.2, .inl (E.2.1 1, 513, .inl (fun _ => 0))), (q8, .inr (2, [.ref q6, .int (bI false), .int 32768, .int 0, .int 12, .int 0, .int 0, .int 8])), (q10, .inr (3, [.null, .int 0, .int (bI false), .int (bI false), .int 0, .int 0, .int 0, .int 0, .int 0, .int 0, .int 0]))] := hDn
  have hS := hSn
  clear hPn hDn hSn
  refine W.widen (k := 12) (n := 182319) (by omega) (by omega) ?_
  refine lv_dup hx hb d_X_init_78 rfl ?_
  refine lv_aload_n hx hb d_X_init_79 rfl (lv_at hl 0 rfl) ?_
  refine va_get (D := E.1) (ci := 4) (v := .ref q6) (C := R_X) (T := T_X) (N := 10) hx hb hts in_X hown hK hP 0 rfl rfl 3 (by decide) (hts _ m_154) (fun _ h9 => h9) rfl d_X_init_80 ?_
  refine ar_usev (wr := [(x, .inr (4, [.int (nI nx), .ref q2, .ref q4, .ref q6, .ref q8, .null, .null, .int 0, .int (bI false), .int 0])), (q2, .inr (1, [.ref u3.1, .ref u3.2])), (u3.1, .inl (E.2.1 0, nx, .inl (fun _ => 0))), (u3.2, .inl (E.2.1 0, 4096, .inl (fun _ => 0))), (q4, .inr (1, [.ref u5.1, .ref u5.2])), (u5.1, .inl (E.2.1 0, nx, .inl (fun _ => 0))), (u5.2, .inl (E.2.1 0, 4096, .inl (fun _ => 0))), (q6, .inr (0, [.ref u7.1, .ref u7.2.1, .ref u7.2.2, .int 0, .int 1, .int 0])), (u7.1, .inl (E.2.1 0, 42000, .inl (fun _ => 0))), (u7.2.1, .inl (E.2.1 0, 513, .inl (fun _ => 0))), (u7.2.2, .inl (E.2.1 1, 513, .inl (fun _ => 0))), (q8, .inr (2, [.ref q6, .int (bI false), .int 32768, .int 0, .int 12, .int 0, .int 0, .int 8]))]) hP hD hS hA [12] [0, 1, 2, 3, 4, 5, 6, 7, 8, 9, 10, 11] rfl rfl rfl (by decide) (ar_runI (n := 1) (As := [.ref q6]) (rest := [.ref q10, .ref x]) hx hb hml hown hts hP hD hS hA hK hZ (c_De_init l E _ q10 q6 ) m_113 m_114 m_6 m_115 rfl (by decide +kernel) ⟨Nat.le_of_ble_eq_true rfl, Nat.le_of_ble_eq_true rfl⟩ [12] rfl rfl rfl rfl hl.1 rfl (Nat.le_of_ble_eq_true rfl) d_X_init_83 ⟨Nat.le_of_ble_eq_true rfl, Nat.le_of_ble_eq_true rfl⟩) (fun u11 Hn locsn _ hPn hDn hSn => ?_)
  clear hP hD hS
  have hP : va_P E.1 classes [(x, .inr (4, [.int (nI nx), .ref q2, .ref q4, .ref q6, .ref q8, .null, .null, .int 0, .int (bI false), .int 0])), (q2, .inr (1, [.ref u3.1, .ref u3.2])), (u3.1, .inl (E.2.1 0, nx, .inl (fun _ => 0))), (u3.2, .inl (E.2.1 0, 4096, .inl (fun _ => 0))), (q4, .inr (1, [.ref u5.1, .ref u5.2])), (u5.1, .inl (E.2.1 0, nx, .inl (fun _ => 0))), (u5.2, .inl (E.2.1 0, 4096, .inl (fun _ => 0))), (q6, .inr (0, [.ref u7.1, .ref u7.2.1, .ref u7.2.2, .int 0, .int 1, .int 0])), (u7.1, .inl (E.2.1 0, 42000, .inl (fun _ => 0))), (u7.2.1, .inl (E.2.1 0, 513, .inl (fun _ => 0))), (u7.2.2, .inl (E.2.1 1, 513, .inl (fun _ => 0))), (q8, .inr (2, [.ref q6, .int (bI false), .int 32768, .int 0, .int 12, .int 0, .int 0, .int 8])), (q10, .inr (3, [.ref q6, .int 0, .int (bI false), .int (bI false), .int 0, .int 0, .int (-1), .int 0, .int 0, .int 0, .int 0]))] Hn := hPn
  have hD : va_D A [(x, .inr (4, [.int (nI nx), .ref q2, .ref q4, .ref q6, .ref q8, .null, .null, .int 0, .int (bI false), .int 0])), (q2, .inr (1, [.ref u3.1, .ref u3.2])), (u3.1, .inl (E.2.1 0, nx, .inl (fun _ => 0))), (u3.2, .inl (E.2.1 0, 4096, .inl (fun _ => 0))), (q4, .inr (1, [.ref u5.1, .ref u5.2])), (u5.1, .inl (E.2.1 0, nx, .inl (fun _ => 0))), (u5.2, .inl (E.2.1 0, 4096, .inl (fun _ => 0))), (q6, .inr (0, [.ref u7.1, .ref u7.2.1, .ref u7.2.2, .int 0, .int 1, .int 0])), (u7.1, .inl (E.2.1 0, 42000, .inl (fun _ => 0))), (u7.2.1, .inl (E.2.1 0, 513, .inl (fun _ => 0))), (u7.2.2, .inl (E.2.1 1, 513, .inl (fun _ => 0))), (q8, .inr (2, [.ref q6, .int (bI false), .int 32768, .int 0, .int 12, .int 0, .int 0, .int 8])), (q10, .inr (3, [.ref q6, .int 0, .int (bI false), .int (bI false), .int 0, .int 0, .int (-1), .int 0, .int 0, .int 0, .int 0]))] := hDn
  have hS := hSn
  clear hPn hDn hSn
  refine W.widen (k := 12) (n := 182319) (by omega) (by omega) ?_
  refine va_putF (D := E.1) (ci := 4) (v := .ref q10) (ty := (.object "ArithmeticRows$Decoder")) (C := R_X) (T := T_X) (N := 10) hx hb hts in_X t_X t_X_ok n_X hown hK hP hD hS 0 rfl rfl 5 (by decide) (hts _ m_156) (fun _ h9 => h9) rfl hin rfl (by decide +kernel) rfl rfl (Nat.le_of_ble_eq_true rfl) d_X_init_86 (fun Hn locsn hPn hDn hSn => ?_)
  clear hP hD hS
  have hP : va_P E.1 classes [(x, .inr (4, [.int (nI nx), .ref q2, .ref q4, .ref q6, .ref q8, .ref q10, .null, .int 0, .int (bI false), .int 0])), (q2, .inr (1, [.ref u3.1, .ref u3.2])), (u3.1, .inl (E.2.1 0, nx, .inl (fun _ => 0))), (u3.2, .inl (E.2.1 0, 4096, .inl (fun _ => 0))), (q4, .inr (1, [.ref u5.1, .ref u5.2])), (u5.1, .inl (E.2.1 0, nx, .inl (fun _ => 0))), (u5.2, .inl (E.2.1 0, 4096, .inl (fun _ => 0))), (q6, .inr (0, [.ref u7.1, .ref u7.2.1, .ref u7.2.2, .int 0, .int 1, .int 0])), (u7.1, .inl (E.2.1 0, 42000, .inl (fun _ => 0))), (u7.2.1, .inl (E.2.1 0, 513, .inl (fun _ => 0))), (u7.2.2, .inl (E.2.1 1, 513, .inl (fun _ => 0))), (q8, .inr (2, [.ref q6, .int (bI false), .int 32768, .int 0, .int 12, .int 0, .int 0, .int 8])), (q10, .inr (3, [.ref q6, .int 0, .int (bI false), .int (bI false), .int 0, .int 0, .int (-1), .int 0, .int 0, .int 0, .int 0]))] Hn := hPn
  have hD : va_D A [(x, .inr (4, [.int (nI nx), .ref q2, .ref q4, .ref q6, .ref q8, .ref q10, .null, .int 0, .int (bI false), .int 0])), (q2, .inr (1, [.ref u3.1, .ref u3.2])), (u3.1, .inl (E.2.1 0, nx, .inl (fun _ => 0))), (u3.2, .inl (E.2.1 0, 4096, .inl (fun _ => 0))), (q4, .inr (1, [.ref u5.1, .ref u5.2])), (u5.1, .inl (E.2.1 0, nx, .inl (fun _ => 0))), (u5.2, .inl (E.2.1 0, 4096, .inl (fun _ => 0))), (q6, .inr (0, [.ref u7.1, .ref u7.2.1, .ref u7.2.2, .int 0, .int 1, .int 0])), (u7.1, .inl (E.2.1 0, 42000, .inl (fun _ => 0))), (u7.2.1, .inl (E.2.1 0, 513, .inl (fun _ => 0))), (u7.2.2, .inl (E.2.1 1, 513, .inl (fun _ => 0))), (q8, .inr (2, [.ref q6, .int (bI false), .int 32768, .int 0, .int 12, .int 0, .int 0, .int 8])), (q10, .inr (3, [.ref q6, .int 0, .int (bI false), .int (bI false), .int 0, .int 0, .int (-1), .int 0, .int 0, .int 0, .int 0]))] := hDn
  have hS := hSn
  clear hPn hDn hSn
  refine lv_aload_n hx hb d_X_init_89 rfl (lv_at hl 0 rfl) ?_
  refine lv_bipush (v := 6) hx hb d_X_init_90 (by decide) ?_
  refine lv_aload_n hx hb d_X_init_92 rfl (lv_at hl 0 rfl) ?_
  refine va_get (D := E.1) (ci := 4) (v := .int (nI nx)) (C := R_X) (T := T_X) (N := 10) hx hb hts in_X hown hK hP 0 rfl rfl 0 (by decide) (hts _ m_151) (fun _ h9 => h9) rfl d_X_init_93 ?_
  refine lv_imul hx hb d_X_init_96 ?_
  refine ar_newI (N := (6 * nx)) hx hb hts hP hD hS hA hK (ar_n6 hnx).1 (ar_n6 hnx).2 (by show (6 * nx) * 4 ≤ 536870912; omega) (Nat.le_of_ble_eq_true rfl) (by show 182319 + (6 * nx) ≤ 575535; omega) d_X_init_97 (fun q12 Hn hPn hDn hSn => ?_)
  clear hP hD hS
  have hP : va_P E.1 classes [(x, .inr (4, [.int (nI nx), .ref q2, .ref q4, .ref q6, .ref q8, .ref q10, .null, .int 0, .int (bI false), .int 0])), (q2, .inr (1, [.ref u3.1, .ref u3.2])), (u3.1, .inl (E.2.1 0, nx, .inl (fun _ => 0))), (u3.2, .inl (E.2.1 0, 4096, .inl (fun _ => 0))), (q4, .inr (1, [.ref u5.1, .ref u5.2])), (u5.1, .inl (E.2.1 0, nx, .inl (fun _ => 0))), (u5.2, .inl (E.2.1 0, 4096, .inl (fun _ => 0))), (q6, .inr (0, [.ref u7.1, .ref u7.2.1, .ref u7.2.2, .int 0, .int 1, .int 0])), (u7.1, .inl (E.2.1 0, 42000, .inl (fun _ => 0))), (u7.2.1, .inl (E.2.1 0, 513, .inl (fun _ => 0))), (u7.2.2, .inl (E.2.1 1, 513, .inl (fun _ => 0))), (q8, .inr (2, [.ref q6, .int (bI false), .int 32768, .int 0, .int 12, .int 0, .int 0, .int 8])), (q10, .inr (3, [.ref q6, .int 0, .int (bI false), .int (bI false), .int 0, .int 0, .int (-1), .int 0, .int 0, .int 0, .int 0])), (q12, .inl (E.2.1 0, (6 * nx), .inl (fun _ => 0)))] Hn := hPn
  have hD : va_D A [(x, .inr (4, [.int (nI nx), .ref q2, .ref q4, .ref q6, .ref q8, .ref q10, .null, .int 0, .int (bI false), .int 0])), (q2, .inr (1, [.ref u3.1, .ref u3.2])), (u3.1, .inl (E.2.1 0, nx, .inl (fun _ => 0))), (u3.2, .inl (E.2.1 0, 4096, .inl (fun _ => 0))), (q4, .inr (1, [.ref u5.1, .ref u5.2])), (u5.1, .inl (E.2.1 0, nx, .inl (fun _ => 0))), (u5.2, .inl (E.2.1 0, 4096, .inl (fun _ => 0))), (q6, .inr (0, [.ref u7.1, .ref u7.2.1, .ref u7.2.2, .int 0, .int 1, .int 0])), (u7.1, .inl (E.2.1 0, 42000, .inl (fun _ => 0))), (u7.2.1, .inl (E.2.1 0, 513, .inl (fun _ => 0))), (u7.2.2, .inl (E.2.1 1, 513, .inl (fun _ => 0))), (q8, .inr (2, [.ref q6, .int (bI false), .int 32768, .int 0, .int 12, .int 0, .int 0, .int 8])), (q10, .inr (3, [.ref q6, .int 0, .int (bI false), .int (bI false), .int 0, .int 0, .int (-1), .int 0, .int 0, .int 0, .int 0])), (q12, .inl (E.2.1 0, (6 * nx), .inl (fun _ => 0)))] := hDn
  have hS := hSn
  clear hPn hDn hSn
  refine W.widen (k := 13) (n := 575535) (by omega) (by omega) ?_
  refine va_putF (D := E.1) (ci := 4) (v := .ref q12) (ty := (.array .int)) (C := R_X) (T := T_X) (N := 10) hx hb hts in_X t_X t_X_ok n_X hown hK hP hD hS 0 rfl rfl 6 (by decide) (hts _ m_157) (fun _ h9 => h9) rfl hin rfl (by decide +kernel) rfl rfl (Nat.le_of_ble_eq_true rfl) d_X_init_99 (fun Hn locsn hPn hDn hSn => ?_)
  clear hP hD hS
  have hP : va_P E.1 classes [(x, .inr (4, [.int (nI nx), .ref q2, .ref q4, .ref q6, .ref q8, .ref q10, .ref q12, .int 0, .int (bI false), .int 0])), (q2, .inr (1, [.ref u3.1, .ref u3.2])), (u3.1, .inl (E.2.1 0, nx, .inl (fun _ => 0))), (u3.2, .inl (E.2.1 0, 4096, .inl (fun _ => 0))), (q4, .inr (1, [.ref u5.1, .ref u5.2])), (u5.1, .inl (E.2.1 0, nx, .inl (fun _ => 0))), (u5.2, .inl (E.2.1 0, 4096, .inl (fun _ => 0))), (q6, .inr (0, [.ref u7.1, .ref u7.2.1, .ref u7.2.2, .int 0, .int 1, .int 0])), (u7.1, .inl (E.2.1 0, 42000, .inl (fun _ => 0))), (u7.2.1, .inl (E.2.1 0, 513, .inl (fun _ => 0))), (u7.2.2, .inl (E.2.1 1, 513, .inl (fun _ => 0))), (q8, .inr (2, [.ref q6, .int (bI false), .int 32768, .int 0, .int 12, .int 0, .int 0, .int 8])), (q10, .inr (3, [.ref q6, .int 0, .int (bI false), .int (bI false), .int 0, .int 0, .int (-1), .int 0, .int 0, .int 0, .int 0])), (q12, .inl (E.2.1 0, (6 * nx), .inl (fun _ => 0)))] Hn := hPn
  have hD : va_D A [(x, .inr (4, [.int (nI nx), .ref q2, .ref q4, .ref q6, .ref q8, .ref q10, .ref q12, .int 0, .int (bI false), .int 0])), (q2, .inr (1, [.ref u3.1, .ref u3.2])), (u3.1, .inl (E.2.1 0, nx, .inl (fun _ => 0))), (u3.2, .inl (E.2.1 0, 4096, .inl (fun _ => 0))), (q4, .inr (1, [.ref u5.1, .ref u5.2])), (u5.1, .inl (E.2.1 0, nx, .inl (fun _ => 0))), (u5.2, .inl (E.2.1 0, 4096, .inl (fun _ => 0))), (q6, .inr (0, [.ref u7.1, .ref u7.2.1, .ref u7.2.2, .int 0, .int 1, .int 0])), (u7.1, .inl (E.2.1 0, 42000, .inl (fun _ => 0))), (u7.2.1, .inl (E.2.1 0, 513, .inl (fun _ => 0))), (u7.2.2, .inl (E.2.1 1, 513, .inl (fun _ => 0))), (q8, .inr (2, [.ref q6, .int (bI false), .int 32768, .int 0, .int 12, .int 0, .int 0, .int 8])), (q10, .inr (3, [.ref q6, .int 0, .int (bI false), .int (bI false), .int 0, .int 0, .int (-1), .int 0, .int 0, .int 0, .int 0])), (q12, .inl (E.2.1 0, (6 * nx), .inl (fun _ => 0)))] := hDn
  have hS := hSn
  clear hPn hDn hSn
  refine lv_aload_n hx hb d_X_init_102 rfl (lv_at hl 0 rfl) ?_
  refine lv_iconst (v := 0) hx hb d_X_init_103 (by decide) ?_
  refine va_put (D := E.1) (ci := 4) (v := .int 0) (ty := .int) (C := R_X) (T := T_X) (N := 10) hx hb hts in_X t_X t_X_ok n_X hown hK hP hD hS 0 rfl rfl 7 (by decide) (hts _ m_158) (fun _ h9 => h9) rfl (by decide +kernel) rfl rfl (Nat.le_of_ble_eq_true rfl) d_X_init_104 (fun Hn locsn hPn hDn hSn => ?_)
  clear hP hD hS
  have hP : va_P E.1 classes [(x, .inr (4, [.int (nI nx), .ref q2, .ref q4, .ref q6, .ref q8, .ref q10, .ref q12, .int 0, .int (bI false), .int 0])), (q2, .inr (1, [.ref u3.1, .ref u3.2])), (u3.1, .inl (E.2.1 0, nx, .inl (fun _ => 0))), (u3.2, .inl (E.2.1 0, 4096, .inl (fun _ => 0))), (q4, .inr (1, [.ref u5.1, .ref u5.2])), (u5.1, .inl (E.2.1 0, nx, .inl (fun _ => 0))), (u5.2, .inl (E.2.1 0, 4096, .inl (fun _ => 0))), (q6, .inr (0, [.ref u7.1, .ref u7.2.1, .ref u7.2.2, .int 0, .int 1, .int 0])), (u7.1, .inl (E.2.1 0, 42000, .inl (fun _ => 0))), (u7.2.1, .inl (E.2.1 0, 513, .inl (fun _ => 0))), (u7.2.2, .inl (E.2.1 1, 513, .inl (fun _ => 0))), (q8, .inr (2, [.ref q6, .int (bI false), .int 32768, .int 0, .int 12, .int 0, .int 0, .int 8])), (q10, .inr (3, [.ref q6, .int 0, .int (bI false), .int (bI false), .int 0, .int 0, .int (-1), .int 0, .int 0, .int 0, .int 0])), (q12, .inl (E.2.1 0, (6 * nx), .inl (fun _ => 0)))] Hn := hPn
  have hD : va_D A [(x, .inr (4, [.int (nI nx), .ref q2, .ref q4, .ref q6, .ref q8, .ref q10, .ref q12, .int 0, .int (bI false), .int 0])), (q2, .inr (1, [.ref u3.1, .ref u3.2])), (u3.1, .inl (E.2.1 0, nx, .inl (fun _ => 0))), (u3.2, .inl (E.2.1 0, 4096, .inl (fun _ => 0))), (q4, .inr (1, [.ref u5.1, .ref u5.2])), (u5.1, .inl (E.2.1 0, nx, .inl (fun _ => 0))), (u5.2, .inl (E.2.1 0, 4096, .inl (fun _ => 0))), (q6, .inr (0, [.ref u7.1, .ref u7.2.1, .ref u7.2.2, .int 0, .int 1, .int 0])), (u7.1, .inl (E.2.1 0, 42000, .inl (fun _ => 0))), (u7.2.1, .inl (E.2.1 0, 513, .inl (fun _ => 0))), (u7.2.2, .inl (E.2.1 1, 513, .inl (fun _ => 0))), (q8, .inr (2, [.ref q6, .int (bI false), .int 32768, .int 0, .int 12, .int 0, .int 0, .int 8])), (q10, .inr (3, [.ref q6, .int 0, .int (bI false), .int (bI false), .int 0, .int 0, .int (-1), .int 0, .int 0, .int 0, .int 0])), (q12, .inl (E.2.1 0, (6 * nx), .inl (fun _ => 0)))] := hDn
  have hS := hSn
  clear hPn hDn hSn
  refine lv_aload_n hx hb d_X_init_107 rfl (lv_at hl 0 rfl) ?_
  refine lv_iconst (v := 0) hx hb d_X_init_108 (by decide) ?_
  refine va_put (D := E.1) (ci := 4) (v := .int 0) (ty := .boolean) (C := R_X) (T := T_X) (N := 10) hx hb hts in_X t_X t_X_ok n_X hown hK hP hD hS 0 rfl rfl 8 (by decide) (hts _ m_159) (fun _ h9 => h9) rfl (by decide +kernel) rfl rfl (Nat.le_of_ble_eq_true rfl) d_X_init_109 (fun Hn locsn hPn hDn hSn => ?_)
  clear hP hD hS
  have hP : va_P E.1 classes [(x, .inr (4, [.int (nI nx), .ref q2, .ref q4, .ref q6, .ref q8, .ref q10, .ref q12, .int 0, .int 0, .int 0])), (q2, .inr (1, [.ref u3.1, .ref u3.2])), (u3.1, .inl (E.2.1 0, nx, .inl (fun _ => 0))), (u3.2, .inl (E.2.1 0, 4096, .inl (fun _ => 0))), (q4, .inr (1, [.ref u5.1, .ref u5.2])), (u5.1, .inl (E.2.1 0, nx, .inl (fun _ => 0))), (u5.2, .inl (E.2.1 0, 4096, .inl (fun _ => 0))), (q6, .inr (0, [.ref u7.1, .ref u7.2.1, .ref u7.2.2, .int 0, .int 1, .int 0])), (u7.1, .inl (E.2.1 0, 42000, .inl (fun _ => 0))), (u7.2.1, .inl (E.2.1 0, 513, .inl (fun _ => 0))), (u7.2.2, .inl (E.2.1 1, 513, .inl (fun _ => 0))), (q8, .inr (2, [.ref q6, .int (bI false), .int 32768, .int 0, .int 12, .int 0, .int 0, .int 8])), (q10, .inr (3, [.ref q6, .int 0, .int (bI false), .int (bI false), .int 0, .int 0, .int (-1), .int 0, .int 0, .int 0, .int 0])), (q12, .inl (E.2.1 0, (6 * nx), .inl (fun _ => 0)))] Hn := hPn
  have hD : va_D A [(x, .inr (4, [.int (nI nx), .ref q2, .ref q4, .ref q6, .ref q8, .ref q10, .ref q12, .int 0, .int 0, .int 0])), (q2, .inr (1, [.ref u3.1, .ref u3.2])), (u3.1, .inl (E.2.1 0, nx, .inl (fun _ => 0))), (u3.2, .inl (E.2.1 0, 4096, .inl (fun _ => 0))), (q4, .inr (1, [.ref u5.1, .ref u5.2])), (u5.1, .inl (E.2.1 0, nx, .inl (fun _ => 0))), (u5.2, .inl (E.2.1 0, 4096, .inl (fun _ => 0))), (q6, .inr (0, [.ref u7.1, .ref u7.2.1, .ref u7.2.2, .int 0, .int 1, .int 0])), (u7.1, .inl (E.2.1 0, 42000, .inl (fun _ => 0))), (u7.2.1, .inl (E.2.1 0, 513, .inl (fun _ => 0))), (u7.2.2, .inl (E.2.1 1, 513, .inl (fun _ => 0))), (q8, .inr (2, [.ref q6, .int (bI false), .int 32768, .int 0, .int 12, .int 0, .int 0, .int 8])), (q10, .inr (3, [.ref q6, .int 0, .int (bI false), .int (bI false), .int 0, .int 0, .int (-1), .int 0, .int 0, .int 0, .int 0])), (q12, .inl (E.2.1 0, (6 * nx), .inl (fun _ => 0)))] := hDn
  have hS := hSn
  clear hPn hDn hSn
  refine lv_aload_n hx hb d_X_init_112 rfl (lv_at hl 0 rfl) ?_
  refine lv_iconst (v := 1) hx hb d_X_init_113 (by decide) ?_
  refine va_put (D := E.1) (ci := 4) (v := .int 1) (ty := .int) (C := R_X) (T := T_X) (N := 10) hx hb hts in_X t_X t_X_ok n_X hown hK hP hD hS 0 rfl rfl 9 (by decide) (hts _ m_160) (fun _ h9 => h9) rfl (by decide +kernel) rfl rfl (Nat.le_of_ble_eq_true rfl) d_X_init_114 (fun Hn locsn hPn hDn hSn => ?_)
  clear hP hD hS
  have hP : va_P E.1 classes [(x, .inr (4, [.int (nI nx), .ref q2, .ref q4, .ref q6, .ref q8, .ref q10, .ref q12, .int 0, .int 0, .int 1])), (q2, .inr (1, [.ref u3.1, .ref u3.2])), (u3.1, .inl (E.2.1 0, nx, .inl (fun _ => 0))), (u3.2, .inl (E.2.1 0, 4096, .inl (fun _ => 0))), (q4, .inr (1, [.ref u5.1, .ref u5.2])), (u5.1, .inl (E.2.1 0, nx, .inl (fun _ => 0))), (u5.2, .inl (E.2.1 0, 4096, .inl (fun _ => 0))), (q6, .inr (0, [.ref u7.1, .ref u7.2.1, .ref u7.2.2, .int 0, .int 1, .int 0])), (u7.1, .inl (E.2.1 0, 42000, .inl (fun _ => 0))), (u7.2.1, .inl (E.2.1 0, 513, .inl (fun _ => 0))), (u7.2.2, .inl (E.2.1 1, 513, .inl (fun _ => 0))), (q8, .inr (2, [.ref q6, .int (bI false), .int 32768, .int 0, .int 12, .int 0, .int 0, .int 8])), (q10, .inr (3, [.ref q6, .int 0, .int (bI false), .int (bI false), .int 0, .int 0, .int (-1), .int 0, .int 0, .int 0, .int 0])), (q12, .inl (E.2.1 0, (6 * nx), .inl (fun _ => 0)))] Hn := hPn
  have hD : va_D A [(x, .inr (4, [.int (nI nx), .ref q2, .ref q4, .ref q6, .ref q8, .ref q10, .ref q12, .int 0, .int 0, .int 1])), (q2, .inr (1, [.ref u3.1, .ref u3.2])), (u3.1, .inl (E.2.1 0, nx, .inl (fun _ => 0))), (u3.2, .inl (E.2.1 0, 4096, .inl (fun _ => 0))), (q4, .inr (1, [.ref u5.1, .ref u5.2])), (u5.1, .inl (E.2.1 0, nx, .inl (fun _ => 0))), (u5.2, .inl (E.2.1 0, 4096, .inl (fun _ => 0))), (q6, .inr (0, [.ref u7.1, .ref u7.2.1, .ref u7.2.2, .int 0, .int 1, .int 0])), (u7.1, .inl (E.2.1 0, 42000, .inl (fun _ => 0))), (u7.2.1, .inl (E.2.1 0, 513, .inl (fun _ => 0))), (u7.2.2, .inl (E.2.1 1, 513, .inl (fun _ => 0))), (q8, .inr (2, [.ref q6, .int (bI false), .int 32768, .int 0, .int 12, .int 0, .int 0, .int 8])), (q10, .inr (3, [.ref q6, .int 0, .int (bI false), .int (bI false), .int 0, .int 0, .int (-1), .int 0, .int 0, .int 0, .int 0])), (q12, .inl (E.2.1 0, (6 * nx), .inl (fun _ => 0)))] := hDn
  have hS := hSn
  clear hPn hDn hSn
  replace hP := hP.sub (ws' := [(x, .inr (4, [.int (nI nx), .ref q2, .ref q4, .ref q6, .ref q8, .ref q10, .ref q12, .int 0, .int (bI false), .int 1])), (q2, .inr (1, [.ref u3.1, .ref u3.2])), (u3.1, .inl (E.2.1 0, nx, .inl (fun _ => 0))), (u3.2, .inl (E.2.1 0, 4096, .inl (fun _ => 0))), (q4, .inr (1, [.ref u5.1, .ref u5.2])), (u5.1, .inl (E.2.1 0, nx, .inl (fun _ => 0))), (u5.2, .inl (E.2.1 0, 4096, .inl (fun _ => 0))), (q6, .inr (0, [.ref u7.1, .ref u7.2.1, .ref u7.2.2, .int 0, .int 1, .int 0])), (u7.1, .inl (E.2.1 0, 42000, .inl (fun _ => 0))), (u7.2.1, .inl (E.2.1 0, 513, .inl (fun _ => 0))), (u7.2.2, .inl (E.2.1 1, 513, .inl (fun _ => 0))), (q8, .inr (2, [.ref q6, .int (bI false), .int 32768, .int 0, .int 12, .int 0, .int 0, .int 8])), (q10, .inr (3, [.ref q6, .int 0, .int (bI false), .int (bI false), .int 0, .int 0, .int (-1), .int 0, .int 0, .int 0, .int 0])), (q12, .inl (E.2.1 0, (6 * nx), .inl (fun _ => 0)))]) [0, 1, 2, 3, 4, 5, 6, 7, 8, 9, 10, 11, 12, 13] rfl
  replace hD := hD.sub (ws' := [(x, .inr (4, [.int (nI nx), .ref q2, .ref q4, .ref q6, .ref q8, .ref q10, .ref q12, .int 0, .int (bI false), .int 1])), (q2, .inr (1, [.ref u3.1, .ref u3.2])), (u3.1, .inl (E.2.1 0, nx, .inl (fun _ => 0))), (u3.2, .inl (E.2.1 0, 4096, .inl (fun _ => 0))), (q4, .inr (1, [.ref u5.1, .ref u5.2])), (u5.1, .inl (E.2.1 0, nx, .inl (fun _ => 0))), (u5.2, .inl (E.2.1 0, 4096, .inl (fun _ => 0))), (q6, .inr (0, [.ref u7.1, .ref u7.2.1, .ref u7.2.2, .int 0, .int 1, .int 0])), (u7.1, .inl (E.2.1 0, 42000, .inl (fun _ => 0))), (u7.2.1, .inl (E.2.1 0, 513, .inl (fun _ => 0))), (u7.2.2, .inl (E.2.1 1, 513, .inl (fun _ => 0))), (q8, .inr (2, [.ref q6, .int (bI false), .int 32768, .int 0, .int 12, .int 0, .int 0, .int 8])), (q10, .inr (3, [.ref q6, .int 0, .int (bI false), .int (bI false), .int 0, .int 0, .int (-1), .int 0, .int 0, .int 0, .int 0])), (q12, .inl (E.2.1 0, (6 * nx), .inl (fun _ => 0)))]) [0, 1, 2, 3, 4, 5, 6, 7, 8, 9, 10, 11, 12, 13] (by decide) rfl
  refine W.widen (k := 13) (n := 575535) (by omega) (by omega) ?_
  exact ar_vret hx hb hr hlocks hK hS (q2, u3.1, u3.2, q4, u5.1, u5.2, q6, u7.1, u7.2.1, u7.2.2, q8, q10, q12) trivial hP hD d_X_init_117
