/-! Decoder: contracts -/
noncomputable def f_De_open (p0 : Int32) (st : (DeS) × (RoS)) : (DeS) × (RoS) :=
  let b2 := f_Ro_isPlain  p0 st.2
  ((p0, b2, false, st.1.2.2.2.1, st.1.2.2.2.2.1, (-1), st.1.2.2.2.2.2.2.1, st.1.2.2.2.2.2.2.2.1, st.1.2.2.2.2.2.2.2.2.1, 0), st.2)
theorem f_De_open_s (p0 : Int32) (st : (DeS) × (RoS)) : f_De_open p0 st = ((
  let b2 := f_Ro_isPlain  p0 st.2
  ((p0, b2, false, st.1.2.2.2.1, st.1.2.2.2.2.1, (-1), st.1.2.2.2.2.2.2.1, st.1.2.2.2.2.2.2.2.1, st.1.2.2.2.2.2.2.2.2.1, 0), st.2)
  : (DeS) × (RoS))) := rfl
def k_De_open (p0 : Int32) (st : (DeS) × (RoS)) : Prop := (st.2.2.1 ≤ 513) ∧ ((∀ b2, b2 = f_Ro_isPlain  p0 st.2 → True))
set_option maxHeartbeats 4000000 in
set_option maxRecDepth 100000 in
theorem c_De_open (l : Launch) (E : Ev) (A : Nat → Prop) (hd h a1 a2 a3 : Nat) (st : (DeS) × (RoS)) (p0 : Int32)  (hok : k_De_open p0 st) :
    Kt l y_De_open b_De_open 2 none 2 0 0 E A [.ref hd, .int p0] [(hd, .inr (3, [.ref h, .int st.1.1, .int (bI st.1.2.1), .int (bI st.1.2.2.1), .int st.1.2.2.2.1, .int st.1.2.2.2.2.1, .int st.1.2.2.2.2.2.1, .int st.1.2.2.2.2.2.2.1, .int st.1.2.2.2.2.2.2.2.1, .int st.1.2.2.2.2.2.2.2.2.1, .int st.1.2.2.2.2.2.2.2.2.2])), (h, .inr (0, [.ref a1, .ref a2, .ref a3, .int st.2.1, .int st.2.2.1, .int st.2.2.2.1])), (a1, .inl (E.2.1 0, 42000, .inl st.2.2.2.2.1)), (a2, .inl (E.2.1 0, 513, .inl st.2.2.2.2.2.1)), (a3, .inl (E.2.1 1, 513, .inl st.2.2.2.2.2.2))] (va_Qv (fun u : (DeS) × (RoS) => u = f_De_open p0 st) (ar_W E A (fun u : (DeS) × (RoS) => [(hd, .inr (3, [.ref h, .int u.1.1, .int (bI u.1.2.1), .int (bI u.1.2.2.1), .int u.1.2.2.2.1, .int u.1.2.2.2.2.1, .int u.1.2.2.2.2.2.1, .int u.1.2.2.2.2.2.2.1, .int u.1.2.2.2.2.2.2.2.1, .int u.1.2.2.2.2.2.2.2.2.1, .int u.1.2.2.2.2.2.2.2.2.2])), (h, .inr (0, [.ref a1, .ref a2, .ref a3, .int u.2.1, .int u.2.2.1, .int u.2.2.2.1])), (a1, .inl (E.2.1 0, 42000, .inl u.2.2.2.2.1)), (a2, .inl (E.2.1 0, 513, .inl u.2.2.2.2.2.1)), (a3, .inl (E.2.1 1, 513, .inl u.2.2.2.2.2.2))])) A) := by
  unfold k_De_open at hok
  refine Kt.of (by decide) (Nat.le_of_ble_eq_true rfl) ?_
  intro p e s m below meth c ls hx hb hml hown hts hr hlocks hex hin hA hZ hP hK hD hl
  have hS : va_S A s.heap s.heap [] := va_S.rf
  have hl : lv_has ls 2 [(0, .ref hd), (1, .int p0)] := hl
  refine lv_aload_n hx hb d_De_open_0 rfl (lv_at hl 0 rfl) ?_
  refine lv_iload_n hx hb d_De_open_1 rfl (lv_at hl 1 rfl) ?_
  refine va_put (D := E.1) (ci := 3) (v := .int p0) (ty := .int) (C := R_De) (T := T_De) (N := 11) hx hb hts in_De t_De t_De_ok n_De hown hK hP hD hS 0 rfl rfl 1 (by decide) (hts _ m_118) (fun _ h9 => h9) rfl (by decide +kernel) rfl rfl (Nat.le_of_ble_eq_true rfl) d_De_open_2 (fun Hn locsn hPn hDn hSn => ?_)
  clear hP hD hS
  have hP : va_P E.1 classes [(hd, .inr (3, [.ref h, .int p0, .int (bI st.1.2.1), .int (bI st.1.2.2.1), .int st.1.2.2.2.1, .int st.1.2.2.2.2.1, .int st.1.2.2.2.2.2.1, .int st.1.2.2.2.2.2.2.1, .int st.1.2.2.2.2.2.2.2.1, .int st.1.2.2.2.2.2.2.2.2.1, .int st.1.2.2.2.2.2.2.2.2.2])), (h, .inr (0, [.ref a1, .ref a2, .ref a3, .int st.2.1, .int st.2.2.1, .int st.2.2.2.1])), (a1, .inl (E.2.1 0, 42000, .inl st.2.2.2.2.1)), (a2, .inl (E.2.1 0, 513, .inl st.2.2.2.2.2.1)), (a3, .inl (E.2.1 1, 513, .inl st.2.2.2.2.2.2))] Hn := hPn
  have hD : va_D A [(hd, .inr (3, [.ref h, .int p0, .int (bI st.1.2.1), .int (bI st.1.2.2.1), .int st.1.2.2.2.1, .int st.1.2.2.2.2.1, .int st.1.2.2.2.2.2.1, .int st.1.2.2.2.2.2.2.1, .int st.1.2.2.2.2.2.2.2.1, .int st.1.2.2.2.2.2.2.2.2.1, .int st.1.2.2.2.2.2.2.2.2.2])), (h, .inr (0, [.ref a1, .ref a2, .ref a3, .int st.2.1, .int st.2.2.1, .int st.2.2.2.1])), (a1, .inl (E.2.1 0, 42000, .inl st.2.2.2.2.1)), (a2, .inl (E.2.1 0, 513, .inl st.2.2.2.2.2.1)), (a3, .inl (E.2.1 1, 513, .inl st.2.2.2.2.2.2))] := hDn
  have hS := hSn
  clear hPn hDn hSn
  refine lv_aload_n hx hb d_De_open_5 rfl (lv_at hl 0 rfl) ?_
  refine lv_aload_n hx hb d_De_open_6 rfl (lv_at hl 0 rfl) ?_
  refine va_get (D := E.1) (ci := 3) (v := .ref h) (C := R_De) (T := T_De) (N := 11) hx hb hts in_De hown hK hP 0 rfl rfl 0 (by decide) (hts _ m_117) (fun _ h9 => h9) rfl d_De_open_7 ?_
  refine lv_iload_n hx hb d_De_open_10 rfl (lv_at hl 1 rfl) ?_
  obtain ⟨hk1, hok⟩ := hok
  refine ar_usei (wr := [(hd, .inr (3, [.ref h, .int p0, .int (bI st.1.2.1), .int (bI st.1.2.2.1), .int st.1.2.2.2.1, .int st.1.2.2.2.2.1, .int st.1.2.2.2.2.2.1, .int st.1.2.2.2.2.2.2.1, .int st.1.2.2.2.2.2.2.2.1, .int st.1.2.2.2.2.2.2.2.2.1, .int st.1.2.2.2.2.2.2.2.2.2]))]) hP hD hS hA [1, 2, 3, 4] [0] rfl rfl rfl (by decide) (ar_runV (n := 1) (As := [.int p0]) (rest := [.ref hd]) (ci := 0) (q0 := 0) hx hb hml hown hts hP hD hS hA hK hZ (c_Ro_isPlain l E _ h a1 a2 a3 st.2 p0 hk1) m_205 m_206 m_207 m_4 m_208 (by decide +kernel) ⟨Nat.le_of_ble_eq_true rfl, Nat.le_of_ble_eq_true rfl⟩ [1, 2, 3, 4] rfl rfl rfl rfl rfl rfl rfl hl.1 rfl (Nat.le_of_ble_eq_true rfl) d_De_open_11 ⟨Nat.le_of_ble_eq_true rfl, Nat.le_of_ble_eq_true rfl⟩) (fun r2 _ Hn locsn hw2 hPn hDn hSn => ?_)
  obtain ⟨b2, eb2⟩ : ∃ b : Bool, b = f_Ro_isPlain  p0 st.2 := ⟨_, rfl⟩
  rw [← eb2] at hw2
  subst hw2
  replace hok := hok b2 eb2
  clear hP hD hS
  have hP : va_P E.1 classes [(hd, .inr (3, [.ref h, .int p0, .int (bI st.1.2.1), .int (bI st.1.2.2.1), .int st.1.2.2.2.1, .int st.1.2.2.2.2.1, .int st.1.2.2.2.2.2.1, .int st.1.2.2.2.2.2.2.1, .int st.1.2.2.2.2.2.2.2.1, .int st.1.2.2.2.2.2.2.2.2.1, .int st.1.2.2.2.2.2.2.2.2.2])), (h, .inr (0, [.ref a1, .ref a2, .ref a3, .int st.2.1, .int st.2.2.1, .int st.2.2.2.1])), (a1, .inl (E.2.1 0, 42000, .inl st.2.2.2.2.1)), (a2, .inl (E.2.1 0, 513, .inl st.2.2.2.2.2.1)), (a3, .inl (E.2.1 1, 513, .inl st.2.2.2.2.2.2))] Hn := hPn
  have hD : va_D A [(hd, .inr (3, [.ref h, .int p0, .int (bI st.1.2.1), .int (bI st.1.2.2.1), .int st.1.2.2.2.1, .int st.1.2.2.2.2.1, .int st.1.2.2.2.2.2.1, .int st.1.2.2.2.2.2.2.1, .int st.1.2.2.2.2.2.2.2.1, .int st.1.2.2.2.2.2.2.2.2.1, .int st.1.2.2.2.2.2.2.2.2.2])), (h, .inr (0, [.ref a1, .ref a2, .ref a3, .int st.2.1, .int st.2.2.1, .int st.2.2.2.1])), (a1, .inl (E.2.1 0, 42000, .inl st.2.2.2.2.1)), (a2, .inl (E.2.1 0, 513, .inl st.2.2.2.2.2.1)), (a3, .inl (E.2.1 1, 513, .inl st.2.2.2.2.2.2))] := hDn
  have hS := hSn
  clear hPn hDn hSn
  refine va_put (D := E.1) (ci := 3) (v := .int (bI b2)) (ty := .boolean) (C := R_De) (T := T_De) (N := 11) hx hb hts in_De t_De t_De_ok n_De hown hK hP hD hS 0 rfl rfl 2 (by decide) (hts _ m_119) (fun _ h9 => h9) rfl (by decide +kernel) (bI_nar b2) (bI_fit b2) (Nat.le_of_ble_eq_true rfl) d_De_open_14 (fun Hn locsn hPn hDn hSn => ?_)
  clear hP hD hS
  have hP : va_P E.1 classes [(hd, .inr (3, [.ref h, .int p0, .int (bI b2), .int (bI st.1.2.2.1), .int st.1.2.2.2.1, .int st.1.2.2.2.2.1, .int st.1.2.2.2.2.2.1, .int st.1.2.2.2.2.2.2.1, .int st.1.2.2.2.2.2.2.2.1, .int st.1.2.2.2.2.2.2.2.2.1, .int st.1.2.2.2.2.2.2.2.2.2])), (h, .inr (0, [.ref a1, .ref a2, .ref a3, .int st.2.1, .int st.2.2.1, .int st.2.2.2.1])), (a1, .inl (E.2.1 0, 42000, .inl st.2.2.2.2.1)), (a2, .inl (E.2.1 0, 513, .inl st.2.2.2.2.2.1)), (a3, .inl (E.2.1 1, 513, .inl st.2.2.2.2.2.2))] Hn := hPn
  have hD : va_D A [(hd, .inr (3, [.ref h, .int p0, .int (bI b2), .int (bI st.1.2.2.1), .int st.1.2.2.2.1, .int st.1.2.2.2.2.1, .int st.1.2.2.2.2.2.1, .int st.1.2.2.2.2.2.2.1, .int st.1.2.2.2.2.2.2.2.1, .int st.1.2.2.2.2.2.2.2.2.1, .int st.1.2.2.2.2.2.2.2.2.2])), (h, .inr (0, [.ref a1, .ref a2, .ref a3, .int st.2.1, .int st.2.2.1, .int st.2.2.2.1])), (a1, .inl (E.2.1 0, 42000, .inl st.2.2.2.2.1)), (a2, .inl (E.2.1 0, 513, .inl st.2.2.2.2.2.1)), (a3, .inl (E.2.1 1, 513, .inl st.2.2.2.2.2.2))] := hDn
  have hS := hSn
  clear hPn hDn hSn
  refine lv_aload_n hx hb d_De_open_17 rfl (lv_at hl 0 rfl) ?_
  refine lv_iconst (v := 0) hx hb d_De_open_18 (by decide) ?_
  refine va_put (D := E.1) (ci := 3) (v := .int 0) (ty := .boolean) (C := R_De) (T := T_De) (N := 11) hx hb hts in_De t_De t_De_ok n_De hown hK hP hD hS 0 rfl rfl 3 (by decide) (hts _ m_120) (fun _ h9 => h9) rfl (by decide +kernel) rfl rfl (Nat.le_of_ble_eq_true rfl) d_De_open_19 (fun Hn locsn hPn hDn hSn => ?_)
  clear hP hD hS
  have hP : va_P E.1 classes [(hd, .inr (3, [.ref h, .int p0, .int (bI b2), .int 0, .int st.1.2.2.2.1, .int st.1.2.2.2.2.1, .int st.1.2.2.2.2.2.1, .int st.1.2.2.2.2.2.2.1, .int st.1.2.2.2.2.2.2.2.1, .int st.1.2.2.2.2.2.2.2.2.1, .int st.1.2.2.2.2.2.2.2.2.2])), (h, .inr (0, [.ref a1, .ref a2, .ref a3, .int st.2.1, .int st.2.2.1, .int st.2.2.2.1])), (a1, .inl (E.2.1 0, 42000, .inl st.2.2.2.2.1)), (a2, .inl (E.2.1 0, 513, .inl st.2.2.2.2.2.1)), (a3, .inl (E.2.1 1, 513, .inl st.2.2.2.2.2.2))] Hn := hPn
  have hD : va_D A [(hd, .inr (3, [.ref h, .int p0, .int (bI b2), .int 0, .int st.1.2.2.2.1, .int st.1.2.2.2.2.1, .int st.1.2.2.2.2.2.1, .int st.1.2.2.2.2.2.2.1, .int st.1.2.2.2.2.2.2.2.1, .int st.1.2.2.2.2.2.2.2.2.1, .int st.1.2.2.2.2.2.2.2.2.2])), (h, .inr (0, [.ref a1, .ref a2, .ref a3, .int st.2.1, .int st.2.2.1, .int st.2.2.2.1])), (a1, .inl (E.2.1 0, 42000, .inl st.2.2.2.2.1)), (a2, .inl (E.2.1 0, 513, .inl st.2.2.2.2.2.1)), (a3, .inl (E.2.1 1, 513, .inl st.2.2.2.2.2.2))] := hDn
  have hS := hSn
  clear hPn hDn hSn
  refine lv_aload_n hx hb d_De_open_22 rfl (lv_at hl 0 rfl) ?_
  refine lv_iconst (v := (-1)) hx hb d_De_open_23 (by decide) ?_
  refine va_put (D := E.1) (ci := 3) (v := .int (-1)) (ty := .int) (C := R_De) (T := T_De) (N := 11) hx hb hts in_De t_De t_De_ok n_De hown hK hP hD hS 0 rfl rfl 6 (by decide) (hts _ m_123) (fun _ h9 => h9) rfl (by decide +kernel) rfl rfl (Nat.le_of_ble_eq_true rfl) d_De_open_24 (fun Hn locsn hPn hDn hSn => ?_)
  clear hP hD hS
  have hP : va_P E.1 classes [(hd, .inr (3, [.ref h, .int p0, .int (bI b2), .int 0, .int st.1.2.2.2.1, .int st.1.2.2.2.2.1, .int (-1), .int st.1.2.2.2.2.2.2.1, .int st.1.2.2.2.2.2.2.2.1, .int st.1.2.2.2.2.2.2.2.2.1, .int st.1.2.2.2.2.2.2.2.2.2])), (h, .inr (0, [.ref a1, .ref a2, .ref a3, .int st.2.1, .int st.2.2.1, .int st.2.2.2.1])), (a1, .inl (E.2.1 0, 42000, .inl st.2.2.2.2.1)), (a2, .inl (E.2.1 0, 513, .inl st.2.2.2.2.2.1)), (a3, .inl (E.2.1 1, 513, .inl st.2.2.2.2.2.2))] Hn := hPn
  have hD : va_D A [(hd, .inr (3, [.ref h, .int p0, .int (bI b2), .int 0, .int st.1.2.2.2.1, .int st.1.2.2.2.2.1, .int (-1), .int st.1.2.2.2.2.2.2.1, .int st.1.2.2.2.2.2.2.2.1, .int st.1.2.2.2.2.2.2.2.2.1, .int st.1.2.2.2.2.2.2.2.2.2])), (h, .inr (0, [.ref a1, .ref a2, .ref a3, .int st.2.1, .int st.2.2.1, .int st.2.2.2.1])), (a1, .inl (E.2.1 0, 42000, .inl st.2.2.2.2.1)), (a2, .inl (E.2.1 0, 513, .inl st.2.2.2.2.2.1)), (a3, .inl (E.2.1 1, 513, .inl st.2.2.2.2.2.2))] := hDn
  have hS := hSn
  clear hPn hDn hSn
  refine lv_aload_n hx hb d_De_open_27 rfl (lv_at hl 0 rfl) ?_
  refine lv_iconst (v := 0) hx hb d_De_open_28 (by decide) ?_
  refine va_put (D := E.1) (ci := 3) (v := .int 0) (ty := .int) (C := R_De) (T := T_De) (N := 11) hx hb hts in_De t_De t_De_ok n_De hown hK hP hD hS 0 rfl rfl 10 (by decide) (hts _ m_127) (fun _ h9 => h9) rfl (by decide +kernel) rfl rfl (Nat.le_of_ble_eq_true rfl) d_De_open_29 (fun Hn locsn hPn hDn hSn => ?_)
  clear hP hD hS
  have hP : va_P E.1 classes [(hd, .inr (3, [.ref h, .int p0, .int (bI b2), .int 0, .int st.1.2.2.2.1, .int st.1.2.2.2.2.1, .int (-1), .int st.1.2.2.2.2.2.2.1, .int st.1.2.2.2.2.2.2.2.1, .int st.1.2.2.2.2.2.2.2.2.1, .int 0])), (h, .inr (0, [.ref a1, .ref a2, .ref a3, .int st.2.1, .int st.2.2.1, .int st.2.2.2.1])), (a1, .inl (E.2.1 0, 42000, .inl st.2.2.2.2.1)), (a2, .inl (E.2.1 0, 513, .inl st.2.2.2.2.2.1)), (a3, .inl (E.2.1 1, 513, .inl st.2.2.2.2.2.2))] Hn := hPn
  have hD : va_D A [(hd, .inr (3, [.ref h, .int p0, .int (bI b2), .int 0, .int st.1.2.2.2.1, .int st.1.2.2.2.2.1, .int (-1), .int st.1.2.2.2.2.2.2.1, .int st.1.2.2.2.2.2.2.2.1, .int st.1.2.2.2.2.2.2.2.2.1, .int 0])), (h, .inr (0, [.ref a1, .ref a2, .ref a3, .int st.2.1, .int st.2.2.1, .int st.2.2.2.1])), (a1, .inl (E.2.1 0, 42000, .inl st.2.2.2.2.1)), (a2, .inl (E.2.1 0, 513, .inl st.2.2.2.2.2.1)), (a3, .inl (E.2.1 1, 513, .inl st.2.2.2.2.2.2))] := hDn
  have hS := hSn
  clear hPn hDn hSn
  exact ar_vret hx hb hr hlocks hK hS ((p0, b2, false, st.1.2.2.2.1, st.1.2.2.2.2.1, (-1), st.1.2.2.2.2.2.2.1, st.1.2.2.2.2.2.2.2.1, st.1.2.2.2.2.2.2.2.2.1, 0), st.2) (by subst eb2; exact Eq.symm (Eq.trans (f_De_open_s p0 st) rfl)) hP hD d_De_open_32

noncomputable def f_De_goOn (p0 : Bool) (st : (DeS) × (RoS)) : Bool × ((DeS) × (RoS)) :=
  let x1 := (st.1.1 + 1)
  let r2 := f_Ro_segmentCount   st.2
  if r2 ≤ x1 then
    (false, st)
  else
    let b5 := f_Ro_isPlain  x1 st.2
    if bI b5 = bI p0 then
      let u8 := f_De_open  x1 st
      (true, u8)
    else
      (false, st)
theorem f_De_goOn_s (p0 : Bool) (st : (DeS) × (RoS)) : f_De_goOn p0 st = ((
  let x1 := (st.1.1 + 1)
  let r2 := f_Ro_segmentCount   st.2
  if r2 ≤ x1 then
    (false, st)
  else
    let b5 := f_Ro_isPlain  x1 st.2
    if bI b5 = bI p0 then
      let u8 := f_De_open  x1 st
      (true, u8)
    else
      (false, st)
  : Bool × ((DeS) × (RoS)))) := rfl
def k_De_goOn (p0 : Bool) (st : (DeS) × (RoS)) : Prop := (∀ x1, x1 = (st.1.1 + 1) → (∀ r2, r2 = f_Ro_segmentCount   st.2 → ((r2 ≤ x1) → True) ∧ (¬ (r2 ≤ x1) → (st.2.2.1 ≤ 513) ∧ ((∀ b5, b5 = f_Ro_isPlain  x1 st.2 → ((bI b5 = bI p0) → (k_De_open  x1 st) ∧ ((∀ u8, u8 = f_De_open  x1 st → True))) ∧ (¬ (bI b5 = bI p0) → True))))))
set_option maxHeartbeats 4000000 in
set_option maxRecDepth 100000 in
theorem c_De_goOn (l : Launch) (E : Ev) (A : Nat → Prop) (hd h a1 a2 a3 : Nat) (st : (DeS) × (RoS)) (p0 : Bool)  (hok : k_De_goOn p0 st) :
    Kt l y_De_goOn b_De_goOn 3 (some .boolean) 3 0 0 E A [.ref hd, .int (bI p0)] [(hd, .inr (3, [.ref h, .int st.1.1, .int (bI st.1.2.1), .int (bI st.1.2.2.1), .int st.1.2.2.2.1, .int st.1.2.2.2.2.1, .int st.1.2.2.2.2.2.1, .int st.1.2.2.2.2.2.2.1, .int st.1.2.2.2.2.2.2.2.1, .int st.1.2.2.2.2.2.2.2.2.1, .int st.1.2.2.2.2.2.2.2.2.2])), (h, .inr (0, [.ref a1, .ref a2, .ref a3, .int st.2.1, .int st.2.2.1, .int st.2.2.2.1])), (a1, .inl (E.2.1 0, 42000, .inl st.2.2.2.2.1)), (a2, .inl (E.2.1 0, 513, .inl st.2.2.2.2.2.1)), (a3, .inl (E.2.1 1, 513, .inl st.2.2.2.2.2.2))] (va_Qi (fun (r : Int32) (u : (DeS) × (RoS)) => r = bI (f_De_goOn p0 st).1 ∧ u = (f_De_goOn p0 st).2) (ar_W E A (fun u : (DeS) × (RoS) => [(hd, .inr (3, [.ref h, .int u.1.1, .int (bI u.1.2.1), .int (bI u.1.2.2.1), .int u.1.2.2.2.1, .int u.1.2.2.2.2.1, .int u.1.2.2.2.2.2.1, .int u.1.2.2.2.2.2.2.1, .int u.1.2.2.2.2.2.2.2.1, .int u.1.2.2.2.2.2.2.2.2.1, .int u.1.2.2.2.2.2.2.2.2.2])), (h, .inr (0, [.ref a1, .ref a2, .ref a3, .int u.2.1, .int u.2.2.1, .int u.2.2.2.1])), (a1, .inl (E.2.1 0, 42000, .inl u.2.2.2.2.1)), (a2, .inl (E.2.1 0, 513, .inl u.2.2.2.2.2.1)), (a3, .inl (E.2.1 1, 513, .inl u.2.2.2.2.2.2))])) A) := by
  unfold k_De_goOn at hok
  refine Kt.of (by decide) (Nat.le_of_ble_eq_true rfl) ?_
  intro p e s m below meth c ls hx hb hml hown hts hr hlocks hex hin hA hZ hP hK hD hl
  have hS : va_S A s.heap s.heap [] := va_S.rf
  have hl : lv_has ls 3 [(0, .ref hd), (1, .int (bI p0))] := hl
  refine lv_aload_n hx hb d_De_goOn_0 rfl (lv_at hl 0 rfl) ?_
  refine va_get (D := E.1) (ci := 3) (v := .int st.1.1) (C := R_De) (T := T_De) (N := 11) hx hb hts in_De hown hK hP 0 rfl rfl 1 (by decide) (hts _ m_118) (fun _ h9 => h9) rfl d_De_goOn_1 ?_
  refine lv_iconst (v := 1) hx hb d_De_goOn_4 (by decide) ?_
  refine lv_iadd hx hb d_De_goOn_5 ?_
  refine lv_topi (fun x1 ex1 => ?_)
  replace hok := hok x1 ex1
  refine lv_istore_n (lv' := [(2, .int x1), (0, .ref hd), (1, .int (bI p0))]) hx hb d_De_goOn_6 rfl hl (by decide) rfl (fun ls hl => ?_)
  refine lv_iload_n hx hb d_De_goOn_7 rfl (lv_at hl 0 rfl) ?_
  refine lv_aload_n hx hb d_De_goOn_8 rfl (lv_at hl 1 rfl) ?_
  refine va_get (D := E.1) (ci := 3) (v := .ref h) (C := R_De) (T := T_De) (N := 11) hx hb hts in_De hown hK hP 0 rfl rfl 0 (by decide) (hts _ m_117) (fun _ h9 => h9) rfl d_De_goOn_9 ?_
  refine ar_usei (wr := [(hd, .inr (3, [.ref h, .int st.1.1, .int (bI st.1.2.1), .int (bI st.1.2.2.1), .int st.1.2.2.2.1, .int st.1.2.2.2.2.1, .int st.1.2.2.2.2.2.1, .int st.1.2.2.2.2.2.2.1, .int st.1.2.2.2.2.2.2.2.1, .int st.1.2.2.2.2.2.2.2.2.1, .int st.1.2.2.2.2.2.2.2.2.2]))]) hP hD hS hA [1, 2, 3, 4] [0] rfl rfl rfl (by decide) (ar_runV (n := 0) (As := []) (rest := [.int x1]) (ci := 0) (q0 := 0) hx hb hml hown hts hP hD hS hA hK hZ (c_Ro_segmentCount l E _ h a1 a2 a3 st.2  ) m_201 m_202 m_203 m_4 m_204 (by decide +kernel) ⟨Nat.le_of_ble_eq_true rfl, Nat.le_of_ble_eq_true rfl⟩ [1, 2, 3, 4] rfl rfl rfl rfl rfl rfl rfl hl.1 rfl (Nat.le_of_ble_eq_true rfl) d_De_goOn_12 ⟨Nat.le_of_ble_eq_true rfl, Nat.le_of_ble_eq_true rfl⟩) (fun r2 _ Hn locsn hw2 hPn hDn hSn => ?_)
  replace hok := hok r2 hw2
  clear hP hD hS
  have hP : va_P E.1 classes [(hd, .inr (3, [.ref h, .int st.1.1, .int (bI st.1.2.1), .int (bI st.1.2.2.1), .int st.1.2.2.2.1, .int st.1.2.2.2.2.1, .int st.1.2.2.2.2.2.1, .int st.1.2.2.2.2.2.2.1, .int st.1.2.2.2.2.2.2.2.1, .int st.1.2.2.2.2.2.2.2.2.1, .int st.1.2.2.2.2.2.2.2.2.2])), (h, .inr (0, [.ref a1, .ref a2, .ref a3, .int st.2.1, .int st.2.2.1, .int st.2.2.2.1])), (a1, .inl (E.2.1 0, 42000, .inl st.2.2.2.2.1)), (a2, .inl (E.2.1 0, 513, .inl st.2.2.2.2.2.1)), (a3, .inl (E.2.1 1, 513, .inl st.2.2.2.2.2.2))] Hn := hPn
  have hD : va_D A [(hd, .inr (3, [.ref h, .int st.1.1, .int (bI st.1.2.1), .int (bI st.1.2.2.1), .int st.1.2.2.2.1, .int st.1.2.2.2.2.1, .int st.1.2.2.2.2.2.1, .int st.1.2.2.2.2.2.2.1, .int st.1.2.2.2.2.2.2.2.1, .int st.1.2.2.2.2.2.2.2.2.1, .int st.1.2.2.2.2.2.2.2.2.2])), (h, .inr (0, [.ref a1, .ref a2, .ref a3, .int st.2.1, .int st.2.2.1, .int st.2.2.2.1])), (a1, .inl (E.2.1 0, 42000, .inl st.2.2.2.2.1)), (a2, .inl (E.2.1 0, 513, .inl st.2.2.2.2.2.1)), (a3, .inl (E.2.1 1, 513, .inl st.2.2.2.2.2.2))] := hDn
  have hS := hSn
  clear hPn hDn hSn
  refine lv_icmp_ge (tgt := 30) hx hb d_De_goOn_15 (by decide) (fun c3 => ?_) (fun c3 => ?_)
  · replace hok := hok.1 c3
    refine lv_iconst (v := 0) hx hb d_De_goOn_30 (by decide) ?_
    exact ar_zret hx hb hr hlocks hK hS st (by subst hw2; subst ex1; exact zp_of (b := false) (Eq.trans (f_De_goOn_s p0 st) (Eq.trans (if_pos c3) rfl)) rfl) hP hD rfl d_De_goOn_31
  · replace hok := hok.2 c3
    refine lv_aload_n hx hb d_De_goOn_18 rfl (lv_at hl 1 rfl) ?_
    refine va_get (D := E.1) (ci := 3) (v := .ref h) (C := R_De) (T := T_De) (N := 11) hx hb hts in_De hown hK hP 0 rfl rfl 0 (by decide) (hts _ m_117) (fun _ h9 => h9) rfl d_De_goOn_19 ?_
    refine lv_iload_n hx hb d_De_goOn_22 rfl (lv_at hl 0 rfl) ?_
    obtain ⟨hk4, hok⟩ := hok
    refine ar_usei (wr := [(hd, .inr (3, [.ref h, .int st.1.1, .int (bI st.1.2.1), .int (bI st.1.2.2.1), .int st.1.2.2.2.1, .int st.1.2.2.2.2.1, .int st.1.2.2.2.2.2.1, .int st.1.2.2.2.2.2.2.1, .int st.1.2.2.2.2.2.2.2.1, .int st.1.2.2.2.2.2.2.2.2.1, .int st.1.2.2.2.2.2.2.2.2.2]))]) hP hD hS hA [1, 2, 3, 4] [0] rfl rfl rfl (by decide) (ar_runV (n := 1) (As := [.int x1]) (rest := []) (ci := 0) (q0 := 0) hx hb hml hown hts hP hD hS hA hK hZ (c_Ro_isPlain l E _ h a1 a2 a3 st.2 x1 hk4) m_205 m_206 m_207 m_4 m_208 (by decide +kernel) ⟨Nat.le_of_ble_eq_true rfl, Nat.le_of_ble_eq_true rfl⟩ [1, 2, 3, 4] rfl rfl rfl rfl rfl rfl rfl hl.1 rfl (Nat.le_of_ble_eq_true rfl) d_De_goOn_23 ⟨Nat.le_of_ble_eq_true rfl, Nat.le_of_ble_eq_true rfl⟩) (fun r5 _ Hn locsn hw5 hPn hDn hSn => ?_)
    obtain ⟨b5, eb5⟩ : ∃ b : Bool, b = f_Ro_isPlain  x1 st.2 := ⟨_, rfl⟩
    rw [← eb5] at hw5
    subst hw5
    replace hok := hok b5 eb5
    clear hP hD hS
    have hP : va_P E.1 classes [(hd, .inr (3, [.ref h, .int st.1.1, .int (bI st.1.2.1), .int (bI st.1.2.2.1), .int st.1.2.2.2.1, .int st.1.2.2.2.2.1, .int st.1.2.2.2.2.2.1, .int st.1.2.2.2.2.2.2.1, .int st.1.2.2.2.2.2.2.2.1, .int st.1.2.2.2.2.2.2.2.2.1, .int st.1.2.2.2.2.2.2.2.2.2])), (h, .inr (0, [.ref a1, .ref a2, .ref a3, .int st.2.1, .int st.2.2.1, .int st.2.2.2.1])), (a1, .inl (E.2.1 0, 42000, .inl st.2.2.2.2.1)), (a2, .inl (E.2.1 0, 513, .inl st.2.2.2.2.2.1)), (a3, .inl (E.2.1 1, 513, .inl st.2.2.2.2.2.2))] Hn := hPn
    have hD : va_D A [(hd, .inr (3, [.ref h, .int st.1.1, .int (bI st.1.2.1), .int (bI st.1.2.2.1), .int st.1.2.2.2.1, .int st.1.2.2.2.2.1, .int st.1.2.2.2.2.2.1, .int st.1.2.2.2.2.2.2.1, .int st.1.2.2.2.2.2.2.2.1, .int st.1.2.2.2.2.2.2.2.2.1, .int st.1.2.2.2.2.2.2.2.2.2])), (h, .inr (0, [.ref a1, .ref a2, .ref a3, .int st.2.1, .int st.2.2.1, .int st.2.2.2.1])), (a1, .inl (E.2.1 0, 42000, .inl st.2.2.2.2.1)), (a2, .inl (E.2.1 0, 513, .inl st.2.2.2.2.2.1)), (a3, .inl (E.2.1 1, 513, .inl st.2.2.2.2.2.2))] := hDn
    have hS := hSn
    clear hPn hDn hSn
    refine lv_iload_n hx hb d_De_goOn_26 rfl (lv_at hl 2 rfl) ?_
    refine lv_icmp_eq (tgt := 32) hx hb d_De_goOn_27 (by decide) (fun c6 => ?_) (fun c6 => ?_)
    · replace hok := hok.1 c6
      refine lv_aload_n hx hb d_De_goOn_32 rfl (lv_at hl 1 rfl) ?_
      refine lv_iload_n hx hb d_De_goOn_33 rfl (lv_at hl 0 rfl) ?_
      obtain ⟨hk7, hok⟩ := hok
      refine ar_usev (wr := []) hP hD hS hA [0, 1, 2, 3, 4] [] rfl rfl rfl (by decide) (ar_runV (n := 1) (As := [.int x1]) (rest := []) (ci := 3) (q0 := 0) hx hb hml hown hts hP hD hS hA hK hZ (c_De_open l E _ hd h a1 a2 a3 st x1 hk7) m_213 m_214 m_215 m_6 m_216 (by decide +kernel) ⟨Nat.le_of_ble_eq_true rfl, Nat.le_of_ble_eq_true rfl⟩ [0, 1, 2, 3, 4] rfl rfl rfl rfl rfl rfl rfl hl.1 rfl (Nat.le_of_ble_eq_true rfl) d_De_goOn_34 ⟨Nat.le_of_ble_eq_true rfl, Nat.le_of_ble_eq_true rfl⟩) (fun u8 Hn locsn hw8 hPn hDn hSn => ?_)
      replace hok := hok u8 hw8
      clear hP hD hS
      have hP : va_P E.1 classes [(hd, .inr (3, [.ref h, .int u8.1.1, .int (bI u8.1.2.1), .int (bI u8.1.2.2.1), .int u8.1.2.2.2.1, .int u8.1.2.2.2.2.1, .int u8.1.2.2.2.2.2.1, .int u8.1.2.2.2.2.2.2.1, .int u8.1.2.2.2.2.2.2.2.1, .int u8.1.2.2.2.2.2.2.2.2.1, .int u8.1.2.2.2.2.2.2.2.2.2])), (h, .inr (0, [.ref a1, .ref a2, .ref a3, .int u8.2.1, .int u8.2.2.1, .int u8.2.2.2.1])), (a1, .inl (E.2.1 0, 42000, .inl u8.2.2.2.2.1)), (a2, .inl (E.2.1 0, 513, .inl u8.2.2.2.2.2.1)), (a3, .inl (E.2.1 1, 513, .inl u8.2.2.2.2.2.2))] Hn := hPn
      have hD : va_D A [(hd, .inr (3, [.ref h, .int u8.1.1, .int (bI u8.1.2.1), .int (bI u8.1.2.2.1), .int u8.1.2.2.2.1, .int u8.1.2.2.2.2.1, .int u8.1.2.2.2.2.2.1, .int u8.1.2.2.2.2.2.2.1, .int u8.1.2.2.2.2.2.2.2.1, .int u8.1.2.2.2.2.2.2.2.2.1, .int u8.1.2.2.2.2.2.2.2.2.2])), (h, .inr (0, [.ref a1, .ref a2, .ref a3, .int u8.2.1, .int u8.2.2.1, .int u8.2.2.2.1])), (a1, .inl (E.2.1 0, 42000, .inl u8.2.2.2.2.1)), (a2, .inl (E.2.1 0, 513, .inl u8.2.2.2.2.2.1)), (a3, .inl (E.2.1 1, 513, .inl u8.2.2.2.2.2.2))] := hDn
      have hS := hSn
      clear hPn hDn hSn
      refine lv_iconst (v := 1) hx hb d_De_goOn_37 (by decide) ?_
      exact ar_zret hx hb hr hlocks hK hS u8 (by subst hw8; subst eb5; subst hw2; subst ex1; exact zp_of (b := true) (Eq.trans (f_De_goOn_s p0 st) (Eq.trans (if_neg c3) (Eq.trans (if_pos c6) rfl))) rfl) hP hD rfl d_De_goOn_38
    · replace hok := hok.2 c6
      refine lv_iconst (v := 0) hx hb d_De_goOn_30 (by decide) ?_
      exact ar_zret hx hb hr hlocks hK hS st (by subst eb5; subst hw2; subst ex1; exact zp_of (b := false) (Eq.trans (f_De_goOn_s p0 st) (Eq.trans (if_neg c3) (Eq.trans (if_neg c6) rfl))) rfl) hP hD rfl d_De_goOn_31

noncomputable def f_De_isUntouched  (st : DeS) : Bool :=
  if st.1 = 0 then
    if bI st.2.2.1 = 0 then
      true
    else
      false
  else
    false
theorem f_De_isUntouched_s  (st : DeS) : f_De_isUntouched  st = ((
  if st.1 = 0 then
    if bI st.2.2.1 = 0 then
      true
    else
      false
  else
    false
  : Bool)) := rfl
set_option maxHeartbeats 4000000 in
set_option maxRecDepth 100000 in
theorem c_De_isUntouched (l : Launch) (E : Ev) (A : Nat → Prop) (hd h : Nat) (st : DeS)   :
    Kt l y_De_isUntouched b_De_isUntouched 1 (some .boolean) 0 0 0 E A [.ref hd] [(hd, .inr (3, [.ref h, .int st.1, .int (bI st.2.1), .int (bI st.2.2.1), .int st.2.2.2.1, .int st.2.2.2.2.1, .int st.2.2.2.2.2.1, .int st.2.2.2.2.2.2.1, .int st.2.2.2.2.2.2.2.1, .int st.2.2.2.2.2.2.2.2.1, .int st.2.2.2.2.2.2.2.2.2]))] (va_Qi (fun (r : Int32) (_ : Unit) => r = bI (f_De_isUntouched  st)) (ar_W E A (fun _ : Unit => [(hd, .inr (3, [.ref h, .int st.1, .int (bI st.2.1), .int (bI st.2.2.1), .int st.2.2.2.1, .int st.2.2.2.2.1, .int st.2.2.2.2.2.1, .int st.2.2.2.2.2.2.1, .int st.2.2.2.2.2.2.2.1, .int st.2.2.2.2.2.2.2.2.1, .int st.2.2.2.2.2.2.2.2.2]))])) A) := by
  refine Kt.of (by decide) (Nat.le_of_ble_eq_true rfl) ?_
  intro p e s m below meth c ls hx hb hml hown hts hr hlocks hex hin hA hZ hP hK hD hl
  have hS : va_S A s.heap s.heap [] := va_S.rf
  have hl : lv_has ls 1 [(0, .ref hd)] := hl
  refine lv_aload_n hx hb d_De_isUntouched_0 rfl (lv_at hl 0 rfl) ?_
  refine va_get (D := E.1) (ci := 3) (v := .int st.1) (C := R_De) (T := T_De) (N := 11) hx hb hts in_De hown hK hP 0 rfl rfl 1 (by decide) (hts _ m_118) (fun _ h9 => h9) rfl d_De_isUntouched_1 ?_
  refine lv_if_ne (tgt := 18) hx hb d_De_isUntouched_4 (by decide) (fun c1 => ?_) (fun c1 => ?_)
  · skip
    refine lv_iconst (v := 0) hx hb d_De_isUntouched_18 (by decide) ?_
    exact ar_zret hx hb hr hlocks hK hS () (by exact zr_of (b := false) (Eq.trans (f_De_isUntouched_s  st) (Eq.trans (if_neg c1) rfl)) rfl) hP hD rfl d_De_isUntouched_19
  · skip
    refine lv_aload_n hx hb d_De_isUntouched_7 rfl (lv_at hl 0 rfl) ?_
    refine va_get (D := E.1) (ci := 3) (v := .int (bI st.2.2.1)) (C := R_De) (T := T_De) (N := 11) hx hb hts in_De hown hK hP 0 rfl rfl 3 (by decide) (hts _ m_120) (fun _ h9 => h9) rfl d_De_isUntouched_8 ?_
    refine lv_if_ne (tgt := 18) hx hb d_De_isUntouched_11 (by decide) (fun c2 => ?_) (fun c2 => ?_)
    · skip
      refine lv_iconst (v := 0) hx hb d_De_isUntouched_18 (by decide) ?_
      exact ar_zret hx hb hr hlocks hK hS () (by exact zr_of (b := false) (Eq.trans (f_De_isUntouched_s  st) (Eq.trans (if_pos c1) (Eq.trans (if_neg c2) rfl))) rfl) hP hD rfl d_De_isUntouched_19
    · skip
      refine lv_iconst (v := 1) hx hb d_De_isUntouched_14 (by decide) ?_
      refine lv_goto (tgt := 19) hx hb d_De_isUntouched_15 (by decide) ?_
      exact ar_zret hx hb hr hlocks hK hS () (by exact zr_of (b := true) (Eq.trans (f_De_isUntouched_s  st) (Eq.trans (if_pos c1) (Eq.trans (if_pos c2) rfl))) rfl) hP hD rfl d_De_isUntouched_19

noncomputable def f_De_takenBeyond  (st : DeS) : Int32 :=
  if bI st.2.2.1 = 0 then
    0
  else
    (if 0 < (st.2.2.2.2.1 - st.2.2.2.1) then (st.2.2.2.2.1 - st.2.2.2.1) else 0)
theorem f_De_takenBeyond_s  (st : DeS) : f_De_takenBeyond  st = ((
  if bI st.2.2.1 = 0 then
    0
  else
    (if 0 < (st.2.2.2.2.1 - st.2.2.2.1) then (st.2.2.2.2.1 - st.2.2.2.1) else 0)
  : Int32)) := rfl
set_option maxHeartbeats 4000000 in
set_option maxRecDepth 100000 in
theorem c_De_takenBeyond (l : Launch) (E : Ev) (A : Nat → Prop) (hd h : Nat) (st : DeS)   :
    Kt l y_De_takenBeyond b_De_takenBeyond 1 (some .int) 1 0 0 E A [.ref hd] [(hd, .inr (3, [.ref h, .int st.1, .int (bI st.2.1), .int (bI st.2.2.1), .int st.2.2.2.1, .int st.2.2.2.2.1, .int st.2.2.2.2.2.1, .int st.2.2.2.2.2.2.1, .int st.2.2.2.2.2.2.2.1, .int st.2.2.2.2.2.2.2.2.1, .int st.2.2.2.2.2.2.2.2.2]))] (va_Qi (fun (r : Int32) (_ : Unit) => r = f_De_takenBeyond  st) (ar_W E A (fun _ : Unit => [(hd, .inr (3, [.ref h, .int st.1, .int (bI st.2.1), .int (bI st.2.2.1), .int st.2.2.2.1, .int st.2.2.2.2.1, .int st.2.2.2.2.2.1, .int st.2.2.2.2.2.2.1, .int st.2.2.2.2.2.2.2.1, .int st.2.2.2.2.2.2.2.2.1, .int st.2.2.2.2.2.2.2.2.2]))])) A) := by
  refine Kt.of (by decide) (Nat.le_of_ble_eq_true rfl) ?_
  intro p e s m below meth c ls hx hb hml hown hts hr hlocks hex hin hA hZ hP hK hD hl
  have hS : va_S A s.heap s.heap [] := va_S.rf
  have hl : lv_has ls 1 [(0, .ref hd)] := hl
  refine lv_aload_n hx hb d_De_takenBeyond_0 rfl (lv_at hl 0 rfl) ?_
  refine va_get (D := E.1) (ci := 3) (v := .int (bI st.2.2.1)) (C := R_De) (T := T_De) (N := 11) hx hb hts in_De hown hK hP 0 rfl rfl 3 (by decide) (hts _ m_120) (fun _ h9 => h9) rfl d_De_takenBeyond_1 ?_
  refine lv_if_eq (tgt := 23) hx hb d_De_takenBeyond_4 (by decide) (fun c1 => ?_) (fun c1 => ?_)
  · skip
    refine lv_iconst (v := 0) hx hb d_De_takenBeyond_23 (by decide) ?_
    exact ar_iret hx hb hr hlocks hK hS () (by exact Eq.symm (Eq.trans (f_De_takenBeyond_s  st) (Eq.trans (if_pos c1) rfl))) hP hD d_De_takenBeyond_24
  · skip
    refine lv_iconst (v := 0) hx hb d_De_takenBeyond_7 (by decide) ?_
    refine lv_aload_n hx hb d_De_takenBeyond_8 rfl (lv_at hl 0 rfl) ?_
    refine va_get (D := E.1) (ci := 3) (v := .int st.2.2.2.2.1) (C := R_De) (T := T_De) (N := 11) hx hb hts in_De hown hK hP 0 rfl rfl 5 (by decide) (hts _ m_122) (fun _ h9 => h9) rfl d_De_takenBeyond_9 ?_
    refine lv_aload_n hx hb d_De_takenBeyond_12 rfl (lv_at hl 0 rfl) ?_
    refine va_get (D := E.1) (ci := 3) (v := .int st.2.2.2.1) (C := R_De) (T := T_De) (N := 11) hx hb hts in_De hown hK hP 0 rfl rfl 4 (by decide) (hts _ m_121) (fun _ h9 => h9) rfl d_De_takenBeyond_13 ?_
    refine lv_isub hx hb d_De_takenBeyond_16 ?_
    refine va_mmax hx hb (hml.trans hl.1.symm) hown (hts _ m_275) (hts _ m_30) (hts _ m_2) (hts _ m_31) (Nat.le_of_ble_eq_true rfl) (Nat.le_of_ble_eq_true rfl) (Nat.zero_le _) (Nat.zero_le _) d_De_takenBeyond_17 ?_
    refine lv_goto (tgt := 24) hx hb d_De_takenBeyond_20 (by decide) ?_
    exact ar_iret hx hb hr hlocks hK hS () (by exact Eq.symm (Eq.trans (f_De_takenBeyond_s  st) (Eq.trans (if_neg c1) rfl))) hP hD d_De_takenBeyond_24

noncomputable def f_De_take  (st : (DeS) × (RoS)) : (DeS) × (RoS) :=
  let r1 := f_Ro_byteBefore  st.1.2.2.2.1 st.1.2.2.2.2.1 st.2
  if st.1.2.2.2.2.2.1 = 255 then
    if r1 ≤ 143 then
      let x6 := (st.1.2.2.2.2.2.2.2.1 + (r1 <<< (9 &&& 31)))
      let x7 := (st.1.2.2.2.2.1 + 1)
      ((st.1.1, st.1.2.1, st.1.2.2.1, st.1.2.2.2.1, x7, r1, st.1.2.2.2.2.2.2.1, x6, 7, st.1.2.2.2.2.2.2.2.2.2), st.2)
    else
      let x8 := (st.1.2.2.2.2.2.2.2.1 + 65280)
      ((st.1.1, st.1.2.1, st.1.2.2.1, st.1.2.2.2.1, st.1.2.2.2.2.1, st.1.2.2.2.2.2.1, st.1.2.2.2.2.2.2.1, x8, 8, st.1.2.2.2.2.2.2.2.2.2), st.2)
  else
    let x3 := (st.1.2.2.2.2.2.2.2.1 + (r1 <<< (8 &&& 31)))
    let x4 := (st.1.2.2.2.2.1 + 1)
    ((st.1.1, st.1.2.1, st.1.2.2.1, st.1.2.2.2.1, x4, r1, st.1.2.2.2.2.2.2.1, x3, 8, st.1.2.2.2.2.2.2.2.2.2), st.2)
theorem f_De_take_s  (st : (DeS) × (RoS)) : f_De_take  st = ((
  let r1 := f_Ro_byteBefore  st.1.2.2.2.1 st.1.2.2.2.2.1 st.2
  if st.1.2.2.2.2.2.1 = 255 then
    if r1 ≤ 143 then
      let x6 := (st.1.2.2.2.2.2.2.2.1 + (r1 <<< (9 &&& 31)))
      let x7 := (st.1.2.2.2.2.1 + 1)
      ((st.1.1, st.1.2.1, st.1.2.2.1, st.1.2.2.2.1, x7, r1, st.1.2.2.2.2.2.2.1, x6, 7, st.1.2.2.2.2.2.2.2.2.2), st.2)
    else
      let x8 := (st.1.2.2.2.2.2.2.2.1 + 65280)
      ((st.1.1, st.1.2.1, st.1.2.2.1, st.1.2.2.2.1, st.1.2.2.2.2.1, st.1.2.2.2.2.2.1, st.1.2.2.2.2.2.2.1, x8, 8, st.1.2.2.2.2.2.2.2.2.2), st.2)
  else
    let x3 := (st.1.2.2.2.2.2.2.2.1 + (r1 <<< (8 &&& 31)))
    let x4 := (st.1.2.2.2.2.1 + 1)
    ((st.1.1, st.1.2.1, st.1.2.2.1, st.1.2.2.2.1, x4, r1, st.1.2.2.2.2.2.2.1, x3, 8, st.1.2.2.2.2.2.2.2.2.2), st.2)
  : (DeS) × (RoS))) := rfl
set_option maxHeartbeats 4000000 in
set_option maxRecDepth 100000 in
theorem c_De_take (l : Launch) (E : Ev) (A : Nat → Prop) (hd h a1 a2 a3 : Nat) (st : (DeS) × (RoS))   :
    Kt l y_De_take b_De_take 3 none 1 0 0 E A [.ref hd] [(hd, .inr (3, [.ref h, .int st.1.1, .int (bI st.1.2.1), .int (bI st.1.2.2.1), .int st.1.2.2.2.1, .int st.1.2.2.2.2.1, .int st.1.2.2.2.2.2.1, .int st.1.2.2.2.2.2.2.1, .int st.1.2.2.2.2.2.2.2.1, .int st.1.2.2.2.2.2.2.2.2.1, .int st.1.2.2.2.2.2.2.2.2.2])), (h, .inr (0, [.ref a1, .ref a2, .ref a3, .int st.2.1, .int st.2.2.1, .int st.2.2.2.1])), (a1, .inl (E.2.1 0, 42000, .inl st.2.2.2.2.1)), (a2, .inl (E.2.1 0, 513, .inl st.2.2.2.2.2.1)), (a3, .inl (E.2.1 1, 513, .inl st.2.2.2.2.2.2))] (va_Qv (fun u : (DeS) × (RoS) => u = f_De_take  st) (ar_W E A (fun u : (DeS) × (RoS) => [(hd, .inr (3, [.ref h, .int u.1.1, .int (bI u.1.2.1), .int (bI u.1.2.2.1), .int u.1.2.2.2.1, .int u.1.2.2.2.2.1, .int u.1.2.2.2.2.2.1, .int u.1.2.2.2.2.2.2.1, .int u.1.2.2.2.2.2.2.2.1, .int u.1.2.2.2.2.2.2.2.2.1, .int u.1.2.2.2.2.2.2.2.2.2])), (h, .inr (0, [.ref a1, .ref a2, .ref a3, .int u.2.1, .int u.2.2.1, .int u.2.2.2.1])), (a1, .inl (E.2.1 0, 42000, .inl u.2.2.2.2.1)), (a2, .inl (E.2.1 0, 513, .inl u.2.2.2.2.2.1)), (a3, .inl (E.2.1 1, 513, .inl u.2.2.2.2.2.2))])) A) := by
  refine Kt.of (by decide) (Nat.le_of_ble_eq_true rfl) ?_
  intro p e s m below meth c ls hx hb hml hown hts hr hlocks hex hin hA hZ hP hK hD hl
  have hS : va_S A s.heap s.heap [] := va_S.rf
  have hl : lv_has ls 3 [(0, .ref hd)] := hl
  refine lv_aload_n hx hb d_De_take_0 rfl (lv_at hl 0 rfl) ?_
  refine va_get (D := E.1) (ci := 3) (v := .ref h) (C := R_De) (T := T_De) (N := 11) hx hb hts in_De hown hK hP 0 rfl rfl 0 (by decide) (hts _ m_117) (fun _ h9 => h9) rfl d_De_take_1 ?_
  refine lv_aload_n hx hb d_De_take_4 rfl (lv_at hl 0 rfl) ?_
  refine va_get (D := E.1) (ci := 3) (v := .int st.1.2.2.2.1) (C := R_De) (T := T_De) (N := 11) hx hb hts in_De hown hK hP 0 rfl rfl 4 (by decide) (hts _ m_121) (fun _ h9 => h9) rfl d_De_take_5 ?_
  refine lv_aload_n hx hb d_De_take_8 rfl (lv_at hl 0 rfl) ?_
  refine va_get (D := E.1) (ci := 3) (v := .int st.1.2.2.2.2.1) (C := R_De) (T := T_De) (N := 11) hx hb hts in_De hown hK hP 0 rfl rfl 5 (by decide) (hts _ m_122) (fun _ h9 => h9) rfl d_De_take_9 ?_
  refine ar_usei (wr := [(hd, .inr (3, [.ref h, .int st.1.1, .int (bI st.1.2.1), .int (bI st.1.2.2.1), .int st.1.2.2.2.1, .int st.1.2.2.2.2.1, .int st.1.2.2.2.2.2.1, .int st.1.2.2.2.2.2.2.1, .int st.1.2.2.2.2.2.2.2.1, .int st.1.2.2.2.2.2.2.2.2.1, .int st.1.2.2.2.2.2.2.2.2.2]))]) hP hD hS hA [1, 2, 3, 4] [0] rfl rfl rfl (by decide) (ar_runV (n := 2) (As := [.int st.1.2.2.2.1, .int st.1.2.2.2.2.1]) (rest := []) (ci := 0) (q0 := 0) hx hb hml hown hts hP hD hS hA hK hZ (c_Ro_byteBefore l E _ h a1 a2 a3 st.2 st.1.2.2.2.1 st.1.2.2.2.2.1 ) m_511 m_465 m_466 m_4 m_467 (by decide +kernel) ⟨Nat.le_of_ble_eq_true rfl, Nat.le_of_ble_eq_true rfl⟩ [1, 2, 3, 4] rfl rfl rfl rfl rfl rfl rfl hl.1 rfl (Nat.le_of_ble_eq_true rfl) d_De_take_12 ⟨Nat.le_of_ble_eq_true rfl, Nat.le_of_ble_eq_true rfl⟩) (fun r1 _ Hn locsn hw1 hPn hDn hSn => ?_)
  clear hP hD hS
  have hP : va_P E.1 classes [(hd, .inr (3, [.ref h, .int st.1.1, .int (bI st.1.2.1), .int (bI st.1.2.2.1), .int st.1.2.2.2.1, .int st.1.2.2.2.2.1, .int st.1.2.2.2.2.2.1, .int st.1.2.2.2.2.2.2.1, .int st.1.2.2.2.2.2.2.2.1, .int st.1.2.2.2.2.2.2.2.2.1, .int st.1.2.2.2.2.2.2.2.2.2])), (h, .inr (0, [.ref a1, .ref a2, .ref a3, .int st.2.1, .int st.2.2.1, .int st.2.2.2.1])), (a1, .inl (E.2.1 0, 42000, .inl st.2.2.2.2.1)), (a2, .inl (E.2.1 0, 513, .inl st.2.2.2.2.2.1)), (a3, .inl (E.2.1 1, 513, .inl st.2.2.2.2.2.2))] Hn := hPn
  have hD : va_D A [(hd, .inr (3, [.ref h, .int st.1.1, .int (bI st.1.2.1), .int (bI st.1.2.2.1), .int st.1.2.2.2.1, .int st.1.2.2.2.2.1, .int st.1.2.2.2.2.2.1, .int st.1.2.2.2.2.2.2.1, .int st.1.2.2.2.2.2.2.2.1, .int st.1.2.2.2.2.2.2.2.2.1, .int st.1.2.2.2.2.2.2.2.2.2])), (h, .inr (0, [.ref a1, .ref a2, .ref a3, .int st.2.1, .int st.2.2.1, .int st.2.2.2.1])), (a1, .inl (E.2.1 0, 42000, .inl st.2.2.2.2.1)), (a2, .inl (E.2.1 0, 513, .inl st.2.2.2.2.2.1)), (a3, .inl (E.2.1 1, 513, .inl st.2.2.2.2.2.2))] := hDn
  have hS := hSn
  clear hPn hDn hSn
  refine lv_istore_n (lv' := [(1, .int r1), (0, .ref hd)]) hx hb d_De_take_15 rfl hl (by decide) rfl (fun ls hl => ?_)
  refine lv_aload_n hx hb d_De_take_16 rfl (lv_at hl 1 rfl) ?_
  refine va_get (D := E.1) (ci := 3) (v := .int st.1.2.2.2.2.2.1) (C := R_De) (T := T_De) (N := 11) hx hb hts in_De hown hK hP 0 rfl rfl 6 (by decide) (hts _ m_123) (fun _ h9 => h9) rfl d_De_take_17 ?_
  refine lv_sipush (v := 255) hx hb d_De_take_20 (by decide) ?_
  refine lv_icmp_ne (tgt := 30) hx hb d_De_take_23 (by decide) (fun c2 => ?_) (fun c2 => ?_)
  · skip
    refine lv_iconst (v := 0) hx hb d_De_take_30 (by decide) ?_
    refine lv_istore_n (lv' := [(2, .int 0), (1, .int r1), (0, .ref hd)]) hx hb d_De_take_31 rfl hl (by decide) rfl (fun ls hl => ?_)
    refine lv_iload_n hx hb d_De_take_32 rfl (lv_at hl 0 rfl) ?_
    refine lv_if_eq (tgt := 61) hx hb d_De_take_33 (by decide) (fun cz => ?_) (fun cz => absurd cz (by decide))
    refine lv_aload_n hx hb d_De_take_61 rfl (lv_at hl 2 rfl) ?_
    refine lv_dup hx hb d_De_take_62 rfl ?_
    refine va_get (D := E.1) (ci := 3) (v := .int st.1.2.2.2.2.2.2.2.1) (C := R_De) (T := T_De) (N := 11) hx hb hts in_De hown hK hP 0 rfl rfl 8 (by decide) (hts _ m_125) (fun _ h9 => h9) rfl d_De_take_63 ?_
    refine lv_iload_n hx hb d_De_take_66 rfl (lv_at hl 1 rfl) ?_
    refine lv_iload_n hx hb d_De_take_67 rfl (lv_at hl 0 rfl) ?_
    refine lv_if_eq (tgt := 76) hx hb d_De_take_68 (by decide) (fun cz => ?_) (fun cz => absurd cz (by decide))
    refine lv_bipush (v := 8) hx hb d_De_take_76 (by decide) ?_
    refine lv_ishl hx hb d_De_take_78 ?_
    refine lv_iadd hx hb d_De_take_79 ?_
    refine lv_topi (fun x3 ex3 => ?_)
    refine va_put (D := E.1) (ci := 3) (v := .int x3) (ty := .int) (C := R_De) (T := T_De) (N := 11) hx hb hts in_De t_De t_De_ok n_De hown hK hP hD hS 0 rfl rfl 8 (by decide) (hts _ m_125) (fun _ h9 => h9) rfl (by decide +kernel) rfl rfl (Nat.le_of_ble_eq_true rfl) d_De_take_80 (fun Hn locsn hPn hDn hSn => ?_)
    clear hP hD hS
    have hP : va_P E.1 classes [(hd, .inr (3, [.ref h, .int st.1.1, .int (bI st.1.2.1), .int (bI st.1.2.2.1), .int st.1.2.2.2.1, .int st.1.2.2.2.2.1, .int st.1.2.2.2.2.2.1, .int st.1.2.2.2.2.2.2.1, .int x3, .int st.1.2.2.2.2.2.2.2.2.1, .int st.1.2.2.2.2.2.2.2.2.2])), (h, .inr (0, [.ref a1, .ref a2, .ref a3, .int st.2.1, .int st.2.2.1, .int st.2.2.2.1])), (a1, .inl (E.2.1 0, 42000, .inl st.2.2.2.2.1)), (a2, .inl (E.2.1 0, 513, .inl st.2.2.2.2.2.1)), (a3, .inl (E.2.1 1, 513, .inl st.2.2.2.2.2.2))] Hn := hPn
    have hD : va_D A [(hd, .inr (3, [.ref h, .int st.1.1, .int (bI st.1.2.1), .int (bI st.1.2.2.1), .int st.1.2.2.2.1, .int st.1.2.2.2.2.1, .int st.1.2.2.2.2.2.1, .int st.1.2.2.2.2.2.2.1, .int x3, .int st.1.2.2.2.2.2.2.2.2.1, .int st.1.2.2.2.2.2.2.2.2.2])), (h, .inr (0, [.ref a1, .ref a2, .ref a3, .int st.2.1, .int st.2.2.1, .int st.2.2.2.1])), (a1, .inl (E.2.1 0, 42000, .inl st.2.2.2.2.1)), (a2, .inl (E.2.1 0, 513, .inl st.2.2.2.2.2.1)), (a3, .inl (E.2.1 1, 513, .inl st.2.2.2.2.2.2))] := hDn
    have hS := hSn
    clear hPn hDn hSn
    refine lv_aload_n hx hb d_De_take_83 rfl (lv_at hl 2 rfl) ?_
    refine lv_iload_n hx hb d_De_take_84 rfl (lv_at hl 0 rfl) ?_
    refine lv_if_eq (tgt := 93) hx hb d_De_take_85 (by decide) (fun cz => ?_) (fun cz => absurd cz (by decide))
    refine lv_bipush (v := 8) hx hb d_De_take_93 (by decide) ?_
    refine va_put (D := E.1) (ci := 3) (v := .int 8) (ty := .int) (C := R_De) (T := T_De) (N := 11) hx hb hts in_De t_De t_De_ok n_De hown hK hP hD hS 0 rfl rfl 9 (by decide) (hts _ m_126) (fun _ h9 => h9) rfl (by decide +kernel) rfl rfl (Nat.le_of_ble_eq_true rfl) d_De_take_95 (fun Hn locsn hPn hDn hSn => ?_)
    clear hP hD hS
    have hP : va_P E.1 classes [(hd, .inr (3, [.ref h, .int st.1.1, .int (bI st.1.2.1), .int (bI st.1.2.2.1), .int st.1.2.2.2.1, .int st.1.2.2.2.2.1, .int st.1.2.2.2.2.2.1, .int st.1.2.2.2.2.2.2.1, .int x3, .int 8, .int st.1.2.2.2.2.2.2.2.2.2])), (h, .inr (0, [.ref a1, .ref a2, .ref a3, .int st.2.1, .int st.2.2.1, .int st.2.2.2.1])), (a1, .inl (E.2.1 0, 42000, .inl st.2.2.2.2.1)), (a2, .inl (E.2.1 0, 513, .inl st.2.2.2.2.2.1)), (a3, .inl (E.2.1 1, 513, .inl st.2.2.2.2.2.2))] Hn := hPn
    have hD : va_D A [(hd, .inr (3, [.ref h, .int st.1.1, .int (bI st.1.2.1), .int (bI st.1.2.2.1), .int st.1.2.2.2.1, .int st.1.2.2.2.2.1, .int st.1.2.2.2.2.2.1, .int st.1.2.2.2.2.2.2.1, .int x3, .int 8, .int st.1.2.2.2.2.2.2.2.2.2])), (h, .inr (0, [.ref a1, .ref a2, .ref a3, .int st.2.1, .int st.2.2.1, .int st.2.2.2.1])), (a1, .inl (E.2.1 0, 42000, .inl st.2.2.2.2.1)), (a2, .inl (E.2.1 0, 513, .inl st.2.2.2.2.2.1)), (a3, .inl (E.2.1 1, 513, .inl st.2.2.2.2.2.2))] := hDn
    have hS := hSn
    clear hPn hDn hSn
    refine lv_aload_n hx hb d_De_take_98 rfl (lv_at hl 2 rfl) ?_
    refine lv_iload_n hx hb d_De_take_99 rfl (lv_at hl 1 rfl) ?_
    refine va_put (D := E.1) (ci := 3) (v := .int r1) (ty := .int) (C := R_De) (T := T_De) (N := 11) hx hb hts in_De t_De t_De_ok n_De hown hK hP hD hS 0 rfl rfl 6 (by decide) (hts _ m_123) (fun _ h9 => h9) rfl (by decide +kernel) rfl rfl (Nat.le_of_ble_eq_true rfl) d_De_take_100 (fun Hn locsn hPn hDn hSn => ?_)
    clear hP hD hS
    have hP : va_P E.1 classes [(hd, .inr (3, [.ref h, .int st.1.1, .int (bI st.1.2.1), .int (bI st.1.2.2.1), .int st.1.2.2.2.1, .int st.1.2.2.2.2.1, .int r1, .int st.1.2.2.2.2.2.2.1, .int x3, .int 8, .int st.1.2.2.2.2.2.2.2.2.2])), (h, .inr (0, [.ref a1, .ref a2, .ref a3, .int st.2.1, .int st.2.2.1, .int st.2.2.2.1])), (a1, .inl (E.2.1 0, 42000, .inl st.2.2.2.2.1)), (a2, .inl (E.2.1 0, 513, .inl st.2.2.2.2.2.1)), (a3, .inl (E.2.1 1, 513, .inl st.2.2.2.2.2.2))] Hn := hPn
    have hD : va_D A [(hd, .inr (3, [.ref h, .int st.1.1, .int (bI st.1.2.1), .int (bI st.1.2.2.1), .int st.1.2.2.2.1, .int st.1.2.2.2.2.1, .int r1, .int st.1.2.2.2.2.2.2.1, .int x3, .int 8, .int st.1.2.2.2.2.2.2.2.2.2])), (h, .inr (0, [.ref a1, .ref a2, .ref a3, .int st.2.1, .int st.2.2.1, .int st.2.2.2.1])), (a1, .inl (E.2.1 0, 42000, .inl st.2.2.2.2.1)), (a2, .inl (E.2.1 0, 513, .inl st.2.2.2.2.2.1)), (a3, .inl (E.2.1 1, 513, .inl st.2.2.2.2.2.2))] := hDn
    have hS := hSn
    clear hPn hDn hSn
    refine lv_aload_n hx hb d_De_take_103 rfl (lv_at hl 2 rfl) ?_
    refine lv_dup hx hb d_De_take_104 rfl ?_
    refine va_get (D := E.1) (ci := 3) (v := .int st.1.2.2.2.2.1) (C := R_De) (T := T_De) (N := 11) hx hb hts in_De hown hK hP 0 rfl rfl 5 (by decide) (hts _ m_122) (fun _ h9 => h9) rfl d_De_take_105 ?_
    refine lv_iconst (v := 1) hx hb d_De_take_108 (by decide) ?_
    refine lv_iadd hx hb d_De_take_109 ?_
    refine lv_topi (fun x4 ex4 => ?_)
    refine va_put (D := E.1) (ci := 3) (v := .int x4) (ty := .int) (C := R_De) (T := T_De) (N := 11) hx hb hts in_De t_De t_De_ok n_De hown hK hP hD hS 0 rfl rfl 5 (by decide) (hts _ m_122) (fun _ h9 => h9) rfl (by decide +kernel) rfl rfl (Nat.le_of_ble_eq_true rfl) d_De_take_110 (fun Hn locsn hPn hDn hSn => ?_)
    clear hP hD hS
    have hP : va_P E.1 classes [(hd, .inr (3, [.ref h, .int st.1.1, .int (bI st.1.2.1), .int (bI st.1.2.2.1), .int st.1.2.2.2.1, .int x4, .int r1, .int st.1.2.2.2.2.2.2.1, .int x3, .int 8, .int st.1.2.2.2.2.2.2.2.2.2])), (h, .inr (0, [.ref a1, .ref a2, .ref a3, .int st.2.1, .int st.2.2.1, .int st.2.2.2.1])), (a1, .inl (E.2.1 0, 42000, .inl st.2.2.2.2.1)), (a2, .inl (E.2.1 0, 513, .inl st.2.2.2.2.2.1)), (a3, .inl (E.2.1 1, 513, .inl st.2.2.2.2.2.2))] Hn := hPn
    have hD : va_D A [(hd, .inr (3, [.ref h, .int st.1.1, .int (bI st.1.2.1), .int (bI st.1.2.2.1), .int st.1.2.2.2.1, .int x4, .int r1, .int st.1.2.2.2.2.2.2.1, .int x3, .int 8, .int st.1.2.2.2.2.2.2.2.2.2])), (h, .inr (0, [.ref a1, .ref a2, .ref a3, .int st.2.1, .int st.2.2.1, .int st.2.2.2.1])), (a1, .inl (E.2.1 0, 42000, .inl st.2.2.2.2.1)), (a2, .inl (E.2.1 0, 513, .inl st.2.2.2.2.2.1)), (a3, .inl (E.2.1 1, 513, .inl st.2.2.2.2.2.2))] := hDn
    have hS := hSn
    clear hPn hDn hSn
    exact ar_vret hx hb hr hlocks hK hS ((st.1.1, st.1.2.1, st.1.2.2.1, st.1.2.2.2.1, x4, r1, st.1.2.2.2.2.2.2.1, x3, 8, st.1.2.2.2.2.2.2.2.2.2), st.2) (by subst ex4; subst ex3; subst hw1; exact Eq.symm (Eq.trans (f_De_take_s  st) (Eq.trans (if_neg c2) rfl))) hP hD d_De_take_113
  · skip
    refine lv_iconst (v := 1) hx hb d_De_take_26 (by decide) ?_
    refine lv_goto (tgt := 31) hx hb d_De_take_27 (by decide) ?_
    refine lv_istore_n (lv' := [(2, .int 1), (1, .int r1), (0, .ref hd)]) hx hb d_De_take_31 rfl hl (by decide) rfl (fun ls hl => ?_)
    refine lv_iload_n hx hb d_De_take_32 rfl (lv_at hl 0 rfl) ?_
    refine lv_if_eq (tgt := 61) hx hb d_De_take_33 (by decide) (fun cz => absurd cz (by decide)) (fun cz => ?_)
    refine lv_iload_n hx hb d_De_take_36 rfl (lv_at hl 1 rfl) ?_
    refine lv_sipush (v := 143) hx hb d_De_take_37 (by decide) ?_
    refine lv_icmp_le (tgt := 61) hx hb d_De_take_40 (by decide) (fun c5 => ?_) (fun c5 => ?_)
    · skip
      refine lv_aload_n hx hb d_De_take_61 rfl (lv_at hl 2 rfl) ?_
      refine lv_dup hx hb d_De_take_62 rfl ?_
      refine va_get (D := E.1) (ci := 3) (v := .int st.1.2.2.2.2.2.2.2.1) (C := R_De) (T := T_De) (N := 11) hx hb hts in_De hown hK hP 0 rfl rfl 8 (by decide) (hts _ m_125) (fun _ h9 => h9) rfl d_De_take_63 ?_
      refine lv_iload_n hx hb d_De_take_66 rfl (lv_at hl 1 rfl) ?_
      refine lv_iload_n hx hb d_De_take_67 rfl (lv_at hl 0 rfl) ?_
      refine lv_if_eq (tgt := 76) hx hb d_De_take_68 (by decide) (fun cz => absurd cz (by decide)) (fun cz => ?_)
      refine lv_bipush (v := 9) hx hb d_De_take_71 (by decide) ?_
      refine lv_goto (tgt := 78) hx hb d_De_take_73 (by decide) ?_
      refine lv_ishl hx hb d_De_take_78 ?_
      refine lv_iadd hx hb d_De_take_79 ?_
      refine lv_topi (fun x6 ex6 => ?_)
      refine va_put (D := E.1) (ci := 3) (v := .int x6) (ty := .int) (C := R_De) (T := T_De) (N := 11) hx hb hts in_De t_De t_De_ok n_De hown hK hP hD hS 0 rfl rfl 8 (by decide) (hts _ m_125) (fun _ h9 => h9) rfl (by decide +kernel) rfl rfl (Nat.le_of_ble_eq_true rfl) d_De_take_80 (fun Hn locsn hPn hDn hSn => ?_)
      clear hP hD hS
      have hP : va_P E.1 classes [(hd, .inr (3, [.ref h, .int st.1.1, .int (bI st.1.2.1), .int (bI st.1.2.2.1), .int st.1.2.2.2.1, .int st.1.2.2.2.2.1, .int st.1.2.2.2.2.2.1, .int st.1.2.2.2.2.2.2.1, .int x6, .int st.1.2.2.2.2.2.2.2.2.1, .int st.1.2.2.2.2.2.2.2.2.2])), (h, .inr (0, [.ref a1, .ref a2, .ref a3, .int st.2.1, .int st.2.2.1, .int st.2.2.2.1])), (a1, .inl (E.2.1 0, 42000, .inl st.2.2.2.2.1)), (a2, .inl (E.2.1 0, 513, .inl st.2.2.2.2.2.1)), (a3, .inl (E.2.1 1, 513, .inl st.2.2.2.2.2.2))] Hn := hPn
      have hD : va_D A [(hd, .inr (3, [.ref h, .int st.1.1, .int (bI st.1.2.1), .int (bI st.1.2.2.1), .int st.1.2.2.2.1, .int st.1.2.2.2.2.1, .int st.1.2.2.2.2.2.1, .int st.1.2.2.2.2.2.2.1, .int x6, .int st.1.2.2.2.2.2.2.2.2.1, .int st.1.2.2.2.2.2.2.2.2.2])), (h, .inr (0, [.ref a1, .ref a2, .ref a3, .int st.2.1, .int st.2.2.1, .int st.2.2.2.1])), (a1, .inl (E.2.1 0, 42000, .inl st.2.2.2.2.1)), (a2, .inl (E.2.1 0, 513, .inl st.2.2.2.2.2.1)), (a3, .inl (E.2.1 1, 513, .inl st.2.2.2.2.2.2))] := hDn
      have hS := hSn
      clear hPn hDn hSn
      refine lv_aload_n hx hb d_De_take_83 rfl (lv_at hl 2 rfl) ?_
      refine lv_iload_n hx hb d_De_take_84 rfl (lv_at hl 0 rfl) ?_
      refine lv_if_eq (tgt := 93) hx hb d_De_take_85 (by decide) (fun cz => absurd cz (by decide)) (fun cz => ?_)
      refine lv_bipush (v := 7) hx hb d_De_take_88 (by decide) ?_
      refine lv_goto (tgt := 95) hx hb d_De_take_90 (by decide) ?_
      refine va_put (D := E.1) (ci := 3) (v := .int 7) (ty := .int) (C := R_De) (T := T_De) (N := 11) hx hb hts in_De t_De t_De_ok n_De hown hK hP hD hS 0 rfl rfl 9 (by decide) (hts _ m_126) (fun _ h9 => h9) rfl (by decide +kernel) rfl rfl (Nat.le_of_ble_eq_true rfl) d_De_take_95 (fun Hn locsn hPn hDn hSn => ?_)
      clear hP hD hS
      have hP : va_P E.1 classes [(hd, .inr (3, [.ref h, .int st.1.1, .int (bI st.1.2.1), .int (bI st.1.2.2.1), .int st.1.2.2.2.1, .int st.1.2.2.2.2.1, .int st.1.2.2.2.2.2.1, .int st.1.2.2.2.2.2.2.1, .int x6, .int 7, .int st.1.2.2.2.2.2.2.2.2.2])), (h, .inr (0, [.ref a1, .ref a2, .ref a3, .int st.2.1, .int st.2.2.1, .int st.2.2.2.1])), (a1, .inl (E.2.1 0, 42000, .inl st.2.2.2.2.1)), (a2, .inl (E.2.1 0, 513, .inl st.2.2.2.2.2.1)), (a3, .inl (E.2.1 1, 513, .inl st.2.2.2.2.2.2))] Hn := hPn
      have hD : va_D A [(hd, .inr (3, [.ref h, .int st.1.1, .int (bI st.1.2.1), .int (bI st.1.2.2.1), .int st.1.2.2.2.1, .int st.1.2.2.2.2.1, .int st.1.2.2.2.2.2.1, .int st.1.2.2.2.2.2.2.1, .int x6, .int 7, .int st.1.2.2.2.2.2.2.2.2.2])), (h, .inr (0, [.ref a1, .ref a2, .ref a3, .int st.2.1, .int st.2.2.1, .int st.2.2.2.1])), (a1, .inl (E.2.1 0, 42000, .inl st.2.2.2.2.1)), (a2, .inl (E.2.1 0, 513, .inl st.2.2.2.2.2.1)), (a3, .inl (E.2.1 1, 513, .inl st.2.2.2.2.2.2))] := hDn
      have hS := hSn
      clear hPn hDn hSn
      refine lv_aload_n hx hb d_De_take_98 rfl (lv_at hl 2 rfl) ?_
      refine lv_iload_n hx hb d_De_take_99 rfl (lv_at hl 1 rfl) ?_
      refine va_put (D := E.1) (ci := 3) (v := .int r1) (ty := .int) (C := R_De) (T := T_De) (N := 11) hx hb hts in_De t_De t_De_ok n_De hown hK hP hD hS 0 rfl rfl 6 (by decide) (hts _ m_123) (fun _ h9 => h9) rfl (by decide +kernel) rfl rfl (Nat.le_of_ble_eq_true rfl) d_De_take_100 (fun Hn locsn hPn hDn hSn => ?_)
      clear hP hD hS
      have hP : va_P E.1 classes [(hd, .inr (3, [.ref h, .int st.1.1, .int (bI st.1.2.1), .int (bI st.1.2.2.1), .int st.1.2.2.2.1, .int st.1.2.2.2.2.1, .int r1, .int st.1.2.2.2.2.2.2.1, .int x6, .int 7, .int st.1.2.2.2.2.2.2.2.2.2])), (h, .inr (0, [.ref a1, .ref a2, .ref a3, .int st.2.1, .int st.2.2.1, .int st.2.2.2.1])), (a1, .inl (E.2.1 0, 42000, .inl st.2.2.2.2.1)), (a2, .inl (E.2.1 0, 513, .inl st.2.2.2.2.2.1)), (a3, .inl (E.2.1 1, 513, .inl st.2.2.2.2.2.2))] Hn := hPn
      have hD : va_D A [(hd, .inr (3, [.ref h, .int st.1.1, .int (bI st.1.2.1), .int (bI st.1.2.2.1), .int st.1.2.2.2.1, .int st.1.2.2.2.2.1, .int r1, .int st.1.2.2.2.2.2.2.1, .int x6, .int 7, .int st.1.2.2.2.2.2.2.2.2.2])), (h, .inr (0, [.ref a1, .ref a2, .ref a3, .int st.2.1, .int st.2.2.1, .int st.2.2.2.1])), (a1, .inl (E.2.1 0, 42000, .inl st.2.2.2.2.1)), (a2, .inl (E.2.1 0, 513, .inl st.2.2.2.2.2.1)), (a3, .inl (E.2.1 1, 513, .inl st.2.2.2.2.2.2))] := hDn
      have hS := hSn
      clear hPn hDn hSn
      refine lv_aload_n hx hb d_De_take_103 rfl (lv_at hl 2 rfl) ?_
      refine lv_dup hx hb d_De_take_104 rfl ?_
      refine va_get (D := E.1) (ci := 3) (v := .int st.1.2.2.2.2.1) (C := R_De) (T := T_De) (N := 11) hx hb hts in_De hown hK hP 0 rfl rfl 5 (by decide) (hts _ m_122) (fun _ h9 => h9) rfl d_De_take_105 ?_
      refine lv_iconst (v := 1) hx hb d_De_take_108 (by decide) ?_
      refine lv_iadd hx hb d_De_take_109 ?_
      refine lv_topi (fun x7 ex7 => ?_)
      refine va_put (D := E.1) (ci := 3) (v := .int x7) (ty := .int) (C := R_De) (T := T_De) (N := 11) hx hb hts in_De t_De t_De_ok n_De hown hK hP hD hS 0 rfl rfl 5 (by decide) (hts _ m_122) (fun _ h9 => h9) rfl (by decide +kernel) rfl rfl (Nat.le_of_ble_eq_true rfl) d_De_take_110 (fun Hn locsn hPn hDn hSn => ?_)
      clear hP hD hS
      have hP : va_P E.1 classes [(hd, .inr (3, [.ref h, .int st.1.1, .int (bI st.1.2.1), .int (bI st.1.2.2.1), .int st.1.2.2.2.1, .int x7, .int r1, .int st.1.2.2.2.2.2.2.1, .int x6, .int 7, .int st.1.2.2.2.2.2.2.2.2.2])), (h, .inr (0, [.ref a1, .ref a2, .ref a3, .int st.2.1, .int st.2.2.1, .int st.2.2.2.1])), (a1, .inl (E.2.1 0, 42000, .inl st.2.2.2.2.1)), (a2, .inl (E.2.1 0, 513, .inl st.2.2.2.2.2.1)), (a3, .inl (E.2.1 1, 513, .inl st.2.2.2.2.2.2))] Hn := hPn
      have hD : va_D A [(hd, .inr (3, [.ref h, .int st.1.1, .int (bI st.1.2.1), .int (bI st.1.2.2.1), .int st.1.2.2.2.1, .int x7, .int r1, .int st.1.2.2.2.2.2.2.1, .int x6, .int 7, .int st.1.2.2.2.2.2.2.2.2.2])), (h, .inr (0, [.ref a1, .ref a2, .ref a3, .int st.2.1, .int st.2.2.1, .int st.2.2.2.1])), (a1, .inl (E.2.1 0, 42000, .inl st.2.2.2.2.1)), (a2, .inl (E.2.1 0, 513, .inl st.2.2.2.2.2.1)), (a3, .inl (E.2.1 1, 513, .inl st.2.2.2.2.2.2))] := hDn
      have hS := hSn
      clear hPn hDn hSn
      exact ar_vret hx hb hr hlocks hK hS ((st.1.1, st.1.2.1, st.1.2.2.1, st.1.2.2.2.1, x7, r1, st.1.2.2.2.2.2.2.1, x6, 7, st.1.2.2.2.2.2.2.2.2.2), st.2) (by subst ex7; subst ex6; subst hw1; exact Eq.symm (Eq.trans (f_De_take_s  st) (Eq.trans (if_pos c2) (Eq.trans (if_pos c5) rfl)))) hP hD d_De_take_113
    · skip
      refine lv_aload_n hx hb d_De_take_43 rfl (lv_at hl 2 rfl) ?_
      refine lv_dup hx hb d_De_take_44 rfl ?_
      refine va_get (D := E.1) (ci := 3) (v := .int st.1.2.2.2.2.2.2.2.1) (C := R_De) (T := T_De) (N := 11) hx hb hts in_De hown hK hP 0 rfl rfl 8 (by decide) (hts _ m_125) (fun _ h9 => h9) rfl d_De_take_45 ?_
      refine lv_ldc (v := 65280) hx hb hown (hts _ m_516) d_De_take_48 ?_
      refine lv_iadd hx hb d_De_take_50 ?_
      refine lv_topi (fun x8 ex8 => ?_)
      refine va_put (D := E.1) (ci := 3) (v := .int x8) (ty := .int) (C := R_De) (T := T_De) (N := 11) hx hb hts in_De t_De t_De_ok n_De hown hK hP hD hS 0 rfl rfl 8 (by decide) (hts _ m_125) (fun _ h9 => h9) rfl (by decide +kernel) rfl rfl (Nat.le_of_ble_eq_true rfl) d_De_take_51 (fun Hn locsn hPn hDn hSn => ?_)
      clear hP hD hS
      have hP : va_P E.1 classes [(hd, .inr (3, [.ref h, .int st.1.1, .int (bI st.1.2.1), .int (bI st.1.2.2.1), .int st.1.2.2.2.1, .int st.1.2.2.2.2.1, .int st.1.2.2.2.2.2.1, .int st.1.2.2.2.2.2.2.1, .int x8, .int st.1.2.2.2.2.2.2.2.2.1, .int st.1.2.2.2.2.2.2.2.2.2])), (h, .inr (0, [.ref a1, .ref a2, .ref a3, .int st.2.1, .int st.2.2.1, .int st.2.2.2.1])), (a1, .inl (E.2.1 0, 42000, .inl st.2.2.2.2.1)), (a2, .inl (E.2.1 0, 513, .inl st.2.2.2.2.2.1)), (a3, .inl (E.2.1 1, 513, .inl st.2.2.2.2.2.2))] Hn := hPn
      have hD : va_D A [(hd, .inr (3, [.ref h, .int st.1.1, .int (bI st.1.2.1), .int (bI st.1.2.2.1), .int st.1.2.2.2.1, .int st.1.2.2.2.2.1, .int st.1.2.2.2.2.2.1, .int st.1.2.2.2.2.2.2.1, .int x8, .int st.1.2.2.2.2.2.2.2.2.1, .int st.1.2.2.2.2.2.2.2.2.2])), (h, .inr (0, [.ref a1, .ref a2, .ref a3, .int st.2.1, .int st.2.2.1, .int st.2.2.2.1])), (a1, .inl (E.2.1 0, 42000, .inl st.2.2.2.2.1)), (a2, .inl (E.2.1 0, 513, .inl st.2.2.2.2.2.1)), (a3, .inl (E.2.1 1, 513, .inl st.2.2.2.2.2.2))] := hDn
      have hS := hSn
      clear hPn hDn hSn
      refine lv_aload_n hx hb d_De_take_54 rfl (lv_at hl 2 rfl) ?_
      refine lv_bipush (v := 8) hx hb d_De_take_55 (by decide) ?_
      refine va_put (D := E.1) (ci := 3) (v := .int 8) (ty := .int) (C := R_De) (T := T_De) (N := 11) hx hb hts in_De t_De t_De_ok n_De hown hK hP hD hS 0 rfl rfl 9 (by decide) (hts _ m_126) (fun _ h9 => h9) rfl (by decide +kernel) rfl rfl (Nat.le_of_ble_eq_true rfl) d_De_take_57 (fun Hn locsn hPn hDn hSn => ?_)
      clear hP hD hS
      have hP : va_P E.1 classes [(hd, .inr (3, [.ref h, .int st.1.1, .int (bI st.1.2.1), .int (bI st.1.2.2.1), .int st.1.2.2.2.1, .int st.1.2.2.2.2.1, .int st.1.2.2.2.2.2.1, .int st.1.2.2.2.2.2.2.1, .int x8, .int 8, .int st.1.2.2.2.2.2.2.2.2.2])), (h, .inr (0, [.ref a1, .ref a2, .ref a3, .int st.2.1, .int st.2.2.1, .int st.2.2.2.1])), (a1, .inl (E.2.1 0, 42000, .inl st.2.2.2.2.1)), (a2, .inl (E.2.1 0, 513, .inl st.2.2.2.2.2.1)), (a3, .inl (E.2.1 1, 513, .inl st.2.2.2.2.2.2))] Hn := hPn
      have hD : va_D A [(hd, .inr (3, [.ref h, .int st.1.1, .int (bI st.1.2.1), .int (bI st.1.2.2.1), .int st.1.2.2.2.1, .int st.1.2.2.2.2.1, .int st.1.2.2.2.2.2.1, .int st.1.2.2.2.2.2.2.1, .int x8, .int 8, .int st.1.2.2.2.2.2.2.2.2.2])), (h, .inr (0, [.ref a1, .ref a2, .ref a3, .int st.2.1, .int st.2.2.1, .int st.2.2.2.1])), (a1, .inl (E.2.1 0, 42000, .inl st.2.2.2.2.1)), (a2, .inl (E.2.1 0, 513, .inl st.2.2.2.2.2.1)), (a3, .inl (E.2.1 1, 513, .inl st.2.2.2.2.2.2))] := hDn
      have hS := hSn
      clear hPn hDn hSn
      exact ar_vret hx hb hr hlocks hK hS ((st.1.1, st.1.2.1, st.1.2.2.1, st.1.2.2.2.1, st.1.2.2.2.2.1, st.1.2.2.2.2.2.1, st.1.2.2.2.2.2.2.1, x8, 8, st.1.2.2.2.2.2.2.2.2.2), st.2) (by subst ex8; subst hw1; exact Eq.symm (Eq.trans (f_De_take_s  st) (Eq.trans (if_pos c2) (Eq.trans (if_neg c5) rfl)))) hP hD d_De_take_60

noncomputable def f_De_start  (st : (DeS) × (RoS)) : (DeS) × (RoS) :=
  let r2 := f_Ro_startOf  st.1.1 st.2
  let r4 := f_Ro_endOf  st.1.1 st.2
  if bI st.1.2.1 = 0 then
    let r6 := f_Ro_byteBefore  r4 r2 st.2
    let x7 := (r2 + 1)
    let x8 := (r6 <<< (16 &&& 31))
    let u9 := f_De_take   ((st.1.1, st.1.2.1, true, r4, x7, r6, st.1.2.2.2.2.2.2.1, x8, st.1.2.2.2.2.2.2.2.2.1, st.1.2.2.2.2.2.2.2.2.2), st.2)
    let x10 := (u9.1.2.2.2.2.2.2.2.1 <<< (7 &&& 31))
    let x11 := (u9.1.2.2.2.2.2.2.2.2.1 - 7)
    ((u9.1.1, u9.1.2.1, u9.1.2.2.1, u9.1.2.2.2.1, u9.1.2.2.2.2.1, u9.1.2.2.2.2.2.1, 32768, x10, x11, u9.1.2.2.2.2.2.2.2.2.2), u9.2)
  else
    ((st.1.1, st.1.2.1, true, r4, r2, st.1.2.2.2.2.2.1, st.1.2.2.2.2.2.2.1, st.1.2.2.2.2.2.2.2.1, st.1.2.2.2.2.2.2.2.2.1, st.1.2.2.2.2.2.2.2.2.2), st.2)
theorem f_De_start_s  (st : (DeS) × (RoS)) : f_De_start  st = ((
  let r2 := f_Ro_startOf  st.1.1 st.2
  let r4 := f_Ro_endOf  st.1.1 st.2
  if bI st.1.2.1 = 0 then
    let r6 := f_Ro_byteBefore  r4 r2 st.2
    let x7 := (r2 + 1)
    let x8 := (r6 <<< (16 &&& 31))
    let u9 := f_De_take   ((st.1.1, st.1.2.1, true, r4, x7, r6, st.1.2.2.2.2.2.2.1, x8, st.1.2.2.2.2.2.2.2.2.1, st.1.2.2.2.2.2.2.2.2.2), st.2)
    let x10 := (u9.1.2.2.2.2.2.2.2.1 <<< (7 &&& 31))
    let x11 := (u9.1.2.2.2.2.2.2.2.2.1 - 7)
    ((u9.1.1, u9.1.2.1, u9.1.2.2.1, u9.1.2.2.2.1, u9.1.2.2.2.2.1, u9.1.2.2.2.2.2.1, 32768, x10, x11, u9.1.2.2.2.2.2.2.2.2.2), u9.2)
  else
    ((st.1.1, st.1.2.1, true, r4, r2, st.1.2.2.2.2.2.1, st.1.2.2.2.2.2.2.1, st.1.2.2.2.2.2.2.2.1, st.1.2.2.2.2.2.2.2.2.1, st.1.2.2.2.2.2.2.2.2.2), st.2)
  : (DeS) × (RoS))) := rfl
def k_De_start  (st : (DeS) × (RoS)) : Prop := (st.2.2.1 ≤ 513) ∧ ((∀ r2, r2 = f_Ro_startOf  st.1.1 st.2 → (k_Ro_endOf  st.1.1 st.2) ∧ ((∀ r4, r4 = f_Ro_endOf  st.1.1 st.2 → ((bI st.1.2.1 = 0) → (∀ r6, r6 = f_Ro_byteBefore  r4 r2 st.2 → (∀ x7, x7 = (r2 + 1) → (∀ x8, x8 = (r6 <<< (16 &&& 31)) → (∀ u9, u9 = f_De_take   ((st.1.1, st.1.2.1, true, r4, x7, r6, st.1.2.2.2.2.2.2.1, x8, st.1.2.2.2.2.2.2.2.2.1, st.1.2.2.2.2.2.2.2.2.2), st.2) → (∀ x10, x10 = (u9.1.2.2.2.2.2.2.2.1 <<< (7 &&& 31)) → (∀ x11, x11 = (u9.1.2.2.2.2.2.2.2.2.1 - 7) → True))))))) ∧ (¬ (bI st.1.2.1 = 0) → True)))))
set_option maxHeartbeats 4000000 in
set_option maxRecDepth 100000 in
theorem c_De_start (l : Launch) (E : Ev) (A : Nat → Prop) (hd h a1 a2 a3 : Nat) (st : (DeS) × (RoS))   (hok : k_De_start  st) :
    Kt l y_De_start b_De_start 1 none 3 0 0 E A [.ref hd] [(hd, .inr (3, [.ref h, .int st.1.1, .int (bI st.1.2.1), .int (bI st.1.2.2.1), .int st.1.2.2.2.1, .int st.1.2.2.2.2.1, .int st.1.2.2.2.2.2.1, .int st.1.2.2.2.2.2.2.1, .int st.1.2.2.2.2.2.2.2.1, .int st.1.2.2.2.2.2.2.2.2.1, .int st.1.2.2.2.2.2.2.2.2.2])), (h, .inr (0, [.ref a1, .ref a2, .ref a3, .int st.2.1, .int st.2.2.1, .int st.2.2.2.1])), (a1, .inl (E.2.1 0, 42000, .inl st.2.2.2.2.1)), (a2, .inl (E.2.1 0, 513, .inl st.2.2.2.2.2.1)), (a3, .inl (E.2.1 1, 513, .inl st.2.2.2.2.2.2))] (va_Qv (fun u : (DeS) × (RoS) => u = f_De_start  st) (ar_W E A (fun u : (DeS) × (RoS) => [(hd, .inr (3, [.ref h, .int u.1.1, .int (bI u.1.2.1), .int (bI u.1.2.2.1), .int u.1.2.2.2.1, .int u.1.2.2.2.2.1, .int u.1.2.2.2.2.2.1, .int u.1.2.2.2.2.2.2.1, .int u.1.2.2.2.2.2.2.2.1, .int u.1.2.2.2.2.2.2.2.2.1, .int u.1.2.2.2.2.2.2.2.2.2])), (h, .inr (0, [.ref a1, .ref a2, .ref a3, .int u.2.1, .int u.2.2.1, .int u.2.2.2.1])), (a1, .inl (E.2.1 0, 42000, .inl u.2.2.2.2.1)), (a2, .inl (E.2.1 0, 513, .inl u.2.2.2.2.2.1)), (a3, .inl (E.2.1 1, 513, .inl u.2.2.2.2.2.2))])) A) := by
  unfold k_De_start at hok
  refine Kt.of (by decide) (Nat.le_of_ble_eq_true rfl) ?_
  intro p e s m below meth c ls hx hb hml hown hts hr hlocks hex hin hA hZ hP hK hD hl
  have hS : va_S A s.heap s.heap [] := va_S.rf
  have hl : lv_has ls 1 [(0, .ref hd)] := hl
  refine lv_aload_n hx hb d_De_start_0 rfl (lv_at hl 0 rfl) ?_
  refine lv_iconst (v := 1) hx hb d_De_start_1 (by decide) ?_
  refine va_put (D := E.1) (ci := 3) (v := .int 1) (ty := .boolean) (C := R_De) (T := T_De) (N := 11) hx hb hts in_De t_De t_De_ok n_De hown hK hP hD hS 0 rfl rfl 3 (by decide) (hts _ m_120) (fun _ h9 => h9) rfl (by decide +kernel) rfl rfl (Nat.le_of_ble_eq_true rfl) d_De_start_2 (fun Hn locsn hPn hDn hSn => ?_)
  clear hP hD hS
  have hP : va_P E.1 classes [(hd, .inr (3, [.ref h, .int st.1.1, .int (bI st.1.2.1), .int 1, .int st.1.2.2.2.1, .int st.1.2.2.2.2.1, .int st.1.2.2.2.2.2.1, .int st.1.2.2.2.2.2.2.1, .int st.1.2.2.2.2.2.2.2.1, .int st.1.2.2.2.2.2.2.2.2.1, .int st.1.2.2.2.2.2.2.2.2.2])), (h, .inr (0, [.ref a1, .ref a2, .ref a3, .int st.2.1, .int st.2.2.1, .int st.2.2.2.1])), (a1, .inl (E.2.1 0, 42000, .inl st.2.2.2.2.1)), (a2, .inl (E.2.1 0, 513, .inl st.2.2.2.2.2.1)), (a3, .inl (E.2.1 1, 513, .inl st.2.2.2.2.2.2))] Hn := hPn
  have hD : va_D A [(hd, .inr (3, [.ref h, .int st.1.1, .int (bI st.1.2.1), .int 1, .int st.1.2.2.2.1, .int st.1.2.2.2.2.1, .int st.1.2.2.2.2.2.1, .int st.1.2.2.2.2.2.2.1, .int st.1.2.2.2.2.2.2.2.1, .int st.1.2.2.2.2.2.2.2.2.1, .int st.1.2.2.2.2.2.2.2.2.2])), (h, .inr (0, [.ref a1, .ref a2, .ref a3, .int st.2.1, .int st.2.2.1, .int st.2.2.2.1])), (a1, .inl (E.2.1 0, 42000, .inl st.2.2.2.2.1)), (a2, .inl (E.2.1 0, 513, .inl st.2.2.2.2.2.1)), (a3, .inl (E.2.1 1, 513, .inl st.2.2.2.2.2.2))] := hDn
  have hS := hSn
  clear hPn hDn hSn
  refine lv_aload_n hx hb d_De_start_5 rfl (lv_at hl 0 rfl) ?_
  refine lv_aload_n hx hb d_De_start_6 rfl (lv_at hl 0 rfl) ?_
  refine va_get (D := E.1) (ci := 3) (v := .ref h) (C := R_De) (T := T_De) (N := 11) hx hb hts in_De hown hK hP 0 rfl rfl 0 (by decide) (hts _ m_117) (fun _ h9 => h9) rfl d_De_start_7 ?_
  refine lv_aload_n hx hb d_De_start_10 rfl (lv_at hl 0 rfl) ?_
  refine va_get (D := E.1) (ci := 3) (v := .int st.1.1) (C := R_De) (T := T_De) (N := 11) hx hb hts in_De hown hK hP 0 rfl rfl 1 (by decide) (hts _ m_118) (fun _ h9 => h9) rfl d_De_start_11 ?_
  obtain ⟨hk1, hok⟩ := hok
  refine ar_usei (wr := [(hd, .inr (3, [.ref h, .int st.1.1, .int (bI st.1.2.1), .int 1, .int st.1.2.2.2.1, .int st.1.2.2.2.2.1, .int st.1.2.2.2.2.2.1, .int st.1.2.2.2.2.2.2.1, .int st.1.2.2.2.2.2.2.2.1, .int st.1.2.2.2.2.2.2.2.2.1, .int st.1.2.2.2.2.2.2.2.2.2]))]) hP hD hS hA [1, 2, 3, 4] [0] rfl rfl rfl (by decide) (ar_runV (n := 1) (As := [.int st.1.1]) (rest := [.ref hd]) (ci := 0) (q0 := 0) hx hb hml hown hts hP hD hS hA hK hZ (c_Ro_startOf l E _ h a1 a2 a3 st.2 st.1.1 hk1) m_502 m_503 m_504 m_4 m_505 (by decide +kernel) ⟨Nat.le_of_ble_eq_true rfl, Nat.le_of_ble_eq_true rfl⟩ [1, 2, 3, 4] rfl rfl rfl rfl rfl rfl rfl hl.1 rfl (Nat.le_of_ble_eq_true rfl) d_De_start_14 ⟨Nat.le_of_ble_eq_true rfl, Nat.le_of_ble_eq_true rfl⟩) (fun r2 _ Hn locsn hw2 hPn hDn hSn => ?_)
  replace hok := hok r2 hw2
  clear hP hD hS
  have hP : va_P E.1 classes [(hd, .inr (3, [.ref h, .int st.1.1, .int (bI st.1.2.1), .int 1, .int st.1.2.2.2.1, .int st.1.2.2.2.2.1, .int st.1.2.2.2.2.2.1, .int st.1.2.2.2.2.2.2.1, .int st.1.2.2.2.2.2.2.2.1, .int st.1.2.2.2.2.2.2.2.2.1, .int st.1.2.2.2.2.2.2.2.2.2])), (h, .inr (0, [.ref a1, .ref a2, .ref a3, .int st.2.1, .int st.2.2.1, .int st.2.2.2.1])), (a1, .inl (E.2.1 0, 42000, .inl st.2.2.2.2.1)), (a2, .inl (E.2.1 0, 513, .inl st.2.2.2.2.2.1)), (a3, .inl (E.2.1 1, 513, .inl st.2.2.2.2.2.2))] Hn := hPn
  have hD : va_D A [(hd, .inr (3, [.ref h, .int st.1.1, .int (bI st.1.2.1), .int 1, .int st.1.2.2.2.1, .int st.1.2.2.2.2.1, .int st.1.2.2.2.2.2.1, .int st.1.2.2.2.2.2.2.1, .int st.1.2.2.2.2.2.2.2.1, .int st.1.2.2.2.2.2.2.2.2.1, .int st.1.2.2.2.2.2.2.2.2.2])), (h, .inr (0, [.ref a1, .ref a2, .ref a3, .int st.2.1, .int st.2.2.1, .int st.2.2.2.1])), (a1, .inl (E.2.1 0, 42000, .inl st.2.2.2.2.1)), (a2, .inl (E.2.1 0, 513, .inl st.2.2.2.2.2.1)), (a3, .inl (E.2.1 1, 513, .inl st.2.2.2.2.2.2))] := hDn
  have hS := hSn
  clear hPn hDn hSn
  refine va_put (D := E.1) (ci := 3) (v := .int r2) (ty := .int) (C := R_De) (T := T_De) (N := 11) hx hb hts in_De t_De t_De_ok n_De hown hK hP hD hS 0 rfl rfl 5 (by decide) (hts _ m_122) (fun _ h9 => h9) rfl (by decide +kernel) rfl rfl (Nat.le_of_ble_eq_true rfl) d_De_start_17 (fun Hn locsn hPn hDn hSn => ?_)
  clear hP hD hS
  have hP : va_P E.1 classes [(hd, .inr (3, [.ref h, .int st.1.1, .int (bI st.1.2.1), .int 1, .int st.1.2.2.2.1, .int r2, .int st.1.2.2.2.2.2.1, .int st.1.2.2.2.2.2.2.1, .int st.1.2.2.2.2.2.2.2.1, .int st.1.2.2.2.2.2.2.2.2.1, .int st.1.2.2.2.2.2.2.2.2.2])), (h, .inr (0, [.ref a1, .ref a2, .ref a3, .int st.2.1, .int st.2.2.1, .int st.2.2.2.1])), (a1, .inl (E.2.1 0, 42000, .inl st.2.2.2.2.1)), (a2, .inl (E.2.1 0, 513, .inl st.2.2.2.2.2.1)), (a3, .inl (E.2.1 1, 513, .inl st.2.2.2.2.2.2))] Hn := hPn
  have hD : va_D A [(hd, .inr (3, [.ref h, .int st.1.1, .int (bI st.1.2.1), .int 1, .int st.1.2.2.2.1, .int r2, .int st.1.2.2.2.2.2.1, .int st.1.2.2.2.2.2.2.1, .int st.1.2.2.2.2.2.2.2.1, .int st.1.2.2.2.2.2.2.2.2.1, .int st.1.2.2.2.2.2.2.2.2.2])), (h, .inr (0, [.ref a1, .ref a2, .ref a3, .int st.2.1, .int st.2.2.1, .int st.2.2.2.1])), (a1, .inl (E.2.1 0, 42000, .inl st.2.2.2.2.1)), (a2, .inl (E.2.1 0, 513, .inl st.2.2.2.2.2.1)), (a3, .inl (E.2.1 1, 513, .inl st.2.2.2.2.2.2))] := hDn
  have hS := hSn
  clear hPn hDn hSn
  refine lv_aload_n hx hb d_De_start_20 rfl (lv_at hl 0 rfl) ?_
  refine lv_aload_n hx hb d_De_start_21 rfl (lv_at hl 0 rfl) ?_
  refine va_get (D := E.1) (ci := 3) (v := .ref h) (C := R_De) (T := T_De) (N := 11) hx hb hts in_De hown hK hP 0 rfl rfl 0 (by decide) (hts _ m_117) (fun _ h9 => h9) rfl d_De_start_22 ?_
  refine lv_aload_n hx hb d_De_start_25 rfl (lv_at hl 0 rfl) ?_
  refine va_get (D := E.1) (ci := 3) (v := .int st.1.1) (C := R_De) (T := T_De) (N := 11) hx hb hts in_De hown hK hP 0 rfl rfl 1 (by decide) (hts _ m_118) (fun _ h9 => h9) rfl d_De_start_26 ?_
  obtain ⟨hk3, hok⟩ := hok
  refine ar_usei (wr := [(hd, .inr (3, [.ref h, .int st.1.1, .int (bI st.1.2.1), .int 1, .int st.1.2.2.2.1, .int r2, .int st.1.2.2.2.2.2.1, .int st.1.2.2.2.2.2.2.1, .int st.1.2.2.2.2.2.2.2.1, .int st.1.2.2.2.2.2.2.2.2.1, .int st.1.2.2.2.2.2.2.2.2.2]))]) hP hD hS hA [1, 2, 3, 4] [0] rfl rfl rfl (by decide) (ar_runV (n := 1) (As := [.int st.1.1]) (rest := [.ref hd]) (ci := 0) (q0 := 0) hx hb hml hown hts hP hD hS hA hK hZ (c_Ro_endOf l E _ h a1 a2 a3 st.2 st.1.1 hk3) m_506 m_507 m_508 m_4 m_509 (by decide +kernel) ⟨Nat.le_of_ble_eq_true rfl, Nat.le_of_ble_eq_true rfl⟩ [1, 2, 3, 4] rfl rfl rfl rfl rfl rfl rfl hl.1 rfl (Nat.le_of_ble_eq_true rfl) d_De_start_29 ⟨Nat.le_of_ble_eq_true rfl, Nat.le_of_ble_eq_true rfl⟩) (fun r4 _ Hn locsn hw4 hPn hDn hSn => ?_)
  replace hok := hok r4 hw4
  clear hP hD hS
  have hP : va_P E.1 classes [(hd, .inr (3, [.ref h, .int st.1.1, .int (bI st.1.2.1), .int 1, .int st.1.2.2.2.1, .int r2, .int st.1.2.2.2.2.2.1, .int st.1.2.2.2.2.2.2.1, .int st.1.2.2.2.2.2.2.2.1, .int st.1.2.2.2.2.2.2.2.2.1, .int st.1.2.2.2.2.2.2.2.2.2])), (h, .inr (0, [.ref a1, .ref a2, .ref a3, .int st.2.1, .int st.2.2.1, .int st.2.2.2.1])), (a1, .inl (E.2.1 0, 42000, .inl st.2.2.2.2.1)), (a2, .inl (E.2.1 0, 513, .inl st.2.2.2.2.2.1)), (a3, .inl (E.2.1 1, 513, .inl st.2.2.2.2.2.2))] Hn := hPn
  have hD : va_D A [(hd, .inr (3, [.ref h, .int st.1.1, .int (bI st.1.2.1), .int 1, .int st.1.2.2.2.1, .int r2, .int st.1.2.2.2.2.2.1, .int st.1.2.2.2.2.2.2.1, .int st.1.2.2.2.2.2.2.2.1, .int st.1.2.2.2.2.2.2.2.2.1, .int st.1.2.2.2.2.2.2.2.2.2])), (h, .inr (0, [.ref a1, .ref a2, .ref a3, .int st.2.1, .int st.2.2.1, .int st.2.2.2.1])), (a1, .inl (E.2.1 0, 42000, .inl st.2.2.2.2.1)), (a2, .inl (E.2.1 0, 513, .inl st.2.2.2.2.2.1)), (a3, .inl (E.2.1 1, 513, .inl st.2.2.2.2.2.2))] := hDn
  have hS := hSn
  clear hPn hDn hSn
  refine va_put (D := E.1) (ci := 3) (v := .int r4) (ty := .int) (C := R_De) (T := T_De) (N := 11) hx hb hts in_De t_De t_De_ok n_De hown hK hP hD hS 0 rfl rfl 4 (by decide) (hts _ m_121) (fun _ h9 => h9) rfl (by decide +kernel) rfl rfl (Nat.le_of_ble_eq_true rfl) d_De_start_32 (fun Hn locsn hPn hDn hSn => ?_)
  clear hP hD hS
  have hP : va_P E.1 classes [(hd, .inr (3, [.ref h, .int st.1.1, .int (bI st.1.2.1), .int 1, .int r4, .int r2, .int st.1.2.2.2.2.2.1, .int st.1.2.2.2.2.2.2.1, .int st.1.2.2.2.2.2.2.2.1, .int st.1.2.2.2.2.2.2.2.2.1, .int st.1.2.2.2.2.2.2.2.2.2])), (h, .inr (0, [.ref a1, .ref a2, .ref a3, .int st.2.1, .int st.2.2.1, .int st.2.2.2.1])), (a1, .inl (E.2.1 0, 42000, .inl st.2.2.2.2.1)), (a2, .inl (E.2.1 0, 513, .inl st.2.2.2.2.2.1)), (a3, .inl (E.2.1 1, 513, .inl st.2.2.2.2.2.2))] Hn := hPn
  have hD : va_D A [(hd, .inr (3, [.ref h, .int st.1.1, .int (bI st.1.2.1), .int 1, .int r4, .int r2, .int st.1.2.2.2.2.2.1, .int st.1.2.2.2.2.2.2.1, .int st.1.2.2.2.2.2.2.2.1, .int st.1.2.2.2.2.2.2.2.2.1, .int st.1.2.2.2.2.2.2.2.2.2])), (h, .inr (0, [.ref a1, .ref a2, .ref a3, .int st.2.1, .int st.2.2.1, .int st.2.2.2.1])), (a1, .inl (E.2.1 0, 42000, .inl st.2.2.2.2.1)), (a2, .inl (E.2.1 0, 513, .inl st.2.2.2.2.2.1)), (a3, .inl (E.2.1 1, 513, .inl st.2.2.2.2.2.2))] := hDn
  have hS := hSn
  clear hPn hDn hSn
  refine lv_aload_n hx hb d_De_start_35 rfl (lv_at hl 0 rfl) ?_
  refine va_get (D := E.1) (ci := 3) (v := .int (bI st.1.2.1)) (C := R_De) (T := T_De) (N := 11) hx hb hts in_De hown hK hP 0 rfl rfl 2 (by decide) (hts _ m_119) (fun _ h9 => h9) rfl d_De_start_36 ?_
  refine lv_if_eq (tgt := 43) hx hb d_De_start_39 (by decide) (fun c5 => ?_) (fun c5 => ?_)
  · replace hok := hok.1 c5
    refine lv_aload_n hx hb d_De_start_43 rfl (lv_at hl 0 rfl) ?_
    refine lv_aload_n hx hb d_De_start_44 rfl (lv_at hl 0 rfl) ?_
    refine va_get (D := E.1) (ci := 3) (v := .ref h) (C := R_De) (T := T_De) (N := 11) hx hb hts in_De hown hK hP 0 rfl rfl 0 (by decide) (hts _ m_117) (fun _ h9 => h9) rfl d_De_start_45 ?_
    refine lv_aload_n hx hb d_De_start_48 rfl (lv_at hl 0 rfl) ?_
    refine va_get (D := E.1) (ci := 3) (v := .int r4) (C := R_De) (T := T_De) (N := 11) hx hb hts in_De hown hK hP 0 rfl rfl 4 (by decide) (hts _ m_121) (fun _ h9 => h9) rfl d_De_start_49 ?_
    refine lv_aload_n hx hb d_De_start_52 rfl (lv_at hl 0 rfl) ?_
    refine va_get (D := E.1) (ci := 3) (v := .int r2) (C := R_De) (T := T_De) (N := 11) hx hb hts in_De hown hK hP 0 rfl rfl 5 (by decide) (hts _ m_122) (fun _ h9 => h9) rfl d_De_start_53 ?_
    refine ar_usei (wr := [(hd, .inr (3, [.ref h, .int st.1.1, .int (bI st.1.2.1), .int 1, .int r4, .int r2, .int st.1.2.2.2.2.2.1, .int st.1.2.2.2.2.2.2.1, .int st.1.2.2.2.2.2.2.2.1, .int st.1.2.2.2.2.2.2.2.2.1, .int st.1.2.2.2.2.2.2.2.2.2]))]) hP hD hS hA [1, 2, 3, 4] [0] rfl rfl rfl (by decide) (ar_runV (n := 2) (As := [.int r4, .int r2]) (rest := [.ref hd]) (ci := 0) (q0 := 0) hx hb hml hown hts hP hD hS hA hK hZ (c_Ro_byteBefore l E _ h a1 a2 a3 st.2 r4 r2 ) m_511 m_465 m_466 m_4 m_467 (by decide +kernel) ⟨Nat.le_of_ble_eq_true rfl, Nat.le_of_ble_eq_true rfl⟩ [1, 2, 3, 4] rfl rfl rfl rfl rfl rfl rfl hl.1 rfl (Nat.le_of_ble_eq_true rfl) d_De_start_56 ⟨Nat.le_of_ble_eq_true rfl, Nat.le_of_ble_eq_true rfl⟩) (fun r6 _ Hn locsn hw6 hPn hDn hSn => ?_)
    replace hok := hok r6 hw6
    clear hP hD hS
    have hP : va_P E.1 classes [(hd, .inr (3, [.ref h, .int st.1.1, .int (bI st.1.2.1), .int 1, .int r4, .int r2, .int st.1.2.2.2.2.2.1, .int st.1.2.2.2.2.2.2.1, .int st.1.2.2.2.2.2.2.2.1, .int st.1.2.2.2.2.2.2.2.2.1, .int st.1.2.2.2.2.2.2.2.2.2])), (h, .inr (0, [.ref a1, .ref a2, .ref a3, .int st.2.1, .int st.2.2.1, .int st.2.2.2.1])), (a1, .inl (E.2.1 0, 42000, .inl st.2.2.2.2.1)), (a2, .inl (E.2.1 0, 513, .inl st.2.2.2.2.2.1)), (a3, .inl (E.2.1 1, 513, .inl st.2.2.2.2.2.2))] Hn := hPn
    have hD : va_D A [(hd, .inr (3, [.ref h, .int st.1.1, .int (bI st.1.2.1), .int 1, .int r4, .int r2, .int st.1.2.2.2.2.2.1, .int st.1.2.2.2.2.2.2.1, .int st.1.2.2.2.2.2.2.2.1, .int st.1.2.2.2.2.2.2.2.2.1, .int st.1.2.2.2.2.2.2.2.2.2])), (h, .inr (0, [.ref a1, .ref a2, .ref a3, .int st.2.1, .int st.2.2.1, .int st.2.2.2.1])), (a1, .inl (E.2.1 0, 42000, .inl st.2.2.2.2.1)), (a2, .inl (E.2.1 0, 513, .inl st.2.2.2.2.2.1)), (a3, .inl (E.2.1 1, 513, .inl st.2.2.2.2.2.2))] := hDn
    have hS := hSn
    clear hPn hDn hSn
    refine va_put (D := E.1) (ci := 3) (v := .int r6) (ty := .int) (C := R_De) (T := T_De) (N := 11) hx hb hts in_De t_De t_De_ok n_De hown hK hP hD hS 0 rfl rfl 6 (by decide) (hts _ m_123) (fun _ h9 => h9) rfl (by decide +kernel) rfl rfl (Nat.le_of_ble_eq_true rfl) d_De_start_59 (fun Hn locsn hPn hDn hSn => ?_)
    clear hP hD hS
    have hP : va_P E.1 classes [(hd, .inr (3, [.ref h, .int st.1.1, .int (bI st.1.2.1), .int 1, .int r4, .int r2, .int r6, .int st.1.2.2.2.2.2.2.1, .int st.1.2.2.2.2.2.2.2.1, .int st.1.2.2.2.2.2.2.2.2.1, .int st.1.2.2.2.2.2.2.2.2.2])), (h, .inr (0, [.ref a1, .ref a2, .ref a3, .int st.2.1, .int st.2.2.1, .int st.2.2.2.1])), (a1, .inl (E.2.1 0, 42000, .inl st.2.2.2.2.1)), (a2, .inl (E.2.1 0, 513, .inl st.2.2.2.2.2.1)), (a3, .inl (E.2.1 1, 513, .inl st.2.2.2.2.2.2))] Hn := hPn
    have hD : va_D A [(hd, .inr (3, [.ref h, .int st.1.1, .int (bI st.1.2.1), .int 1, .int r4, .int r2, .int r6, .int st.1.2.2.2.2.2.2.1, .int st.1.2.2.2.2.2.2.2.1, .int st.1.2.2.2.2.2.2.2.2.1, .int st.1.2.2.2.2.2.2.2.2.2])), (h, .inr (0, [.ref a1, .ref a2, .ref a3, .int st.2.1, .int st.2.2.1, .int st.2.2.2.1])), (a1, .inl (E.2.1 0, 42000, .inl st.2.2.2.2.1)), (a2, .inl (E.2.1 0, 513, .inl st.2.2.2.2.2.1)), (a3, .inl (E.2.1 1, 513, .inl st.2.2.2.2.2.2))] := hDn
    have hS := hSn
    clear hPn hDn hSn
    refine lv_aload_n hx hb d_De_start_62 rfl (lv_at hl 0 rfl) ?_
    refine lv_dup hx hb d_De_start_63 rfl ?_
    refine va_get (D := E.1) (ci := 3) (v := .int r2) (C := R_De) (T := T_De) (N := 11) hx hb hts in_De hown hK hP 0 rfl rfl 5 (by decide) (hts _ m_122) (fun _ h9 => h9) rfl d_De_start_64 ?_
    refine lv_iconst (v := 1) hx hb d_De_start_67 (by decide) ?_
    refine lv_iadd hx hb d_De_start_68 ?_
    refine lv_topi (fun x7 ex7 => ?_)
    replace hok := hok x7 ex7
    refine va_put (D := E.1) (ci := 3) (v := .int x7) (ty := .int) (C := R_De) (T := T_De) (N := 11) hx hb hts in_De t_De t_De_ok n_De hown hK hP hD hS 0 rfl rfl 5 (by decide) (hts _ m_122) (fun _ h9 => h9) rfl (by decide +kernel) rfl rfl (Nat.le_of_ble_eq_true rfl) d_De_start_69 (fun Hn locsn hPn hDn hSn => ?_)
    clear hP hD hS
    have hP : va_P E.1 classes [(hd, .inr (3, [.ref h, .int st.1.1, .int (bI st.1.2.1), .int 1, .int r4, .int x7, .int r6, .int st.1.2.2.2.2.2.2.1, .int st.1.2.2.2.2.2.2.2.1, .int st.1.2.2.2.2.2.2.2.2.1, .int st.1.2.2.2.2.2.2.2.2.2])), (h, .inr (0, [.ref a1, .ref a2, .ref a3, .int st.2.1, .int st.2.2.1, .int st.2.2.2.1])), (a1, .inl (E.2.1 0, 42000, .inl st.2.2.2.2.1)), (a2, .inl (E.2.1 0, 513, .inl st.2.2.2.2.2.1)), (a3, .inl (E.2.1 1, 513, .inl st.2.2.2.2.2.2))] Hn := hPn
    have hD : va_D A [(hd, .inr (3, [.ref h, .int st.1.1, .int (bI st.1.2.1), .int 1, .int r4, .int x7, .int r6, .int st.1.2.2.2.2.2.2.1, .int st.1.2.2.2.2.2.2.2.1, .int st.1.2.2.2.2.2.2.2.2.1, .int st.1.2.2.2.2.2.2.2.2.2])), (h, .inr (0, [.ref a1, .ref a2, .ref a3, .int st.2.1, .int st.2.2.1, .int st.2.2.2.1])), (a1, .inl (E.2.1 0, 42000, .inl st.2.2.2.2.1)), (a2, .inl (E.2.1 0, 513, .inl st.2.2.2.2.2.1)), (a3, .inl (E.2.1 1, 513, .inl st.2.2.2.2.2.2))] := hDn
    have hS := hSn
    clear hPn hDn hSn
    refine lv_aload_n hx hb d_De_start_72 rfl (lv_at hl 0 rfl) ?_
    refine lv_aload_n hx hb d_De_start_73 rfl (lv_at hl 0 rfl) ?_
    refine va_get (D := E.1) (ci := 3) (v := .int r6) (C := R_De) (T := T_De) (N := 11) hx hb hts in_De hown hK hP 0 rfl rfl 6 (by decide) (hts _ m_123) (fun _ h9 => h9) rfl d_De_start_74 ?_
    refine lv_bipush (v := 16) hx hb d_De_start_77 (by decide) ?_
    refine lv_ishl hx hb d_De_start_79 ?_
    refine lv_topi (fun x8 ex8 => ?_)
    replace hok := hok x8 ex8
    refine va_put (D := E.1) (ci := 3) (v := .int x8) (ty := .int) (C := R_De) (T := T_De) (N := 11) hx hb hts in_De t_De t_De_ok n_De hown hK hP hD hS 0 rfl rfl 8 (by decide) (hts _ m_125) (fun _ h9 => h9) rfl (by decide +kernel) rfl rfl (Nat.le_of_ble_eq_true rfl) d_De_start_80 (fun Hn locsn hPn hDn hSn => ?_)
    clear hP hD hS
    have hP : va_P E.1 classes [(hd, .inr (3, [.ref h, .int st.1.1, .int (bI st.1.2.1), .int 1, .int r4, .int x7, .int r6, .int st.1.2.2.2.2.2.2.1, .int x8, .int st.1.2.2.2.2.2.2.2.2.1, .int st.1.2.2.2.2.2.2.2.2.2])), (h, .inr (0, [.ref a1, .ref a2, .ref a3, .int st.2.1, .int st.2.2.1, .int st.2.2.2.1])), (a1, .inl (E.2.1 0, 42000, .inl st.2.2.2.2.1)), (a2, .inl (E.2.1 0, 513, .inl st.2.2.2.2.2.1)), (a3, .inl (E.2.1 1, 513, .inl st.2.2.2.2.2.2))] Hn := hPn
    have hD : va_D A [(hd, .inr (3, [.ref h, .int st.1.1, .int (bI st.1.2.1), .int 1, .int r4, .int x7, .int r6, .int st.1.2.2.2.2.2.2.1, .int x8, .int st.1.2.2.2.2.2.2.2.2.1, .int st.1.2.2.2.2.2.2.2.2.2])), (h, .inr (0, [.ref a1, .ref a2, .ref a3, .int st.2.1, .int st.2.2.1, .int st.2.2.2.1])), (a1, .inl (E.2.1 0, 42000, .inl st.2.2.2.2.1)), (a2, .inl (E.2.1 0, 513, .inl st.2.2.2.2.2.1)), (a3, .inl (E.2.1 1, 513, .inl st.2.2.2.2.2.2))] := hDn
    have hS := hSn
    clear hPn hDn hSn
    refine lv_aload_n hx hb d_De_start_83 rfl (lv_at hl 0 rfl) ?_
    refine ar_usev (wr := []) hP hD hS hA [0, 1, 2, 3, 4] [] rfl rfl rfl (by decide) (ar_runV (n := 0) (As := []) (rest := []) (ci := 3) (q0 := 0) hx hb hml hown hts hP hD hS hA hK hZ (c_De_take l E _ hd h a1 a2 a3 ((st.1.1, st.1.2.1, true, r4, x7, r6, st.1.2.2.2.2.2.2.1, x8, st.1.2.2.2.2.2.2.2.2.1, st.1.2.2.2.2.2.2.2.2.2), st.2)  ) m_512 m_514 ms_13 m_6 m_515 (by decide +kernel) ⟨Nat.le_of_ble_eq_true rfl, Nat.le_of_ble_eq_true rfl⟩ [0, 1, 2, 3, 4] rfl rfl rfl rfl rfl rfl rfl hl.1 rfl (Nat.le_of_ble_eq_true rfl) d_De_start_84 ⟨Nat.le_of_ble_eq_true rfl, Nat.le_of_ble_eq_true rfl⟩) (fun u9 Hn locsn hw9 hPn hDn hSn => ?_)
    replace hok := hok u9 hw9
    clear hP hD hS
    have hP : va_P E.1 classes [(hd, .inr (3, [.ref h, .int u9.1.1, .int (bI u9.1.2.1), .int (bI u9.1.2.2.1), .int u9.1.2.2.2.1, .int u9.1.2.2.2.2.1, .int u9.1.2.2.2.2.2.1, .int u9.1.2.2.2.2.2.2.1, .int u9.1.2.2.2.2.2.2.2.1, .int u9.1.2.2.2.2.2.2.2.2.1, .int u9.1.2.2.2.2.2.2.2.2.2])), (h, .inr (0, [.ref a1, .ref a2, .ref a3, .int u9.2.1, .int u9.2.2.1, .int u9.2.2.2.1])), (a1, .inl (E.2.1 0, 42000, .inl u9.2.2.2.2.1)), (a2, .inl (E.2.1 0, 513, .inl u9.2.2.2.2.2.1)), (a3, .inl (E.2.1 1, 513, .inl u9.2.2.2.2.2.2))] Hn := hPn
    have hD : va_D A [(hd, .inr (3, [.ref h, .int u9.1.1, .int (bI u9.1.2.1), .int (bI u9.1.2.2.1), .int u9.1.2.2.2.1, .int u9.1.2.2.2.2.1, .int u9.1.2.2.2.2.2.1, .int u9.1.2.2.2.2.2.2.1, .int u9.1.2.2.2.2.2.2.2.1, .int u9.1.2.2.2.2.2.2.2.2.1, .int u9.1.2.2.2.2.2.2.2.2.2])), (h, .inr (0, [.ref a1, .ref a2, .ref a3, .int u9.2.1, .int u9.2.2.1, .int u9.2.2.2.1])), (a1, .inl (E.2.1 0, 42000, .inl u9.2.2.2.2.1)), (a2, .inl (E.2.1 0, 513, .inl u9.2.2.2.2.2.1)), (a3, .inl (E.2.1 1, 513, .inl u9.2.2.2.2.2.2))] := hDn
    have hS := hSn
    clear hPn hDn hSn
    refine lv_aload_n hx hb d_De_start_87 rfl (lv_at hl 0 rfl) ?_
    refine lv_dup hx hb d_De_start_88 rfl ?_
    refine va_get (D := E.1) (ci := 3) (v := .int u9.1.2.2.2.2.2.2.2.1) (C := R_De) (T := T_De) (N := 11) hx hb hts in_De hown hK hP 0 rfl rfl 8 (by decide) (hts _ m_125) (fun _ h9 => h9) rfl d_De_start_89 ?_
    refine lv_bipush (v := 7) hx hb d_De_start_92 (by decide) ?_
    refine lv_ishl hx hb d_De_start_94 ?_
    refine lv_topi (fun x10 ex10 => ?_)
    replace hok := hok x10 ex10
    refine va_put (D := E.1) (ci := 3) (v := .int x10) (ty := .int) (C := R_De) (T := T_De) (N := 11) hx hb hts in_De t_De t_De_ok n_De hown hK hP hD hS 0 rfl rfl 8 (by decide) (hts _ m_125) (fun _ h9 => h9) rfl (by decide +kernel) rfl rfl (Nat.le_of_ble_eq_true rfl) d_De_start_95 (fun Hn locsn hPn hDn hSn => ?_)
    clear hP hD hS
    have hP : va_P E.1 classes [(hd, .inr (3, [.ref h, .int u9.1.1, .int (bI u9.1.2.1), .int (bI u9.1.2.2.1), .int u9.1.2.2.2.1, .int u9.1.2.2.2.2.1, .int u9.1.2.2.2.2.2.1, .int u9.1.2.2.2.2.2.2.1, .int x10, .int u9.1.2.2.2.2.2.2.2.2.1, .int u9.1.2.2.2.2.2.2.2.2.2])), (h, .inr (0, [.ref a1, .ref a2, .ref a3, .int u9.2.1, .int u9.2.2.1, .int u9.2.2.2.1])), (a1, .inl (E.2.1 0, 42000, .inl u9.2.2.2.2.1)), (a2, .inl (E.2.1 0, 513, .inl u9.2.2.2.2.2.1)), (a3, .inl (E.2.1 1, 513, .inl u9.2.2.2.2.2.2))] Hn := hPn
    have hD : va_D A [(hd, .inr (3, [.ref h, .int u9.1.1, .int (bI u9.1.2.1), .int (bI u9.1.2.2.1), .int u9.1.2.2.2.1, .int u9.1.2.2.2.2.1, .int u9.1.2.2.2.2.2.1, .int u9.1.2.2.2.2.2.2.1, .int x10, .int u9.1.2.2.2.2.2.2.2.2.1, .int u9.1.2.2.2.2.2.2.2.2.2])), (h, .inr (0, [.ref a1, .ref a2, .ref a3, .int u9.2.1, .int u9.2.2.1, .int u9.2.2.2.1])), (a1, .inl (E.2.1 0, 42000, .inl u9.2.2.2.2.1)), (a2, .inl (E.2.1 0, 513, .inl u9.2.2.2.2.2.1)), (a3, .inl (E.2.1 1, 513, .inl u9.2.2.2.2.2.2))] := hDn
    have hS := hSn
    clear hPn hDn hSn
    refine lv_aload_n hx hb d_De_start_98 rfl (lv_at hl 0 rfl) ?_
    refine lv_dup hx hb d_De_start_99 rfl ?_
    refine va_get (D := E.1) (ci := 3) (v := .int u9.1.2.2.2.2.2.2.2.2.1) (C := R_De) (T := T_De) (N := 11) hx hb hts in_De hown hK hP 0 rfl rfl 9 (by decide) (hts _ m_126) (fun _ h9 => h9) rfl d_De_start_100 ?_
    refine lv_bipush (v := 7) hx hb d_De_start_103 (by decide) ?_
    refine lv_isub hx hb d_De_start_105 ?_
    refine lv_topi (fun x11 ex11 => ?_)
    replace hok := hok x11 ex11
    refine va_put (D := E.1) (ci := 3) (v := .int x11) (ty := .int) (C := R_De) (T := T_De) (N := 11) hx hb hts in_De t_De t_De_ok n_De hown hK hP hD hS 0 rfl rfl 9 (by decide) (hts _ m_126) (fun _ h9 => h9) rfl (by decide +kernel) rfl rfl (Nat.le_of_ble_eq_true rfl) d_De_start_106 (fun Hn locsn hPn hDn hSn => ?_)
    clear hP hD hS
    have hP : va_P E.1 classes [(hd, .inr (3, [.ref h, .int u9.1.1, .int (bI u9.1.2.1), .int (bI u9.1.2.2.1), .int u9.1.2.2.2.1, .int u9.1.2.2.2.2.1, .int u9.1.2.2.2.2.2.1, .int u9.1.2.2.2.2.2.2.1, .int x10, .int x11, .int u9.1.2.2.2.2.2.2.2.2.2])), (h, .inr (0, [.ref a1, .ref a2, .ref a3, .int u9.2.1, .int u9.2.2.1, .int u9.2.2.2.1])), (a1, .inl (E.2.1 0, 42000, .inl u9.2.2.2.2.1)), (a2, .inl (E.2.1 0, 513, .inl u9.2.2.2.2.2.1)), (a3, .inl (E.2.1 1, 513, .inl u9.2.2.2.2.2.2))] Hn := hPn
    have hD : va_D A [(hd, .inr (3, [.ref h, .int u9.1.1, .int (bI u9.1.2.1), .int (bI u9.1.2.2.1), .int u9.1.2.2.2.1, .int u9.1.2.2.2.2.1, .int u9.1.2.2.2.2.2.1, .int u9.1.2.2.2.2.2.2.1, .int x10, .int x11, .int u9.1.2.2.2.2.2.2.2.2.2])), (h, .inr (0, [.ref a1, .ref a2, .ref a3, .int u9.2.1, .int u9.2.2.1, .int u9.2.2.2.1])), (a1, .inl (E.2.1 0, 42000, .inl u9.2.2.2.2.1)), (a2, .inl (E.2.1 0, 513, .inl u9.2.2.2.2.2.1)), (a3, .inl (E.2.1 1, 513, .inl u9.2.2.2.2.2.2))] := hDn
    have hS := hSn
    clear hPn hDn hSn
    refine lv_aload_n hx hb d_De_start_109 rfl (lv_at hl 0 rfl) ?_
    refine lv_ldc (v := 32768) hx hb hown (hts _ m_517) d_De_start_110 ?_
    refine va_put (D := E.1) (ci := 3) (v := .int 32768) (ty := .int) (C := R_De) (T := T_De) (N := 11) hx hb hts in_De t_De t_De_ok n_De hown hK hP hD hS 0 rfl rfl 7 (by decide) (hts _ m_124) (fun _ h9 => h9) rfl (by decide +kernel) rfl rfl (Nat.le_of_ble_eq_true rfl) d_De_start_112 (fun Hn locsn hPn hDn hSn => ?_)
    clear hP hD hS
    have hP : va_P E.1 classes [(hd, .inr (3, [.ref h, .int u9.1.1, .int (bI u9.1.2.1), .int (bI u9.1.2.2.1), .int u9.1.2.2.2.1, .int u9.1.2.2.2.2.1, .int u9.1.2.2.2.2.2.1, .int 32768, .int x10, .int x11, .int u9.1.2.2.2.2.2.2.2.2.2])), (h, .inr (0, [.ref a1, .ref a2, .ref a3, .int u9.2.1, .int u9.2.2.1, .int u9.2.2.2.1])), (a1, .inl (E.2.1 0, 42000, .inl u9.2.2.2.2.1)), (a2, .inl (E.2.1 0, 513, .inl u9.2.2.2.2.2.1)), (a3, .inl (E.2.1 1, 513, .inl u9.2.2.2.2.2.2))] Hn := hPn
    have hD : va_D A [(hd, .inr (3, [.ref h, .int u9.1.1, .int (bI u9.1.2.1), .int (bI u9.1.2.2.1), .int u9.1.2.2.2.1, .int u9.1.2.2.2.2.1, .int u9.1.2.2.2.2.2.1, .int 32768, .int x10, .int x11, .int u9.1.2.2.2.2.2.2.2.2.2])), (h, .inr (0, [.ref a1, .ref a2, .ref a3, .int u9.2.1, .int u9.2.2.1, .int u9.2.2.2.1])), (a1, .inl (E.2.1 0, 42000, .inl u9.2.2.2.2.1)), (a2, .inl (E.2.1 0, 513, .inl u9.2.2.2.2.2.1)), (a3, .inl (E.2.1 1, 513, .inl u9.2.2.2.2.2.2))] := hDn
    have hS := hSn
    clear hPn hDn hSn
    exact ar_vret hx hb hr hlocks hK hS ((u9.1.1, u9.1.2.1, u9.1.2.2.1, u9.1.2.2.2.1, u9.1.2.2.2.2.1, u9.1.2.2.2.2.2.1, 32768, x10, x11, u9.1.2.2.2.2.2.2.2.2.2), u9.2) (by subst ex11; subst ex10; subst hw9; subst ex8; subst ex7; subst hw6; subst hw4; subst hw2; exact Eq.symm (Eq.trans (f_De_start_s  st) (Eq.trans (if_pos c5) rfl))) hP hD d_De_start_115
  · replace hok := hok.2 c5
    exact ar_vret hx hb hr hlocks hK hS ((st.1.1, st.1.2.1, true, r4, r2, st.1.2.2.2.2.2.1, st.1.2.2.2.2.2.2.1, st.1.2.2.2.2.2.2.2.1, st.1.2.2.2.2.2.2.2.2.1, st.1.2.2.2.2.2.2.2.2.2), st.2) (by subst hw4; subst hw2; exact Eq.symm (Eq.trans (f_De_start_s  st) (Eq.trans (if_neg c5) rfl))) hP hD d_De_start_42

noncomputable def g_De_renew  : Nat → ((DeS) × (RoS)) → Int32 → (DeS) × (RoS)
  | 0, st, k1 => st
  | n + 1, st, k1 =>
    if 16 ≤ k1 then
      st
    else
      if 32768 ≤ st.1.2.2.2.2.2.2.1 then
        st
      else
        if st.1.2.2.2.2.2.2.2.2.1 = 0 then
          let u8 := f_De_take   st
          let x9 := (u8.1.2.2.2.2.2.2.1 <<< (1 &&& 31))
          let x10 := (u8.1.2.2.2.2.2.2.2.1 <<< (1 &&& 31))
          let x11 := (u8.1.2.2.2.2.2.2.2.2.1 - 1)
          let x12 := k1 + 1
          g_De_renew  n ((u8.1.1, u8.1.2.1, u8.1.2.2.1, u8.1.2.2.2.1, u8.1.2.2.2.2.1, u8.1.2.2.2.2.2.1, x9, x10, x11, u8.1.2.2.2.2.2.2.2.2.2), u8.2) x12
        else
          let x4 := (st.1.2.2.2.2.2.2.1 <<< (1 &&& 31))
          let x5 := (st.1.2.2.2.2.2.2.2.1 <<< (1 &&& 31))
          let x6 := (st.1.2.2.2.2.2.2.2.2.1 - 1)
          let x7 := k1 + 1
          g_De_renew  n ((st.1.1, st.1.2.1, st.1.2.2.1, st.1.2.2.2.1, st.1.2.2.2.2.1, st.1.2.2.2.2.2.1, x4, x5, x6, st.1.2.2.2.2.2.2.2.2.2), st.2) x7
theorem g_De_renew_s  (n : Nat) (st : (DeS) × (RoS)) (k1 : Int32) : g_De_renew  (n + 1) st k1 = ((
    if 16 ≤ k1 then
      st
    else
      if 32768 ≤ st.1.2.2.2.2.2.2.1 then
        st
      else
        if st.1.2.2.2.2.2.2.2.2.1 = 0 then
          let u8 := f_De_take   st
          let x9 := (u8.1.2.2.2.2.2.2.1 <<< (1 &&& 31))
          let x10 := (u8.1.2.2.2.2.2.2.2.1 <<< (1 &&& 31))
          let x11 := (u8.1.2.2.2.2.2.2.2.2.1 - 1)
          let x12 := k1 + 1
          g_De_renew  n ((u8.1.1, u8.1.2.1, u8.1.2.2.1, u8.1.2.2.2.1, u8.1.2.2.2.2.1, u8.1.2.2.2.2.2.1, x9, x10, x11, u8.1.2.2.2.2.2.2.2.2.2), u8.2) x12
        else
          let x4 := (st.1.2.2.2.2.2.2.1 <<< (1 &&& 31))
          let x5 := (st.1.2.2.2.2.2.2.2.1 <<< (1 &&& 31))
          let x6 := (st.1.2.2.2.2.2.2.2.2.1 - 1)
          let x7 := k1 + 1
          g_De_renew  n ((st.1.1, st.1.2.1, st.1.2.2.1, st.1.2.2.2.1, st.1.2.2.2.2.1, st.1.2.2.2.2.2.1, x4, x5, x6, st.1.2.2.2.2.2.2.2.2.2), st.2) x7
  : (DeS) × (RoS))) := rfl
def kl_De_renew  : Nat → ((DeS) × (RoS)) → Int32 → Prop
  | 0, st, k1 => False
  | n + 1, st, k1 => ((16 ≤ k1) → True) ∧ (¬ (16 ≤ k1) → ((32768 ≤ st.1.2.2.2.2.2.2.1) → True) ∧ (¬ (32768 ≤ st.1.2.2.2.2.2.2.1) → ((st.1.2.2.2.2.2.2.2.2.1 = 0) → (∀ u8, u8 = f_De_take   st → (∀ x9, x9 = (u8.1.2.2.2.2.2.2.1 <<< (1 &&& 31)) → (∀ x10, x10 = (u8.1.2.2.2.2.2.2.2.1 <<< (1 &&& 31)) → (∀ x11, x11 = (u8.1.2.2.2.2.2.2.2.2.1 - 1) → (∀ x12, x12 = k1 + 1 → kl_De_renew  n ((u8.1.1, u8.1.2.1, u8.1.2.2.1, u8.1.2.2.2.1, u8.1.2.2.2.2.1, u8.1.2.2.2.2.2.1, x9, x10, x11, u8.1.2.2.2.2.2.2.2.2.2), u8.2) x12)))))) ∧ (¬ (st.1.2.2.2.2.2.2.2.2.1 = 0) → (∀ x4, x4 = (st.1.2.2.2.2.2.2.1 <<< (1 &&& 31)) → (∀ x5, x5 = (st.1.2.2.2.2.2.2.2.1 <<< (1 &&& 31)) → (∀ x6, x6 = (st.1.2.2.2.2.2.2.2.2.1 - 1) → (∀ x7, x7 = k1 + 1 → kl_De_renew  n ((st.1.1, st.1.2.1, st.1.2.2.1, st.1.2.2.2.1, st.1.2.2.2.2.1, st.1.2.2.2.2.2.1, x4, x5, x6, st.1.2.2.2.2.2.2.2.2.2), st.2) x7)))))))
theorem kl_De_renew_s  (n : Nat) (st : (DeS) × (RoS)) (k1 : Int32) : kl_De_renew  (n + 1) st k1 = (((16 ≤ k1) → True) ∧ (¬ (16 ≤ k1) → ((32768 ≤ st.1.2.2.2.2.2.2.1) → True) ∧ (¬ (32768 ≤ st.1.2.2.2.2.2.2.1) → ((st.1.2.2.2.2.2.2.2.2.1 = 0) → (∀ u8, u8 = f_De_take   st → (∀ x9, x9 = (u8.1.2.2.2.2.2.2.1 <<< (1 &&& 31)) → (∀ x10, x10 = (u8.1.2.2.2.2.2.2.2.1 <<< (1 &&& 31)) → (∀ x11, x11 = (u8.1.2.2.2.2.2.2.2.2.1 - 1) → (∀ x12, x12 = k1 + 1 → kl_De_renew  n ((u8.1.1, u8.1.2.1, u8.1.2.2.1, u8.1.2.2.2.1, u8.1.2.2.2.2.1, u8.1.2.2.2.2.2.1, x9, x10, x11, u8.1.2.2.2.2.2.2.2.2.2), u8.2) x12)))))) ∧ (¬ (st.1.2.2.2.2.2.2.2.2.1 = 0) → (∀ x4, x4 = (st.1.2.2.2.2.2.2.1 <<< (1 &&& 31)) → (∀ x5, x5 = (st.1.2.2.2.2.2.2.2.1 <<< (1 &&& 31)) → (∀ x6, x6 = (st.1.2.2.2.2.2.2.2.2.1 - 1) → (∀ x7, x7 = k1 + 1 → kl_De_renew  n ((st.1.1, st.1.2.1, st.1.2.2.1, st.1.2.2.2.1, st.1.2.2.2.2.1, st.1.2.2.2.2.2.1, x4, x5, x6, st.1.2.2.2.2.2.2.2.2.2), st.2) x7)))))))) := rfl
set_option maxHeartbeats 4000000 in
set_option maxRecDepth 100000 in
theorem lp_De_renew {p : Program} {e : Env} {s : State} {m : MethodId} {below : List Frame} {meth : Method} {c : Code} (l : Launch) (E : Ev) (A : Nat → Prop) (hd h a1 a2 a3 : Nat)   (hx : p.tables.exec = Jvm.exec) (hb : c.code = b_De_renew) (hml : c.maxLocals = 2) (hown : s.vm.findClass (y_De_renew).cls = some m.cls) (hts : ∀ w ∈ TT, w.before ([.ref hd] : List Value).toArray s = true) (hr : meth.sig.returnType = none) (hlocks : meth.locks = false) (hA : ∀ q, s.heap.size ≤ q → A q) (hZ : ZT E A s s.heap) (hK : va_K E.1 classes (Ty E) s) :
    ∀ (n : Nat) (st : (DeS) × (RoS)) (k1 : Int32) (H : Heap) (locs : List Loc) (ls : Array Slot), kl_De_renew  n st k1 → va_P E.1 classes [(hd, .inr (3, [.ref h, .int st.1.1, .int (bI st.1.2.1), .int (bI st.1.2.2.1), .int st.1.2.2.2.1, .int st.1.2.2.2.2.1, .int st.1.2.2.2.2.2.1, .int st.1.2.2.2.2.2.2.1, .int st.1.2.2.2.2.2.2.2.1, .int st.1.2.2.2.2.2.2.2.2.1, .int st.1.2.2.2.2.2.2.2.2.2])), (h, .inr (0, [.ref a1, .ref a2, .ref a3, .int st.2.1, .int st.2.2.1, .int st.2.2.2.1])), (a1, .inl (E.2.1 0, 42000, .inl st.2.2.2.2.1)), (a2, .inl (E.2.1 0, 513, .inl st.2.2.2.2.2.1)), (a3, .inl (E.2.1 1, 513, .inl st.2.2.2.2.2.2))] H → va_D A [(hd, .inr (3, [.ref h, .int st.1.1, .int (bI st.1.2.1), .int (bI st.1.2.2.1), .int st.1.2.2.2.1, .int st.1.2.2.2.2.1, .int st.1.2.2.2.2.2.1, .int st.1.2.2.2.2.2.2.1, .int st.1.2.2.2.2.2.2.2.1, .int st.1.2.2.2.2.2.2.2.2.1, .int st.1.2.2.2.2.2.2.2.2.2])), (h, .inr (0, [.ref a1, .ref a2, .ref a3, .int st.2.1, .int st.2.2.1, .int st.2.2.2.1])), (a1, .inl (E.2.1 0, 42000, .inl st.2.2.2.2.1)), (a2, .inl (E.2.1 0, 513, .inl st.2.2.2.2.2.1)), (a3, .inl (E.2.1 1, 513, .inl st.2.2.2.2.2.2))] → va_S A s.heap H locs → lv_has ls 2 [(0, .ref hd), (1, .int k1)] →
      W p l e (ar_rm 2 0 0) s m ([.ref hd] : List Value).toArray below meth c H locs 0 0 (MQ below (va_Qv (fun u : (DeS) × (RoS) => u = g_De_renew  n st k1) (ar_W E A (fun u : (DeS) × (RoS) => [(hd, .inr (3, [.ref h, .int u.1.1, .int (bI u.1.2.1), .int (bI u.1.2.2.1), .int u.1.2.2.2.1, .int u.1.2.2.2.2.1, .int u.1.2.2.2.2.2.1, .int u.1.2.2.2.2.2.2.1, .int u.1.2.2.2.2.2.2.2.1, .int u.1.2.2.2.2.2.2.2.2.1, .int u.1.2.2.2.2.2.2.2.2.2])), (h, .inr (0, [.ref a1, .ref a2, .ref a3, .int u.2.1, .int u.2.2.1, .int u.2.2.2.1])), (a1, .inl (E.2.1 0, 42000, .inl u.2.2.2.2.1)), (a2, .inl (E.2.1 0, 513, .inl u.2.2.2.2.2.1)), (a3, .inl (E.2.1 1, 513, .inl u.2.2.2.2.2.2))])) A) ([.ref hd] : List Value).toArray s 0 0 A) (F0 m 2 ls []) := by
  intro n
  induction n with
  | zero => intro st k1 H locs ls hok; exact hok.elim
  | succ n ih =>
    intro st k1 H locs ls hok hP hD hS hl
    rw [kl_De_renew_s] at hok
    refine lv_iload_n hx hb d_De_renew_2 rfl (lv_at hl 1 rfl) ?_
    refine lv_bipush (v := 16) hx hb d_De_renew_3 (by decide) ?_
    refine lv_icmp_ge (tgt := 64) hx hb d_De_renew_5 (by decide) (fun c1 => ?_) (fun c1 => ?_)
    · replace hok := hok.1 c1
      exact ar_vret hx hb hr hlocks hK hS st (by exact Eq.symm (Eq.trans (g_De_renew_s  n st k1) (Eq.trans (if_pos c1) rfl))) hP hD d_De_renew_64
    · replace hok := hok.2 c1
      refine lv_aload_n hx hb d_De_renew_8 rfl (lv_at hl 0 rfl) ?_
      refine va_get (D := E.1) (ci := 3) (v := .int st.1.2.2.2.2.2.2.1) (C := R_De) (T := T_De) (N := 11) hx hb hts in_De hown hK hP 0 rfl rfl 7 (by decide) (hts _ m_124) (fun _ h9 => h9) rfl d_De_renew_9 ?_
      refine lv_ldc (v := 32768) hx hb hown (hts _ m_517) d_De_renew_12 ?_
      refine lv_icmp_ge (tgt := 64) hx hb d_De_renew_14 (by decide) (fun c2 => ?_) (fun c2 => ?_)
      · replace hok := hok.1 c2
        exact ar_vret hx hb hr hlocks hK hS st (by exact Eq.symm (Eq.trans (g_De_renew_s  n st k1) (Eq.trans (if_neg c1) (Eq.trans (if_pos c2) rfl)))) hP hD d_De_renew_64
      · replace hok := hok.2 c2
        refine lv_aload_n hx hb d_De_renew_17 rfl (lv_at hl 0 rfl) ?_
        refine va_get (D := E.1) (ci := 3) (v := .int st.1.2.2.2.2.2.2.2.2.1) (C := R_De) (T := T_De) (N := 11) hx hb hts in_De hown hK hP 0 rfl rfl 9 (by decide) (hts _ m_126) (fun _ h9 => h9) rfl d_De_renew_18 ?_
        refine lv_if_ne (tgt := 28) hx hb d_De_renew_21 (by decide) (fun c3 => ?_) (fun c3 => ?_)
        · replace hok := hok.2 c3
          refine lv_aload_n hx hb d_De_renew_28 rfl (lv_at hl 0 rfl) ?_
          refine lv_dup hx hb d_De_renew_29 rfl ?_
          refine va_get (D := E.1) (ci := 3) (v := .int st.1.2.2.2.2.2.2.1) (C := R_De) (T := T_De) (N := 11) hx hb hts in_De hown hK hP 0 rfl rfl 7 (by decide) (hts _ m_124) (fun _ h9 => h9) rfl d_De_renew_30 ?_
          refine lv_iconst (v := 1) hx hb d_De_renew_33 (by decide) ?_
          refine lv_ishl hx hb d_De_renew_34 ?_
          refine lv_topi (fun x4 ex4 => ?_)
          replace hok := hok x4 ex4
          refine va_put (D := E.1) (ci := 3) (v := .int x4) (ty := .int) (C := R_De) (T := T_De) (N := 11) hx hb hts in_De t_De t_De_ok n_De hown hK hP hD hS 0 rfl rfl 7 (by decide) (hts _ m_124) (fun _ h9 => h9) rfl (by decide +kernel) rfl rfl (Nat.le_of_ble_eq_true rfl) d_De_renew_35 (fun Hn locsn hPn hDn hSn => ?_)
          clear hP hD hS
          have hP : va_P E.1 classes [(hd, .inr (3, [.ref h, .int st.1.1, .int (bI st.1.2.1), .int (bI st.1.2.2.1), .int st.1.2.2.2.1, .int st.1.2.2.2.2.1, .int st.1.2.2.2.2.2.1, .int x4, .int st.1.2.2.2.2.2.2.2.1, .int st.1.2.2.2.2.2.2.2.2.1, .int st.1.2.2.2.2.2.2.2.2.2])), (h, .inr (0, [.ref a1, .ref a2, .ref a3, .int st.2.1, .int st.2.2.1, .int st.2.2.2.1])), (a1, .inl (E.2.1 0, 42000, .inl st.2.2.2.2.1)), (a2, .inl (E.2.1 0, 513, .inl st.2.2.2.2.2.1)), (a3, .inl (E.2.1 1, 513, .inl st.2.2.2.2.2.2))] Hn := hPn
          have hD : va_D A [(hd, .inr (3, [.ref h, .int st.1.1, .int (bI st.1.2.1), .int (bI st.1.2.2.1), .int st.1.2.2.2.1, .int st.1.2.2.2.2.1, .int st.1.2.2.2.2.2.1, .int x4, .int st.1.2.2.2.2.2.2.2.1, .int st.1.2.2.2.2.2.2.2.2.1, .int st.1.2.2.2.2.2.2.2.2.2])), (h, .inr (0, [.ref a1, .ref a2, .ref a3, .int st.2.1, .int st.2.2.1, .int st.2.2.2.1])), (a1, .inl (E.2.1 0, 42000, .inl st.2.2.2.2.1)), (a2, .inl (E.2.1 0, 513, .inl st.2.2.2.2.2.1)), (a3, .inl (E.2.1 1, 513, .inl st.2.2.2.2.2.2))] := hDn
          have hS := hSn
          clear hPn hDn hSn
          refine lv_aload_n hx hb d_De_renew_38 rfl (lv_at hl 0 rfl) ?_
          refine lv_dup hx hb d_De_renew_39 rfl ?_
          refine va_get (D := E.1) (ci := 3) (v := .int st.1.2.2.2.2.2.2.2.1) (C := R_De) (T := T_De) (N := 11) hx hb hts in_De hown hK hP 0 rfl rfl 8 (by decide) (hts _ m_125) (fun _ h9 => h9) rfl d_De_renew_40 ?_
          refine lv_iconst (v := 1) hx hb d_De_renew_43 (by decide) ?_
          refine lv_ishl hx hb d_De_renew_44 ?_
          refine lv_topi (fun x5 ex5 => ?_)
          replace hok := hok x5 ex5
          refine va_put (D := E.1) (ci := 3) (v := .int x5) (ty := .int) (C := R_De) (T := T_De) (N := 11) hx hb hts in_De t_De t_De_ok n_De hown hK hP hD hS 0 rfl rfl 8 (by decide) (hts _ m_125) (fun _ h9 => h9) rfl (by decide +kernel) rfl rfl (Nat.le_of_ble_eq_true rfl) d_De_renew_45 (fun Hn locsn hPn hDn hSn => ?_)
          clear hP hD hS
          have hP : va_P E.1 classes [(hd, .inr (3, [.ref h, .int st.1.1, .int (bI st.1.2.1), .int (bI st.1.2.2.1), .int st.1.2.2.2.1, .int st.1.2.2.2.2.1, .int st.1.2.2.2.2.2.1, .int x4, .int x5, .int st.1.2.2.2.2.2.2.2.2.1, .int st.1.2.2.2.2.2.2.2.2.2])), (h, .inr (0, [.ref a1, .ref a2, .ref a3, .int st.2.1, .int st.2.2.1, .int st.2.2.2.1])), (a1, .inl (E.2.1 0, 42000, .inl st.2.2.2.2.1)), (a2, .inl (E.2.1 0, 513, .inl st.2.2.2.2.2.1)), (a3, .inl (E.2.1 1, 513, .inl st.2.2.2.2.2.2))] Hn := hPn
          have hD : va_D A [(hd, .inr (3, [.ref h, .int st.1.1, .int (bI st.1.2.1), .int (bI st.1.2.2.1), .int st.1.2.2.2.1, .int st.1.2.2.2.2.1, .int st.1.2.2.2.2.2.1, .int x4, .int x5, .int st.1.2.2.2.2.2.2.2.2.1, .int st.1.2.2.2.2.2.2.2.2.2])), (h, .inr (0, [.ref a1, .ref a2, .ref a3, .int st.2.1, .int st.2.2.1, .int st.2.2.2.1])), (a1, .inl (E.2.1 0, 42000, .inl st.2.2.2.2.1)), (a2, .inl (E.2.1 0, 513, .inl st.2.2.2.2.2.1)), (a3, .inl (E.2.1 1, 513, .inl st.2.2.2.2.2.2))] := hDn
          have hS := hSn
          clear hPn hDn hSn
          refine lv_aload_n hx hb d_De_renew_48 rfl (lv_at hl 0 rfl) ?_
          refine lv_dup hx hb d_De_renew_49 rfl ?_
          refine va_get (D := E.1) (ci := 3) (v := .int st.1.2.2.2.2.2.2.2.2.1) (C := R_De) (T := T_De) (N := 11) hx hb hts in_De hown hK hP 0 rfl rfl 9 (by decide) (hts _ m_126) (fun _ h9 => h9) rfl d_De_renew_50 ?_
          refine lv_iconst (v := 1) hx hb d_De_renew_53 (by decide) ?_
          refine lv_isub hx hb d_De_renew_54 ?_
          refine lv_topi (fun x6 ex6 => ?_)
          replace hok := hok x6 ex6
          refine va_put (D := E.1) (ci := 3) (v := .int x6) (ty := .int) (C := R_De) (T := T_De) (N := 11) hx hb hts in_De t_De t_De_ok n_De hown hK hP hD hS 0 rfl rfl 9 (by decide) (hts _ m_126) (fun _ h9 => h9) rfl (by decide +kernel) rfl rfl (Nat.le_of_ble_eq_true rfl) d_De_renew_55 (fun Hn locsn hPn hDn hSn => ?_)
          clear hP hD hS
          have hP : va_P E.1 classes [(hd, .inr (3, [.ref h, .int st.1.1, .int (bI st.1.2.1), .int (bI st.1.2.2.1), .int st.1.2.2.2.1, .int st.1.2.2.2.2.1, .int st.1.2.2.2.2.2.1, .int x4, .int x5, .int x6, .int st.1.2.2.2.2.2.2.2.2.2])), (h, .inr (0, [.ref a1, .ref a2, .ref a3, .int st.2.1, .int st.2.2.1, .int st.2.2.2.1])), (a1, .inl (E.2.1 0, 42000, .inl st.2.2.2.2.1)), (a2, .inl (E.2.1 0, 513, .inl st.2.2.2.2.2.1)), (a3, .inl (E.2.1 1, 513, .inl st.2.2.2.2.2.2))] Hn := hPn
          have hD : va_D A [(hd, .inr (3, [.ref h, .int st.1.1, .int (bI st.1.2.1), .int (bI st.1.2.2.1), .int st.1.2.2.2.1, .int st.1.2.2.2.2.1, .int st.1.2.2.2.2.2.1, .int x4, .int x5, .int x6, .int st.1.2.2.2.2.2.2.2.2.2])), (h, .inr (0, [.ref a1, .ref a2, .ref a3, .int st.2.1, .int st.2.2.1, .int st.2.2.2.1])), (a1, .inl (E.2.1 0, 42000, .inl st.2.2.2.2.1)), (a2, .inl (E.2.1 0, 513, .inl st.2.2.2.2.2.1)), (a3, .inl (E.2.1 1, 513, .inl st.2.2.2.2.2.2))] := hDn
          have hS := hSn
          clear hPn hDn hSn
          obtain ⟨x7, ex7⟩ : ∃ y : Int32, y = k1 + 1 := ⟨_, rfl⟩
          replace hok := hok x7 ex7
          refine lv_iinc (v := x7) (lv' := [(1, .int x7), (0, .ref hd)]) hx hb d_De_renew_58 hl (k := 1) rfl (by rw [ex7]; rfl) (by decide) rfl (fun ls hl => ?_)
          refine lv_goto (tgt := 2) hx hb d_De_renew_61 (by decide) ?_
          have e9 : g_De_renew  (n + 1) st k1 = g_De_renew  n ((st.1.1, st.1.2.1, st.1.2.2.1, st.1.2.2.2.1, st.1.2.2.2.2.1, st.1.2.2.2.2.2.1, x4, x5, x6, st.1.2.2.2.2.2.2.2.2.2), st.2) x7 := by subst ex7; subst ex6; subst ex5; subst ex4; exact (Eq.trans (g_De_renew_s  n st k1) (Eq.trans (if_neg c1) (Eq.trans (if_neg c2) (Eq.trans (if_neg c3) rfl))))
          rw [e9]
          exact ih ((st.1.1, st.1.2.1, st.1.2.2.1, st.1.2.2.2.1, st.1.2.2.2.2.1, st.1.2.2.2.2.2.1, x4, x5, x6, st.1.2.2.2.2.2.2.2.2.2), st.2) x7 _ _ _ hok hP hD hS (lv_sub hl [1, 0] rfl)
        · replace hok := hok.1 c3
          refine lv_aload_n hx hb d_De_renew_24 rfl (lv_at hl 0 rfl) ?_
          refine ar_usev (wr := []) hP hD hS hA [0, 1, 2, 3, 4] [] rfl rfl rfl (by decide) (ar_runV (n := 0) (As := []) (rest := []) (ci := 3) (q0 := 0) hx hb hml hown hts hP hD hS hA hK hZ (c_De_take l E _ hd h a1 a2 a3 st  ) m_512 m_514 ms_13 m_6 m_515 (by decide +kernel) ⟨Nat.le_of_ble_eq_true rfl, Nat.le_of_ble_eq_true rfl⟩ [0, 1, 2, 3, 4] rfl rfl rfl rfl rfl rfl rfl hl.1 rfl (Nat.le_of_ble_eq_true rfl) d_De_renew_25 ⟨Nat.le_of_ble_eq_true rfl, Nat.le_of_ble_eq_true rfl⟩) (fun u8 Hn locsn hw8 hPn hDn hSn => ?_)
          replace hok := hok u8 hw8
          clear hP hD hS
          have hP : va_P E.1 classes [(hd, .inr (3, [.ref h, .int u8.1.1, .int (bI u8.1.2.1), .int (bI u8.1.2.2.1), .int u8.1.2.2.2.1, .int u8.1.2.2.2.2.1, .int u8.1.2.2.2.2.2.1, .int u8.1.2.2.2.2.2.2.1, .int u8.1.2.2.2.2.2.2.2.1, .int u8.1.2.2.2.2.2.2.2.2.1, .int u8.1.2.2.2.2.2.2.2.2.2])), (h, .inr (0, [.ref a1, .ref a2, .ref a3, .int u8.2.1, .int u8.2.2.1, .int u8.2.2.2.1])), (a1, .inl (E.2.1 0, 42000, .inl u8.2.2.2.2.1)), (a2, .inl (E.2.1 0, 513, .inl u8.2.2.2.2.2.1)), (a3, .inl (E.2.1 1, 513, .inl u8.2.2.2.2.2.2))] Hn := hPn
          have hD : va_D A [(hd, .inr (3, [.ref h, .int u8.1.1, .int (bI u8.1.2.1), .int (bI u8.1.2.2.1), .int u8.1.2.2.2.1, .int u8.1.2.2.2.2.1, .int u8.1.2.2.2.2.2.1, .int u8.1.2.2.2.2.2.2.1, .int u8.1.2.2.2.2.2.2.2.1, .int u8.1.2.2.2.2.2.2.2.2.1, .int u8.1.2.2.2.2.2.2.2.2.2])), (h, .inr (0, [.ref a1, .ref a2, .ref a3, .int u8.2.1, .int u8.2.2.1, .int u8.2.2.2.1])), (a1, .inl (E.2.1 0, 42000, .inl u8.2.2.2.2.1)), (a2, .inl (E.2.1 0, 513, .inl u8.2.2.2.2.2.1)), (a3, .inl (E.2.1 1, 513, .inl u8.2.2.2.2.2.2))] := hDn
          have hS := hSn
          clear hPn hDn hSn
          refine lv_aload_n hx hb d_De_renew_28 rfl (lv_at hl 0 rfl) ?_
          refine lv_dup hx hb d_De_renew_29 rfl ?_
          refine va_get (D := E.1) (ci := 3) (v := .int u8.1.2.2.2.2.2.2.1) (C := R_De) (T := T_De) (N := 11) hx hb hts in_De hown hK hP 0 rfl rfl 7 (by decide) (hts _ m_124) (fun _ h9 => h9) rfl d_De_renew_30 ?_
          refine lv_iconst (v := 1) hx hb d_De_renew_33 (by decide) ?_
          refine lv_ishl hx hb d_De_renew_34 ?_
          refine lv_topi (fun x9 ex9 => ?_)
          replace hok := hok x9 ex9
          refine va_put (D := E.1) (ci := 3) (v := .int x9) (ty := .int) (C := R_De) (T := T_De) (N := 11) hx hb hts in_De t_De t_De_ok n_De hown hK hP hD hS 0 rfl rfl 7 (by decide) (hts _ m_124) (fun _ h9 => h9) rfl (by decide +kernel) rfl rfl (Nat.le_of_ble_eq_true rfl) d_De_renew_35 (fun Hn locsn hPn hDn hSn => ?_)
          clear hP hD hS
          have hP : va_P E.1 classes [(hd, .inr (3, [.ref h, .int u8.1.1, .int (bI u8.1.2.1), .int (bI u8.1.2.2.1), .int u8.1.2.2.2.1, .int u8.1.2.2.2.2.1, .int u8.1.2.2.2.2.2.1, .int x9, .int u8.1.2.2.2.2.2.2.2.1, .int u8.1.2.2.2.2.2.2.2.2.1, .int u8.1.2.2.2.2.2.2.2.2.2])), (h, .inr (0, [.ref a1, .ref a2, .ref a3, .int u8.2.1, .int u8.2.2.1, .int u8.2.2.2.1])), (a1, .inl (E.2.1 0, 42000, .inl u8.2.2.2.2.1)), (a2, .inl (E.2.1 0, 513, .inl u8.2.2.2.2.2.1)), (a3, .inl (E.2.1 1, 513, .inl u8.2.2.2.2.2.2))] Hn := hPn
          have hD : va_D A [(hd, .inr (3, [.ref h, .int u8.1.1, .int (bI u8.1.2.1), .int (bI u8.1.2.2.1), .int u8.1.2.2.2.1, .int u8.1.2.2.2.2.1, .int u8.1.2.2.2.2.2.1, .int x9, .int u8.1.2.2.2.2.2.2.2.1, .int u8.1.2.2.2.2.2.2.2.2.1, .int u8.1.2.2.2.2.2.2.2.2.2])), (h, .inr (0, [.ref a1, .ref a2, .ref a3, .int u8.2.1, .int u8.2.2.1, .int u8.2.2.2.1])), (a1, .inl (E.2.1 0, 42000, .inl u8.2.2.2.2.1)), (a2, .inl (E.2.1 0, 513, .inl u8.2.2.2.2.2.1)), (a3, .inl (E.2.1 1, 513, .inl u8.2.2.2.2.2.2))] := hDn
          have hS := hSn
          clear hPn hDn hSn
          refine lv_aload_n hx hb d_De_renew_38 rfl (lv_at hl 0 rfl) ?_
          refine lv_dup hx hb d_De_renew_39 rfl ?_
          refine va_get (D := E.1) (ci := 3) (v := .int u8.1.2.2.2.2.2.2.2.1) (C := R_De) (T := T_De) (N := 11) hx hb hts in_De hown hK hP 0 rfl rfl 8 (by decide) (hts _ m_125) (fun _ h9 => h9) rfl d_De_renew_40 ?_
          refine lv_iconst (v := 1) hx hb d_De_renew_43 (by decide) ?_
          refine lv_ishl hx hb d_De_renew_44 ?_
          refine lv_topi (fun x10 ex10 => ?_)
          replace hok := hok x10 ex10
          refine va_put (D := E.1) (ci := 3) (v := .int x10) (ty := .int) (C := R_De) (T := T_De) (N := 11) hx hb hts in_De t_De t_De_ok n_De hown hK hP hD hS 0 rfl rfl 8 (by decide) (hts _ m_125) (fun _ h9 => h9) rfl (by decide +kernel) rfl rfl (Nat.le_of_ble_eq_true rfl) d_De_renew_45 (fun Hn locsn hPn hDn hSn => ?_)
          clear hP hD hS
          have hP : va_P E.1 classes [(hd, .inr (3, [.ref h, .int u8.1.1, .int (bI u8.1.2.1), .int (bI u8.1.2.2.1), .int u8.1.2.2.2.1, .int u8.1.2.2.2.2.1, .int u8.1.2.2.2.2.2.1, .int x9, .int x10, .int u8.1.2.2.2.2.2.2.2.2.1, .int u8.1.2.2.2.2.2.2.2.2.2])), (h, .inr (0, [.ref a1, .ref a2, .ref a3, .int u8.2.1, .int u8.2.2.1, .int u8.2.2.2.1])), (a1, .inl (E.2.1 0, 42000, .inl u8.2.2.2.2.1)), (a2, .inl (E.2.1 0, 513, .inl u8.2.2.2.2.2.1)), (a3, .inl (E.2.1 1, 513, .inl u8.2.2.2.2.2.2))] Hn := hPn
          have hD : va_D A [(hd, .inr (3, [.ref h, .int u8.1.1, .int (bI u8.1.2.1), .int (bI u8.1.2.2.1), .int u8.1.2.2.2.1, .int u8.1.2.2.2.2.1, .int u8.1.2.2.2.2.2.1, .int x9, .int x10, .int u8.1.2.2.2.2.2.2.2.2.1, .int u8.1.2.2.2.2.2.2.2.2.2])), (h, .inr (0, [.ref a1, .ref a2, .ref a3, .int u8.2.1, .int u8.2.2.1, .int u8.2.2.2.1])), (a1, .inl (E.2.1 0, 42000, .inl u8.2.2.2.2.1)), (a2, .inl (E.2.1 0, 513, .inl u8.2.2.2.2.2.1)), (a3, .inl (E.2.1 1, 513, .inl u8.2.2.2.2.2.2))] := hDn
          have hS := hSn
          clear hPn hDn hSn
          refine lv_aload_n hx hb d_De_renew_48 rfl (lv_at hl 0 rfl) ?_
          refine lv_dup hx hb d_De_renew_49 rfl ?_
          refine va_get (D := E.1) (ci := 3) (v := .int u8.1.2.2.2.2.2.2.2.2.1) (C := R_De) (T := T_De) (N := 11) hx hb hts in_De hown hK hP 0 rfl rfl 9 (by decide) (hts _ m_126) (fun _ h9 => h9) rfl d_De_renew_50 ?_
          refine lv_iconst (v := 1) hx hb d_De_renew_53 (by decide) ?_
          refine lv_isub hx hb d_De_renew_54 ?_
          refine lv_topi (fun x11 ex11 => ?_)
          replace hok := hok x11 ex11
          refine va_put (D := E.1) (ci := 3) (v := .int x11) (ty := .int) (C := R_De) (T := T_De) (N := 11) hx hb hts in_De t_De t_De_ok n_De hown hK hP hD hS 0 rfl rfl 9 (by decide) (hts _ m_126) (fun _ h9 => h9) rfl (by decide +kernel) rfl rfl (Nat.le_of_ble_eq_true rfl) d_De_renew_55 (fun Hn locsn hPn hDn hSn => ?_)
          clear hP hD hS
          have hP : va_P E.1 classes [(hd, .inr (3, [.ref h, .int u8.1.1, .int (bI u8.1.2.1), .int (bI u8.1.2.2.1), .int u8.1.2.2.2.1, .int u8.1.2.2.2.2.1, .int u8.1.2.2.2.2.2.1, .int x9, .int x10, .int x11, .int u8.1.2.2.2.2.2.2.2.2.2])), (h, .inr (0, [.ref a1, .ref a2, .ref a3, .int u8.2.1, .int u8.2.2.1, .int u8.2.2.2.1])), (a1, .inl (E.2.1 0, 42000, .inl u8.2.2.2.2.1)), (a2, .inl (E.2.1 0, 513, .inl u8.2.2.2.2.2.1)), (a3, .inl (E.2.1 1, 513, .inl u8.2.2.2.2.2.2))] Hn := hPn
          have hD : va_D A [(hd, .inr (3, [.ref h, .int u8.1.1, .int (bI u8.1.2.1), .int (bI u8.1.2.2.1), .int u8.1.2.2.2.1, .int u8.1.2.2.2.2.1, .int u8.1.2.2.2.2.2.1, .int x9, .int x10, .int x11, .int u8.1.2.2.2.2.2.2.2.2.2])), (h, .inr (0, [.ref a1, .ref a2, .ref a3, .int u8.2.1, .int u8.2.2.1, .int u8.2.2.2.1])), (a1, .inl (E.2.1 0, 42000, .inl u8.2.2.2.2.1)), (a2, .inl (E.2.1 0, 513, .inl u8.2.2.2.2.2.1)), (a3, .inl (E.2.1 1, 513, .inl u8.2.2.2.2.2.2))] := hDn
          have hS := hSn
          clear hPn hDn hSn
          obtain ⟨x12, ex12⟩ : ∃ y : Int32, y = k1 + 1 := ⟨_, rfl⟩
          replace hok := hok x12 ex12
          refine lv_iinc (v := x12) (lv' := [(1, .int x12), (0, .ref hd)]) hx hb d_De_renew_58 hl (k := 1) rfl (by rw [ex12]; rfl) (by decide) rfl (fun ls hl => ?_)
          refine lv_goto (tgt := 2) hx hb d_De_renew_61 (by decide) ?_
          have e9 : g_De_renew  (n + 1) st k1 = g_De_renew  n ((u8.1.1, u8.1.2.1, u8.1.2.2.1, u8.1.2.2.2.1, u8.1.2.2.2.2.1, u8.1.2.2.2.2.2.1, x9, x10, x11, u8.1.2.2.2.2.2.2.2.2.2), u8.2) x12 := by subst ex12; subst ex11; subst ex10; subst ex9; subst hw8; exact (Eq.trans (g_De_renew_s  n st k1) (Eq.trans (if_neg c1) (Eq.trans (if_neg c2) (Eq.trans (if_pos c3) rfl))))
          rw [e9]
          exact ih ((u8.1.1, u8.1.2.1, u8.1.2.2.1, u8.1.2.2.2.1, u8.1.2.2.2.2.1, u8.1.2.2.2.2.2.1, x9, x10, x11, u8.1.2.2.2.2.2.2.2.2.2), u8.2) x12 _ _ _ hok hP hD hS (lv_sub hl [1, 0] rfl)
noncomputable def f_De_renew  (st : (DeS) × (RoS)) : (DeS) × (RoS) :=
  g_De_renew  (nf 17) st 0
theorem f_De_renew_s  (st : (DeS) × (RoS)) : f_De_renew  st = ((
  g_De_renew  (nf 17) st 0
  : (DeS) × (RoS))) := rfl
def k_De_renew  (st : (DeS) × (RoS)) : Prop := kl_De_renew  (nf 17) st 0
set_option maxHeartbeats 4000000 in
set_option maxRecDepth 100000 in
theorem c_De_renew (l : Launch) (E : Ev) (A : Nat → Prop) (hd h a1 a2 a3 : Nat) (st : (DeS) × (RoS))   (hok : k_De_renew  st) :
    Kt l y_De_renew b_De_renew 2 none 2 0 0 E A [.ref hd] [(hd, .inr (3, [.ref h, .int st.1.1, .int (bI st.1.2.1), .int (bI st.1.2.2.1), .int st.1.2.2.2.1, .int st.1.2.2.2.2.1, .int st.1.2.2.2.2.2.1, .int st.1.2.2.2.2.2.2.1, .int st.1.2.2.2.2.2.2.2.1, .int st.1.2.2.2.2.2.2.2.2.1, .int st.1.2.2.2.2.2.2.2.2.2])), (h, .inr (0, [.ref a1, .ref a2, .ref a3, .int st.2.1, .int st.2.2.1, .int st.2.2.2.1])), (a1, .inl (E.2.1 0, 42000, .inl st.2.2.2.2.1)), (a2, .inl (E.2.1 0, 513, .inl st.2.2.2.2.2.1)), (a3, .inl (E.2.1 1, 513, .inl st.2.2.2.2.2.2))] (va_Qv (fun u : (DeS) × (RoS) => u = f_De_renew  st) (ar_W E A (fun u : (DeS) × (RoS) => [(hd, .inr (3, [.ref h, .int u.1.1, .int (bI u.1.2.1), .int (bI u.1.2.2.1), .int u.1.2.2.2.1, .int u.1.2.2.2.2.1, .int u.1.2.2.2.2.2.1, .int u.1.2.2.2.2.2.2.1, .int u.1.2.2.2.2.2.2.2.1, .int u.1.2.2.2.2.2.2.2.2.1, .int u.1.2.2.2.2.2.2.2.2.2])), (h, .inr (0, [.ref a1, .ref a2, .ref a3, .int u.2.1, .int u.2.2.1, .int u.2.2.2.1])), (a1, .inl (E.2.1 0, 42000, .inl u.2.2.2.2.1)), (a2, .inl (E.2.1 0, 513, .inl u.2.2.2.2.2.1)), (a3, .inl (E.2.1 1, 513, .inl u.2.2.2.2.2.2))])) A) := by
  unfold k_De_renew at hok
  refine Kt.of (by decide) (Nat.le_of_ble_eq_true rfl) ?_
  intro p e s m below meth c ls hx hb hml hown hts hr hlocks hex hin hA hZ hP hK hD hl
  have hS : va_S A s.heap s.heap [] := va_S.rf
  have hl : lv_has ls 2 [(0, .ref hd)] := hl
  refine lv_iconst (v := 0) hx hb d_De_renew_0 (by decide) ?_
  refine lv_istore_n (lv' := [(1, .int 0), (0, .ref hd)]) hx hb d_De_renew_1 rfl hl (by decide) rfl (fun ls hl => ?_)
  have e9 : f_De_renew  st = g_De_renew  (nf 17) st 0 := by exact (Eq.trans (f_De_renew_s  st) rfl)
  rw [e9]
  exact lp_De_renew l E A hd h a1 a2 a3   hx hb hml hown hts hr hlocks hA hZ hK (nf 17) st 0 _ _ _ hok hP hD hS (lv_sub hl [1, 0] rfl)

noncomputable def f_De_readPlain  (st : (DeS) × (RoS)) : Int32 × ((DeS) × (RoS)) :=
  if 0 < st.1.2.2.2.2.2.2.2.2.2 then
    let x2 := (st.1.2.2.2.2.2.2.2.2.2 - 1)
    (((ushr st.1.2.2.2.2.2.1 x2) &&& 1), ((st.1.1, st.1.2.1, st.1.2.2.1, st.1.2.2.2.1, st.1.2.2.2.2.1, st.1.2.2.2.2.2.1, st.1.2.2.2.2.2.2.1, st.1.2.2.2.2.2.2.2.1, st.1.2.2.2.2.2.2.2.2.1, x2), st.2))
  else
    if st.1.2.2.2.2.2.1 = 255 then
      let r7 := f_Ro_byteBefore  st.1.2.2.2.1 st.1.2.2.2.2.1 st.2
      let x8 := (st.1.2.2.2.2.1 + 1)
      let x9 := ((7 - 1) : Int32)
      (((ushr r7 x9) &&& 1), ((st.1.1, st.1.2.1, st.1.2.2.1, st.1.2.2.2.1, x8, r7, st.1.2.2.2.2.2.2.1, st.1.2.2.2.2.2.2.2.1, st.1.2.2.2.2.2.2.2.2.1, x9), st.2))
    else
      let r4 := f_Ro_byteBefore  st.1.2.2.2.1 st.1.2.2.2.2.1 st.2
      let x5 := (st.1.2.2.2.2.1 + 1)
      let x6 := ((8 - 1) : Int32)
      (((ushr r4 x6) &&& 1), ((st.1.1, st.1.2.1, st.1.2.2.1, st.1.2.2.2.1, x5, r4, st.1.2.2.2.2.2.2.1, st.1.2.2.2.2.2.2.2.1, st.1.2.2.2.2.2.2.2.2.1, x6), st.2))
theorem f_De_readPlain_s  (st : (DeS) × (RoS)) : f_De_readPlain  st = ((
  if 0 < st.1.2.2.2.2.2.2.2.2.2 then
    let x2 := (st.1.2.2.2.2.2.2.2.2.2 - 1)
    (((ushr st.1.2.2.2.2.2.1 x2) &&& 1), ((st.1.1, st.1.2.1, st.1.2.2.1, st.1.2.2.2.1, st.1.2.2.2.2.1, st.1.2.2.2.2.2.1, st.1.2.2.2.2.2.2.1, st.1.2.2.2.2.2.2.2.1, st.1.2.2.2.2.2.2.2.2.1, x2), st.2))
  else
    if st.1.2.2.2.2.2.1 = 255 then
      let r7 := f_Ro_byteBefore  st.1.2.2.2.1 st.1.2.2.2.2.1 st.2
      let x8 := (st.1.2.2.2.2.1 + 1)
      let x9 := ((7 - 1) : Int32)
      (((ushr r7 x9) &&& 1), ((st.1.1, st.1.2.1, st.1.2.2.1, st.1.2.2.2.1, x8, r7, st.1.2.2.2.2.2.2.1, st.1.2.2.2.2.2.2.2.1, st.1.2.2.2.2.2.2.2.2.1, x9), st.2))
    else
      let r4 := f_Ro_byteBefore  st.1.2.2.2.1 st.1.2.2.2.2.1 st.2
      let x5 := (st.1.2.2.2.2.1 + 1)
      let x6 := ((8 - 1) : Int32)
      (((ushr r4 x6) &&& 1), ((st.1.1, st.1.2.1, st.1.2.2.1, st.1.2.2.2.1, x5, r4, st.1.2.2.2.2.2.2.1, st.1.2.2.2.2.2.2.2.1, st.1.2.2.2.2.2.2.2.2.1, x6), st.2))
  : Int32 × ((DeS) × (RoS)))) := rfl
set_option maxHeartbeats 4000000 in
set_option maxRecDepth 100000 in
theorem c_De_readPlain (l : Launch) (E : Ev) (A : Nat → Prop) (hd h a1 a2 a3 : Nat) (st : (DeS) × (RoS))   :
    Kt l y_De_readPlain b_De_readPlain 1 (some .int) 1 0 0 E A [.ref hd] [(hd, .inr (3, [.ref h, .int st.1.1, .int (bI st.1.2.1), .int (bI st.1.2.2.1), .int st.1.2.2.2.1, .int st.1.2.2.2.2.1, .int st.1.2.2.2.2.2.1, .int st.1.2.2.2.2.2.2.1, .int st.1.2.2.2.2.2.2.2.1, .int st.1.2.2.2.2.2.2.2.2.1, .int st.1.2.2.2.2.2.2.2.2.2])), (h, .inr (0, [.ref a1, .ref a2, .ref a3, .int st.2.1, .int st.2.2.1, .int st.2.2.2.1])), (a1, .inl (E.2.1 0, 42000, .inl st.2.2.2.2.1)), (a2, .inl (E.2.1 0, 513, .inl st.2.2.2.2.2.1)), (a3, .inl (E.2.1 1, 513, .inl st.2.2.2.2.2.2))] (va_Qi (fun (r : Int32) (u : (DeS) × (RoS)) => r = (f_De_readPlain  st).1 ∧ u = (f_De_readPlain  st).2) (ar_W E A (fun u : (DeS) × (RoS) => [(hd, .inr (3, [.ref h, .int u.1.1, .int (bI u.1.2.1), .int (bI u.1.2.2.1), .int u.1.2.2.2.1, .int u.1.2.2.2.2.1, .int u.1.2.2.2.2.2.1, .int u.1.2.2.2.2.2.2.1, .int u.1.2.2.2.2.2.2.2.1, .int u.1.2.2.2.2.2.2.2.2.1, .int u.1.2.2.2.2.2.2.2.2.2])), (h, .inr (0, [.ref a1, .ref a2, .ref a3, .int u.2.1, .int u.2.2.1, .int u.2.2.2.1])), (a1, .inl (E.2.1 0, 42000, .inl u.2.2.2.2.1)), (a2, .inl (E.2.1 0, 513, .inl u.2.2.2.2.2.1)), (a3, .inl (E.2.1 1, 513, .inl u.2.2.2.2.2.2))])) A) := by
  refine Kt.of (by decide) (Nat.le_of_ble_eq_true rfl) ?_
  intro p e s m below meth c ls hx hb hml hown hts hr hlocks hex hin hA hZ hP hK hD hl
  have hS : va_S A s.heap s.heap [] := va_S.rf
  have hl : lv_has ls 1 [(0, .ref hd)] := hl
  refine lv_aload_n hx hb d_De_readPlain_0 rfl (lv_at hl 0 rfl) ?_
  refine va_get (D := E.1) (ci := 3) (v := .int st.1.2.2.2.2.2.2.2.2.2) (C := R_De) (T := T_De) (N := 11) hx hb hts in_De hown hK hP 0 rfl rfl 10 (by decide) (hts _ m_127) (fun _ h9 => h9) rfl d_De_readPlain_1 ?_
  refine lv_if_gt (tgt := 57) hx hb d_De_readPlain_4 (by decide) (fun c1 => ?_) (fun c1 => ?_)
  · skip
    refine lv_aload_n hx hb d_De_readPlain_57 rfl (lv_at hl 0 rfl) ?_
    refine lv_dup hx hb d_De_readPlain_58 rfl ?_
    refine va_get (D := E.1) (ci := 3) (v := .int st.1.2.2.2.2.2.2.2.2.2) (C := R_De) (T := T_De) (N := 11) hx hb hts in_De hown hK hP 0 rfl rfl 10 (by decide) (hts _ m_127) (fun _ h9 => h9) rfl d_De_readPlain_59 ?_
    refine lv_iconst (v := 1) hx hb d_De_readPlain_62 (by decide) ?_
    refine lv_isub hx hb d_De_readPlain_63 ?_
    refine lv_topi (fun x2 ex2 => ?_)
    refine va_put (D := E.1) (ci := 3) (v := .int x2) (ty := .int) (C := R_De) (T := T_De) (N := 11) hx hb hts in_De t_De t_De_ok n_De hown hK hP hD hS 0 rfl rfl 10 (by decide) (hts _ m_127) (fun _ h9 => h9) rfl (by decide +kernel) rfl rfl (Nat.le_of_ble_eq_true rfl) d_De_readPlain_64 (fun Hn locsn hPn hDn hSn => ?_)
    clear hP hD hS
    have hP : va_P E.1 classes [(hd, .inr (3, [.ref h, .int st.1.1, .int (bI st.1.2.1), .int (bI st.1.2.2.1), .int st.1.2.2.2.1, .int st.1.2.2.2.2.1, .int st.1.2.2.2.2.2.1, .int st.1.2.2.2.2.2.2.1, .int st.1.2.2.2.2.2.2.2.1, .int st.1.2.2.2.2.2.2.2.2.1, .int x2])), (h, .inr (0, [.ref a1, .ref a2, .ref a3, .int st.2.1, .int st.2.2.1, .int st.2.2.2.1])), (a1, .inl (E.2.1 0, 42000, .inl st.2.2.2.2.1)), (a2, .inl (E.2.1 0, 513, .inl st.2.2.2.2.2.1)), (a3, .inl (E.2.1 1, 513, .inl st.2.2.2.2.2.2))] Hn := hPn
    have hD : va_D A [(hd, .inr (3, [.ref h, .int st.1.1, .int (bI st.1.2.1), .int (bI st.1.2.2.1), .int st.1.2.2.2.1, .int st.1.2.2.2.2.1, .int st.1.2.2.2.2.2.1, .int st.1.2.2.2.2.2.2.1, .int st.1.2.2.2.2.2.2.2.1, .int st.1.2.2.2.2.2.2.2.2.1, .int x2])), (h, .inr (0, [.ref a1, .ref a2, .ref a3, .int st.2.1, .int st.2.2.1, .int st.2.2.2.1])), (a1, .inl (E.2.1 0, 42000, .inl st.2.2.2.2.1)), (a2, .inl (E.2.1 0, 513, .inl st.2.2.2.2.2.1)), (a3, .inl (E.2.1 1, 513, .inl st.2.2.2.2.2.2))] := hDn
    have hS := hSn
    clear hPn hDn hSn
    refine lv_aload_n hx hb d_De_readPlain_67 rfl (lv_at hl 0 rfl) ?_
    refine va_get (D := E.1) (ci := 3) (v := .int st.1.2.2.2.2.2.1) (C := R_De) (T := T_De) (N := 11) hx hb hts in_De hown hK hP 0 rfl rfl 6 (by decide) (hts _ m_123) (fun _ h9 => h9) rfl d_De_readPlain_68 ?_
    refine lv_aload_n hx hb d_De_readPlain_71 rfl (lv_at hl 0 rfl) ?_
    refine va_get (D := E.1) (ci := 3) (v := .int x2) (C := R_De) (T := T_De) (N := 11) hx hb hts in_De hown hK hP 0 rfl rfl 10 (by decide) (hts _ m_127) (fun _ h9 => h9) rfl d_De_readPlain_72 ?_
    refine lv_iushr (v := (ushr st.1.2.2.2.2.2.1 x2)) hx hb d_De_readPlain_75 rfl ?_
    refine lv_iconst (v := 1) hx hb d_De_readPlain_76 (by decide) ?_
    refine lv_iand hx hb d_De_readPlain_77 ?_
    exact ar_iret hx hb hr hlocks hK hS ((st.1.1, st.1.2.1, st.1.2.2.1, st.1.2.2.2.1, st.1.2.2.2.2.1, st.1.2.2.2.2.2.1, st.1.2.2.2.2.2.2.1, st.1.2.2.2.2.2.2.2.1, st.1.2.2.2.2.2.2.2.2.1, x2), st.2) (by subst ex2; exact pr_of (Eq.trans (f_De_readPlain_s  st) (Eq.trans (if_pos c1) rfl))) hP hD d_De_readPlain_78
  · skip
    refine lv_aload_n hx hb d_De_readPlain_7 rfl (lv_at hl 0 rfl) ?_
    refine lv_aload_n hx hb d_De_readPlain_8 rfl (lv_at hl 0 rfl) ?_
    refine va_get (D := E.1) (ci := 3) (v := .int st.1.2.2.2.2.2.1) (C := R_De) (T := T_De) (N := 11) hx hb hts in_De hown hK hP 0 rfl rfl 6 (by decide) (hts _ m_123) (fun _ h9 => h9) rfl d_De_readPlain_9 ?_
    refine lv_sipush (v := 255) hx hb d_De_readPlain_12 (by decide) ?_
    refine lv_icmp_ne (tgt := 23) hx hb d_De_readPlain_15 (by decide) (fun c3 => ?_) (fun c3 => ?_)
    · skip
      refine lv_bipush (v := 8) hx hb d_De_readPlain_23 (by decide) ?_
      refine va_put (D := E.1) (ci := 3) (v := .int 8) (ty := .int) (C := R_De) (T := T_De) (N := 11) hx hb hts in_De t_De t_De_ok n_De hown hK hP hD hS 0 rfl rfl 10 (by decide) (hts _ m_127) (fun _ h9 => h9) rfl (by decide +kernel) rfl rfl (Nat.le_of_ble_eq_true rfl) d_De_readPlain_25 (fun Hn locsn hPn hDn hSn => ?_)
      clear hP hD hS
      have hP : va_P E.1 classes [(hd, .inr (3, [.ref h, .int st.1.1, .int (bI st.1.2.1), .int (bI st.1.2.2.1), .int st.1.2.2.2.1, .int st.1.2.2.2.2.1, .int st.1.2.2.2.2.2.1, .int st.1.2.2.2.2.2.2.1, .int st.1.2.2.2.2.2.2.2.1, .int st.1.2.2.2.2.2.2.2.2.1, .int 8])), (h, .inr (0, [.ref a1, .ref a2, .ref a3, .int st.2.1, .int st.2.2.1, .int st.2.2.2.1])), (a1, .inl (E.2.1 0, 42000, .inl st.2.2.2.2.1)), (a2, .inl (E.2.1 0, 513, .inl st.2.2.2.2.2.1)), (a3, .inl (E.2.1 1, 513, .inl st.2.2.2.2.2.2))] Hn := hPn
      have hD : va_D A [(hd, .inr (3, [.ref h, .int st.1.1, .int (bI st.1.2.1), .int (bI st.1.2.2.1), .int st.1.2.2.2.1, .int st.1.2.2.2.2.1, .int st.1.2.2.2.2.2.1, .int st.1.2.2.2.2.2.2.1, .int st.1.2.2.2.2.2.2.2.1, .int st.1.2.2.2.2.2.2.2.2.1, .int 8])), (h, .inr (0, [.ref a1, .ref a2, .ref a3, .int st.2.1, .int st.2.2.1, .int st.2.2.2.1])), (a1, .inl (E.2.1 0, 42000, .inl st.2.2.2.2.1)), (a2, .inl (E.2.1 0, 513, .inl st.2.2.2.2.2.1)), (a3, .inl (E.2.1 1, 513, .inl st.2.2.2.2.2.2))] := hDn
      have hS := hSn
      clear hPn hDn hSn
      refine lv_aload_n hx hb d_De_readPlain_28 rfl (lv_at hl 0 rfl) ?_
      refine lv_aload_n hx hb d_De_readPlain_29 rfl (lv_at hl 0 rfl) ?_
      refine va_get (D := E.1) (ci := 3) (v := .ref h) (C := R_De) (T := T_De) (N := 11) hx hb hts in_De hown hK hP 0 rfl rfl 0 (by decide) (hts _ m_117) (fun _ h9 => h9) rfl d_De_readPlain_30 ?_
      refine lv_aload_n hx hb d_De_readPlain_33 rfl (lv_at hl 0 rfl) ?_
      refine va_get (D := E.1) (ci := 3) (v := .int st.1.2.2.2.1) (C := R_De) (T := T_De) (N := 11) hx hb hts in_De hown hK hP 0 rfl rfl 4 (by decide) (hts _ m_121) (fun _ h9 => h9) rfl d_De_readPlain_34 ?_
      refine lv_aload_n hx hb d_De_readPlain_37 rfl (lv_at hl 0 rfl) ?_
      refine va_get (D := E.1) (ci := 3) (v := .int st.1.2.2.2.2.1) (C := R_De) (T := T_De) (N := 11) hx hb hts in_De hown hK hP 0 rfl rfl 5 (by decide) (hts _ m_122) (fun _ h9 => h9) rfl d_De_readPlain_38 ?_
      refine ar_usei (wr := [(hd, .inr (3, [.ref h, .int st.1.1, .int (bI st.1.2.1), .int (bI st.1.2.2.1), .int st.1.2.2.2.1, .int st.1.2.2.2.2.1, .int st.1.2.2.2.2.2.1, .int st.1.2.2.2.2.2.2.1, .int st.1.2.2.2.2.2.2.2.1, .int st.1.2.2.2.2.2.2.2.2.1, .int 8]))]) hP hD hS hA [1, 2, 3, 4] [0] rfl rfl rfl (by decide) (ar_runV (n := 2) (As := [.int st.1.2.2.2.1, .int st.1.2.2.2.2.1]) (rest := [.ref hd]) (ci := 0) (q0 := 0) hx hb hml hown hts hP hD hS hA hK hZ (c_Ro_byteBefore l E _ h a1 a2 a3 st.2 st.1.2.2.2.1 st.1.2.2.2.2.1 ) m_511 m_465 m_466 m_4 m_467 (by decide +kernel) ⟨Nat.le_of_ble_eq_true rfl, Nat.le_of_ble_eq_true rfl⟩ [1, 2, 3, 4] rfl rfl rfl rfl rfl rfl rfl hl.1 rfl (Nat.le_of_ble_eq_true rfl) d_De_readPlain_41 ⟨Nat.le_of_ble_eq_true rfl, Nat.le_of_ble_eq_true rfl⟩) (fun r4 _ Hn locsn hw4 hPn hDn hSn => ?_)
      clear hP hD hS
      have hP : va_P E.1 classes [(hd, .inr (3, [.ref h, .int st.1.1, .int (bI st.1.2.1), .int (bI st.1.2.2.1), .int st.1.2.2.2.1, .int st.1.2.2.2.2.1, .int st.1.2.2.2.2.2.1, .int st.1.2.2.2.2.2.2.1, .int st.1.2.2.2.2.2.2.2.1, .int st.1.2.2.2.2.2.2.2.2.1, .int 8])), (h, .inr (0, [.ref a1, .ref a2, .ref a3, .int st.2.1, .int st.2.2.1, .int st.2.2.2.1])), (a1, .inl (E.2.1 0, 42000, .inl st.2.2.2.2.1)), (a2, .inl (E.2.1 0, 513, .inl st.2.2.2.2.2.1)), (a3, .inl (E.2.1 1, 513, .inl st.2.2.2.2.2.2))] Hn := hPn
      have hD : va_D A [(hd, .inr (3, [.ref h, .int st.1.1, .int (bI st.1.2.1), .int (bI st.1.2.2.1), .int st.1.2.2.2.1, .int st.1.2.2.2.2.1, .int st.1.2.2.2.2.2.1, .int st.1.2.2.2.2.2.2.1, .int st.1.2.2.2.2.2.2.2.1, .int st.1.2.2.2.2.2.2.2.2.1, .int 8])), (h, .inr (0, [.ref a1, .ref a2, .ref a3, .int st.2.1, .int st.2.2.1, .int st.2.2.2.1])), (a1, .inl (E.2.1 0, 42000, .inl st.2.2.2.2.1)), (a2, .inl (E.2.1 0, 513, .inl st.2.2.2.2.2.1)), (a3, .inl (E.2.1 1, 513, .inl st.2.2.2.2.2.2))] := hDn
      have hS := hSn
      clear hPn hDn hSn
      refine va_put (D := E.1) (ci := 3) (v := .int r4) (ty := .int) (C := R_De) (T := T_De) (N := 11) hx hb hts in_De t_De t_De_ok n_De hown hK hP hD hS 0 rfl rfl 6 (by decide) (hts _ m_123) (fun _ h9 => h9) rfl (by decide +kernel) rfl rfl (Nat.le_of_ble_eq_true rfl) d_De_readPlain_44 (fun Hn locsn hPn hDn hSn => ?_)
      clear hP hD hS
      have hP : va_P E.1 classes [(hd, .inr (3, [.ref h, .int st.1.1, .int (bI st.1.2.1), .int (bI st.1.2.2.1), .int st.1.2.2.2.1, .int st.1.2.2.2.2.1, .int r4, .int st.1.2.2.2.2.2.2.1, .int st.1.2.2.2.2.2.2.2.1, .int st.1.2.2.2.2.2.2.2.2.1, .int 8])), (h, .inr (0, [.ref a1, .ref a2, .ref a3, .int st.2.1, .int st.2.2.1, .int st.2.2.2.1])), (a1, .inl (E.2.1 0, 42000, .inl st.2.2.2.2.1)), (a2, .inl (E.2.1 0, 513, .inl st.2.2.2.2.2.1)), (a3, .inl (E.2.1 1, 513, .inl st.2.2.2.2.2.2))] Hn := hPn
      have hD : va_D A [(hd, .inr (3, [.ref h, .int st.1.1, .int (bI st.1.2.1), .int (bI st.1.2.2.1), .int st.1.2.2.2.1, .int st.1.2.2.2.2.1, .int r4, .int st.1.2.2.2.2.2.2.1, .int st.1.2.2.2.2.2.2.2.1, .int st.1.2.2.2.2.2.2.2.2.1, .int 8])), (h, .inr (0, [.ref a1, .ref a2, .ref a3, .int st.2.1, .int st.2.2.1, .int st.2.2.2.1])), (a1, .inl (E.2.1 0, 42000, .inl st.2.2.2.2.1)), (a2, .inl (E.2.1 0, 513, .inl st.2.2.2.2.2.1)), (a3, .inl (E.2.1 1, 513, .inl st.2.2.2.2.2.2))] := hDn
      have hS := hSn
      clear hPn hDn hSn
      refine lv_aload_n hx hb d_De_readPlain_47 rfl (lv_at hl 0 rfl) ?_
      refine lv_dup hx hb d_De_readPlain_48 rfl ?_
      refine va_get (D := E.1) (ci := 3) (v := .int st.1.2.2.2.2.1) (C := R_De) (T := T_De) (N := 11) hx hb hts in_De hown hK hP 0 rfl rfl 5 (by decide) (hts _ m_122) (fun _ h9 => h9) rfl d_De_readPlain_49 ?_
      refine lv_iconst (v := 1) hx hb d_De_readPlain_52 (by decide) ?_
      refine lv_iadd hx hb d_De_readPlain_53 ?_
      refine lv_topi (fun x5 ex5 => ?_)
      refine va_put (D := E.1) (ci := 3) (v := .int x5) (ty := .int) (C := R_De) (T := T_De) (N := 11) hx hb hts in_De t_De t_De_ok n_De hown hK hP hD hS 0 rfl rfl 5 (by decide) (hts _ m_122) (fun _ h9 => h9) rfl (by decide +kernel) rfl rfl (Nat.le_of_ble_eq_true rfl) d_De_readPlain_54 (fun Hn locsn hPn hDn hSn => ?_)
      clear hP hD hS
      have hP : va_P E.1 classes [(hd, .inr (3, [.ref h, .int st.1.1, .int (bI st.1.2.1), .int (bI st.1.2.2.1), .int st.1.2.2.2.1, .int x5, .int r4, .int st.1.2.2.2.2.2.2.1, .int st.1.2.2.2.2.2.2.2.1, .int st.1.2.2.2.2.2.2.2.2.1, .int 8])), (h, .inr (0, [.ref a1, .ref a2, .ref a3, .int st.2.1, .int st.2.2.1, .int st.2.2.2.1])), (a1, .inl (E.2.1 0, 42000, .inl st.2.2.2.2.1)), (a2, .inl (E.2.1 0, 513, .inl st.2.2.2.2.2.1)), (a3, .inl (E.2.1 1, 513, .inl st.2.2.2.2.2.2))] Hn := hPn
      have hD : va_D A [(hd, .inr (3, [.ref h, .int st.1.1, .int (bI st.1.2.1), .int (bI st.1.2.2.1), .int st.1.2.2.2.1, .int x5, .int r4, .int st.1.2.2.2.2.2.2.1, .int st.1.2.2.2.2.2.2.2.1, .int st.1.2.2.2.2.2.2.2.2.1, .int 8])), (h, .inr (0, [.ref a1, .ref a2, .ref a3, .int st.2.1, .int st.2.2.1, .int st.2.2.2.1])), (a1, .inl (E.2.1 0, 42000, .inl st.2.2.2.2.1)), (a2, .inl (E.2.1 0, 513, .inl st.2.2.2.2.2.1)), (a3, .inl (E.2.1 1, 513, .inl st.2.2.2.2.2.2))] := hDn
      have hS := hSn
      clear hPn hDn hSn
      refine lv_aload_n hx hb d_De_readPlain_57 rfl (lv_at hl 0 rfl) ?_
      refine lv_dup hx hb d_De_readPlain_58 rfl ?_
      refine va_get (D := E.1) (ci := 3) (v := .int 8) (C := R_De) (T := T_De) (N := 11) hx hb hts in_De hown hK hP 0 rfl rfl 10 (by decide) (hts _ m_127) (fun _ h9 => h9) rfl d_De_readPlain_59 ?_
      refine lv_iconst (v := 1) hx hb d_De_readPlain_62 (by decide) ?_
      refine lv_isub hx hb d_De_readPlain_63 ?_
      refine lv_topi (fun x6 ex6 => ?_)
      refine va_put (D := E.1) (ci := 3) (v := .int x6) (ty := .int) (C := R_De) (T := T_De) (N := 11) hx hb hts in_De t_De t_De_ok n_De hown hK hP hD hS 0 rfl rfl 10 (by decide) (hts _ m_127) (fun _ h9 => h9) rfl (by decide +kernel) rfl rfl (Nat.le_of_ble_eq_true rfl) d_De_readPlain_64 (fun Hn locsn hPn hDn hSn => ?_)
      clear hP hD hS
      have hP : va_P E.1 classes [(hd, .inr (3, [.ref h, .int st.1.1, .int (bI st.1.2.1), .int (bI st.1.2.2.1), .int st.1.2.2.2.1, .int x5, .int r4, .int st.1.2.2.2.2.2.2.1, .int st.1.2.2.2.2.2.2.2.1, .int st.1.2.2.2.2.2.2.2.2.1, .int x6])), (h, .inr (0, [.ref a1, .ref a2, .ref a3, .int st.2.1, .int st.2.2.1, .int st.2.2.2.1])), (a1, .inl (E.2.1 0, 42000, .inl st.2.2.2.2.1)), (a2, .inl (E.2.1 0, 513, .inl st.2.2.2.2.2.1)), (a3, .inl (E.2.1 1, 513, .inl st.2.2.2.2.2.2))] Hn := hPn
      have hD : va_D A [(hd, .inr (3, [.ref h, .int st.1.1, .int (bI st.1.2.1), .int (bI st.1.2.2.1), .int st.1.2.2.2.1, .int x5, .int r4, .int st.1.2.2.2.2.2.2.1, .int st.1.2.2.2.2.2.2.2.1, .int st.1.2.2.2.2.2.2.2.2.1, .int x6])), (h, .inr (0, [.ref a1, .ref a2, .ref a3, .int st.2.1, .int st.2.2.1, .int st.2.2.2.1])), (a1, .inl (E.2.1 0, 42000, .inl st.2.2.2.2.1)), (a2, .inl (E.2.1 0, 513, .inl st.2.2.2.2.2.1)), (a3, .inl (E.2.1 1, 513, .inl st.2.2.2.2.2.2))] := hDn
      have hS := hSn
      clear hPn hDn hSn
      refine lv_aload_n hx hb d_De_readPlain_67 rfl (lv_at hl 0 rfl) ?_
      refine va_get (D := E.1) (ci := 3) (v := .int r4) (C := R_De) (T := T_De) (N := 11) hx hb hts in_De hown hK hP 0 rfl rfl 6 (by decide) (hts _ m_123) (fun _ h9 => h9) rfl d_De_readPlain_68 ?_
      refine lv_aload_n hx hb d_De_readPlain_71 rfl (lv_at hl 0 rfl) ?_
      refine va_get (D := E.1) (ci := 3) (v := .int x6) (C := R_De) (T := T_De) (N := 11) hx hb hts in_De hown hK hP 0 rfl rfl 10 (by decide) (hts _ m_127) (fun _ h9 => h9) rfl d_De_readPlain_72 ?_
      refine lv_iushr (v := (ushr r4 x6)) hx hb d_De_readPlain_75 rfl ?_
      refine lv_iconst (v := 1) hx hb d_De_readPlain_76 (by decide) ?_
      refine lv_iand hx hb d_De_readPlain_77 ?_
      exact ar_iret hx hb hr hlocks hK hS ((st.1.1, st.1.2.1, st.1.2.2.1, st.1.2.2.2.1, x5, r4, st.1.2.2.2.2.2.2.1, st.1.2.2.2.2.2.2.2.1, st.1.2.2.2.2.2.2.2.2.1, x6), st.2) (by subst ex6; subst ex5; subst hw4; exact pr_of (Eq.trans (f_De_readPlain_s  st) (Eq.trans (if_neg c1) (Eq.trans (if_neg c3) rfl)))) hP hD d_De_readPlain_78
    · skip
      refine lv_bipush (v := 7) hx hb d_De_readPlain_18 (by decide) ?_
      refine lv_goto (tgt := 25) hx hb d_De_readPlain_20 (by decide) ?_
      refine va_put (D := E.1) (ci := 3) (v := .int 7) (ty := .int) (C := R_De) (T := T_De) (N := 11) hx hb hts in_De t_De t_De_ok n_De hown hK hP hD hS 0 rfl rfl 10 (by decide) (hts _ m_127) (fun _ h9 => h9) rfl (by decide +kernel) rfl rfl (Nat.le_of_ble_eq_true rfl) d_De_readPlain_25 (fun Hn locsn hPn hDn hSn => ?_)
      clear hP hD hS
      have hP : va_P E.1 classes [(hd, .inr (3, [.ref h, .int st.1.1, .int (bI st.1.2.1), .int (bI st.1.2.2.1), .int st.1.2.2.2.1, .int st.1.2.2.2.2.1, .int st.1.2.2.2.2.2.1, .int st.1.2.2.2.2.2.2.1, .int st.1.2.2.2.2.2.2.2.1, .int st.1.2.2.2.2.2.2.2.2.1, .int 7])), (h, .inr (0, [.ref a1, .ref a2, .ref a3, .int st.2.1, .int st.2.2.1, .int st.2.2.2.1])), (a1, .inl (E.2.1 0, 42000, .inl st.2.2.2.2.1)), (a2, .inl (E.2.1 0, 513, .inl st.2.2.2.2.2.1)), (a3, .inl (E.2.1 1, 513, .inl st.2.2.2.2.2.2))] Hn := hPn
      have hD : va_D A [(hd, .inr (3, [.ref h, .int st.1.1, .int (bI st.1.2.1), .int (bI st.1.2.2.1), .int st.1.2.2.2.1, .int st.1.2.2.2.2.1, .int st.1.2.2.2.2.2.1, .int st.1.2.2.2.2.2.2.1, .int st.1.2.2.2.2.2.2.2.1, .int st.1.2.2.2.2.2.2.2.2.1, .int 7])), (h, .inr (0, [.ref a1, .ref a2, .ref a3, .int st.2.1, .int st.2.2.1, .int st.2.2.2.1])), (a1, .inl (E.2.1 0, 42000, .inl st.2.2.2.2.1)), (a2, .inl (E.2.1 0, 513, .inl st.2.2.2.2.2.1)), (a3, .inl (E.2.1 1, 513, .inl st.2.2.2.2.2.2))] := hDn
      have hS := hSn
      clear hPn hDn hSn
      refine lv_aload_n hx hb d_De_readPlain_28 rfl (lv_at hl 0 rfl) ?_
      refine lv_aload_n hx hb d_De_readPlain_29 rfl (lv_at hl 0 rfl) ?_
      refine va_get (D := E.1) (ci := 3) (v := .ref h) (C := R_De) (T := T_De) (N := 11) hx hb hts in_De hown hK hP 0 rfl rfl 0 (by decide) (hts _ m_117) (fun _ h9 => h9) rfl d_De_readPlain_30 ?_
      refine lv_aload_n hx hb d_De_readPlain_33 rfl (lv_at hl 0 rfl) ?_
      refine va_get (D := E.1) (ci := 3) (v := .int st.1.2.2.2.1) (C := R_De) (T := T_De) (N := 11) hx hb hts in_De hown hK hP 0 rfl rfl 4 (by decide) (hts _ m_121) (fun _ h9 => h9) rfl d_De_readPlain_34 ?_
      refine lv_aload_n hx hb d_De_readPlain_37 rfl (lv_at hl 0 rfl) ?_
      refine va_get (D := E.1) (ci := 3) (v := .int st.1.2.2.2.2.1) (C := R_De) (T := T_De) (N := 11) hx hb hts in_De hown hK hP 0 rfl rfl 5 (by decide) (hts _ m_122) (fun _ h9 => h9) rfl d_De_readPlain_38 ?_
      refine ar_usei (wr := [(hd, .inr (3, [.ref h, .int st.1.1, .int (bI st.1.2.1), .int (bI st.1.2.2.1), .int st.1.2.2.2.1, .int st.1.2.2.2.2.1, .int st.1.2.2.2.2.2.1, .int st.1.2.2.2.2.2.2.1, .int st.1.2.2.2.2.2.2.2.1, .int st.1.2.2.2.2.2.2.2.2.1, .int 7]))]) hP hD hS hA [1, 2, 3, 4] [0] rfl rfl rfl (by decide) (ar_runV (n := 2) (As := [.int st.1.2.2.2.1, .int st.1.2.2.2.2.1]) (rest := [.ref hd]) (ci := 0) (q0 := 0) hx hb hml hown hts hP hD hS hA hK hZ (c_Ro_byteBefore l E _ h a1 a2 a3 st.2 st.1.2.2.2.1 st.1.2.2.2.2.1 ) m_511 m_465 m_466 m_4 m_467 (by decide +kernel) ⟨Nat.le_of_ble_eq_true rfl, Nat.le_of_ble_eq_true rfl⟩ [1, 2, 3, 4] rfl rfl rfl rfl rfl rfl rfl hl.1 rfl (Nat.le_of_ble_eq_true rfl) d_De_readPlain_41 ⟨Nat.le_of_ble_eq_true rfl, Nat.le_of_ble_eq_true rfl⟩) (fun r7 _ Hn locsn hw7 hPn hDn hSn => ?_)
      clear hP hD hS
      have hP : va_P E.1 classes [(hd, .inr (3, [.ref h, .int st.1.1, .int (bI st.1.2.1), .int (bI st.1.2.2.1), .int st.1.2.2.2.1, .int st.1.2.2.2.2.1, .int st.1.2.2.2.2.2.1, .int st.1.2.2.2.2.2.2.1, .int st.1.2.2.2.2.2.2.2.1, .int st.1.2.2.2.2.2.2.2.2.1, .int 7])), (h, .inr (0, [.ref a1, .ref a2, .ref a3, .int st.2.1, .int st.2.2.1, .int st.2.2.2.1])), (a1, .inl (E.2.1 0, 42000, .inl st.2.2.2.2.1)), (a2, .inl (E.2.1 0, 513, .inl st.2.2.2.2.2.1)), (a3, .inl (E.2.1 1, 513, .inl st.2.2.2.2.2.2))] Hn := hPn
      have hD : va_D A [(hd, .inr (3, [.ref h, .int st.1.1, .int (bI st.1.2.1), .int (bI st.1.2.2.1), .int st.1.2.2.2.1, .int st.1.2.2.2.2.1, .int st.1.2.2.2.2.2.1, .int st.1.2.2.2.2.2.2.1, .int st.1.2.2.2.2.2.2.2.1, .int st.1.2.2.2.2.2.2.2.2.1, .int 7])), (h, .inr (0, [.ref a1, .ref a2, .ref a3, .int st.2.1, .int st.2.2.1, .int st.2.2.2.1])), (a1, .inl (E.2.1 0, 42000, .inl st.2.2.2.2.1)), (a2, .inl (E.2.1 0, 513, .inl st.2.2.2.2.2.1)), (a3, .inl (E.2.1 1, 513, .inl st.2.2.2.2.2.2))] := hDn
      have hS := hSn
      clear hPn hDn hSn
      refine va_put (D := E.1) (ci := 3) (v := .int r7) (ty := .int) (C := R_De) (T := T_De) (N := 11) hx hb hts in_De t_De t_De_ok n_De hown hK hP hD hS 0 rfl rfl 6 (by decide) (hts _ m_123) (fun _ h9 => h9) rfl (by decide +kernel) rfl rfl (Nat.le_of_ble_eq_true rfl) d_De_readPlain_44 (fun Hn locsn hPn hDn hSn => ?_)
      clear hP hD hS
      have hP : va_P E.1 classes [(hd, .inr (3, [.ref h, .int st.1.1, .int (bI st.1.2.1), .int (bI st.1.2.2.1), .int st.1.2.2.2.1, .int st.1.2.2.2.2.1, .int r7, .int st.1.2.2.2.2.2.2.1, .int st.1.2.2.2.2.2.2.2.1, .int st.1.2.2.2.2.2.2.2.2.1, .int 7])), (h, .inr (0, [.ref a1, .ref a2, .ref a3, .int st.2.1, .int st.2.2.1, .int st.2.2.2.1])), (a1, .inl (E.2.1 0, 42000, .inl st.2.2.2.2.1)), (a2, .inl (E.2.1 0, 513, .inl st.2.2.2.2.2.1)), (a3, .inl (E.2.1 1, 513, .inl st.2.2.2.2.2.2))] Hn := hPn
      have hD : va_D A [(hd, .inr (3, [.ref h, .int st.1.1, .int (bI st.1.2.1), .int (bI st.1.2.2.1), .int st.1.2.2.2.1, .int st.1.2.2.2.2.1, .int r7, .int st.1.2.2.2.2.2.2.1, .int st.1.2.2.2.2.2.2.2.1, .int st.1.2.2.2.2.2.2.2.2.1, .int 7])), (h, .inr (0, [.ref a1, .ref a2, .ref a3, .int st.2.1, .int st.2.2.1, .int st.2.2.2.1])), (a1, .inl (E.2.1 0, 42000, .inl st.2.2.2.2.1)), (a2, .inl (E.2.1 0, 513, .inl st.2.2.2.2.2.1)), (a3, .inl (E.2.1 1, 513, .inl st.2.2.2.2.2.2))] := hDn
      have hS := hSn
      clear hPn hDn hSn
      refine lv_aload_n hx hb d_De_readPlain_47 rfl (lv_at hl 0 rfl) ?_
      refine lv_dup hx hb d_De_readPlain_48 rfl ?_
      refine va_get (D := E.1) (ci := 3) (v := .int st.1.2.2.2.2.1) (C := R_De) (T := T_De) (N := 11) hx hb hts in_De hown hK hP 0 rfl rfl 5 (by decide) (hts _ m_122) (fun _ h9 => h9) rfl d_De_readPlain_49 ?_
      refine lv_iconst (v := 1) hx hb d_De_readPlain_52 (by decide) ?_
      refine lv_iadd hx hb d_De_readPlain_53 ?_
      refine lv_topi (fun x8 ex8 => ?_)
      refine va_put (D := E.1) (ci := 3) (v := .int x8) (ty := .int) (C := R_De) (T := T_De) (N := 11) hx hb hts in_De t_De t_De_ok n_De hown hK hP hD hS 0 rfl rfl 5 (by decide) (hts _ m_122) (fun _ h9 => h9) rfl (by decide +kernel) rfl rfl (Nat.le_of_ble_eq_true rfl) d_De_readPlain_54 (fun Hn locsn hPn hDn hSn => ?_)
      clear hP hD hS
      have hP : va_P E.1 classes [(hd, .inr (3, [.ref h, .int st.1.1, .int (bI st.1.2.1), .int (bI st.1.2.2.1), .int st.1.2.2.2.1, .int x8, .int r7, .int st.1.2.2.2.2.2.2.1, .int st.1.2.2.2.2.2.2.2.1, .int st.1.2.2.2.2.2.2.2.2.1, .int 7])), (h, .inr (0, [.ref a1, .ref a2, .ref a3, .int st.2.1, .int st.2.2.1, .int st.2.2.2.1])), (a1, .inl (E.2.1 0, 42000, .inl st.2.2.2.2.1)), (a2, .inl (E.2.1 0, 513, .inl st.2.2.2.2.2.1)), (a3, .inl (E.2.1 1, 513, .inl st.2.2.2.2.2.2))] Hn := hPn
      have hD : va_D A [(hd, .inr (3, [.ref h, .int st.1.1, .int (bI st.1.2.1), .int (bI st.1.2.2.1), .int st.1.2.2.2.1, .int x8, .int r7, .int st.1.2.2.2.2.2.2.1, .int st.1.2.2.2.2.2.2.2.1, .int st.1.2.2.2.2.2.2.2.2.1, .int 7])), (h, .inr (0, [.ref a1, .ref a2, .ref a3, .int st.2.1, .int st.2.2.1, .int st.2.2.2.1])), (a1, .inl (E.2.1 0, 42000, .inl st.2.2.2.2.1)), (a2, .inl (E.2.1 0, 513, .inl st.2.2.2.2.2.1)), (a3, .inl (E.2.1 1, 513, .inl st.2.2.2.2.2.2))] := hDn
      have hS := hSn
      clear hPn hDn hSn
      refine lv_aload_n hx hb d_De_readPlain_57 rfl (lv_at hl 0 rfl) ?_
      refine lv_dup hx hb d_De_readPlain_58 rfl ?_
      refine va_get (D := E.1) (ci := 3) (v := .int 7) (C := R_De) (T := T_De) (N := 11) hx hb hts in_De hown hK hP 0 rfl rfl 10 (by decide) (hts _ m_127) (fun _ h9 => h9) rfl d_De_readPlain_59 ?_
      refine lv_iconst (v := 1) hx hb d_De_readPlain_62 (by decide) ?_
      refine lv_isub hx hb d_De_readPlain_63 ?_
      refine lv_topi (fun x9 ex9 => ?_)
      refine va_put (D := E.1) (ci := 3) (v := .int x9) (ty := .int) (C := R_De) (T := T_De) (N := 11) hx hb hts in_De t_De t_De_ok n_De hown hK hP hD hS 0 rfl rfl 10 (by decide) (hts _ m_127) (fun _ h9 => h9) rfl (by decide +kernel) rfl rfl (Nat.le_of_ble_eq_true rfl) d_De_readPlain_64 (fun Hn locsn hPn hDn hSn => ?_)
      clear hP hD hS
      have hP : va_P E.1 classes [(hd, .inr (3, [.ref h, .int st.1.1, .int (bI st.1.2.1), .int (bI st.1.2.2.1), .int st.1.2.2.2.1, .int x8, .int r7, .int st.1.2.2.2.2.2.2.1, .int st.1.2.2.2.2.2.2.2.1, .int st.1.2.2.2.2.2.2.2.2.1, .int x9])), (h, .inr (0, [.ref a1, .ref a2, .ref a3, .int st.2.1, .int st.2.2.1, .int st.2.2.2.1])), (a1, .inl (E.2.1 0, 42000, .inl st.2.2.2.2.1)), (a2, .inl (E.2.1 0, 513, .inl st.2.2.2.2.2.1)), (a3, .inl (E.2.1 1, 513, .inl st.2.2.2.2.2.2))] Hn := hPn
      have hD : va_D A [(hd, .inr (3, [.ref h, .int st.1.1, .int (bI st.1.2.1), .int (bI st.1.2.2.1), .int st.1.2.2.2.1, .int x8, .int r7, .int st.1.2.2.2.2.2.2.1, .int st.1.2.2.2.2.2.2.2.1, .int st.1.2.2.2.2.2.2.2.2.1, .int x9])), (h, .inr (0, [.ref a1, .ref a2, .ref a3, .int st.2.1, .int st.2.2.1, .int st.2.2.2.1])), (a1, .inl (E.2.1 0, 42000, .inl st.2.2.2.2.1)), (a2, .inl (E.2.1 0, 513, .inl st.2.2.2.2.2.1)), (a3, .inl (E.2.1 1, 513, .inl st.2.2.2.2.2.2))] := hDn
      have hS := hSn
      clear hPn hDn hSn
      refine lv_aload_n hx hb d_De_readPlain_67 rfl (lv_at hl 0 rfl) ?_
      refine va_get (D := E.1) (ci := 3) (v := .int r7) (C := R_De) (T := T_De) (N := 11) hx hb hts in_De hown hK hP 0 rfl rfl 6 (by decide) (hts _ m_123) (fun _ h9 => h9) rfl d_De_readPlain_68 ?_
      refine lv_aload_n hx hb d_De_readPlain_71 rfl (lv_at hl 0 rfl) ?_
      refine va_get (D := E.1) (ci := 3) (v := .int x9) (C := R_De) (T := T_De) (N := 11) hx hb hts in_De hown hK hP 0 rfl rfl 10 (by decide) (hts _ m_127) (fun _ h9 => h9) rfl d_De_readPlain_72 ?_
      refine lv_iushr (v := (ushr r7 x9)) hx hb d_De_readPlain_75 rfl ?_
      refine lv_iconst (v := 1) hx hb d_De_readPlain_76 (by decide) ?_
      refine lv_iand hx hb d_De_readPlain_77 ?_
      exact ar_iret hx hb hr hlocks hK hS ((st.1.1, st.1.2.1, st.1.2.2.1, st.1.2.2.2.1, x8, r7, st.1.2.2.2.2.2.2.1, st.1.2.2.2.2.2.2.2.1, st.1.2.2.2.2.2.2.2.2.1, x9), st.2) (by subst ex9; subst ex8; subst hw7; exact pr_of (Eq.trans (f_De_readPlain_s  st) (Eq.trans (if_neg c1) (Eq.trans (if_pos c3) rfl)))) hP hD d_De_readPlain_78

noncomputable def f_De_readCoded (nc : Nat) (p1 : Int32) (st : (DeS) × (RoS) × (Nat → Int32)) : Int32 × ((DeS) × (RoS) × (Nat → Int32)) :=
  if p1 < 0 then
    (0, st)
  else
    if p1 < (nI nc) then
      let x3 := (st.2.2 (Int32.toNatClampNeg p1))
      let r4 := f_Ta_q  x3 
      let x5 := (st.1.2.2.2.2.2.2.1 - r4)
      if r4 ≤ (ushr st.1.2.2.2.2.2.2.2.1 16) then
        let x7 := (st.1.2.2.2.2.2.2.2.1 - (r4 <<< (16 &&& 31)))
        if x5 < 32768 then
          if x5 < r4 then
            let r10 := f_Ta_behindOther  x3 
            let u13 := f_De_renew   ((st.1.1, st.1.2.1, st.1.2.2.1, st.1.2.2.2.1, st.1.2.2.2.2.1, st.1.2.2.2.2.2.1, x5, x7, st.1.2.2.2.2.2.2.2.2.1, st.1.2.2.2.2.2.2.2.2.2), st.2.1)
            ((1 - (x3 &&& 1)), (u13.1, u13.2, (upd st.2.2 (Int32.toNatClampNeg p1) r10)))
          else
            let r14 := f_Ta_behindLikely  x3 
            let u17 := f_De_renew   ((st.1.1, st.1.2.1, st.1.2.2.1, st.1.2.2.2.1, st.1.2.2.2.2.1, st.1.2.2.2.2.2.1, x5, x7, st.1.2.2.2.2.2.2.2.2.1, st.1.2.2.2.2.2.2.2.2.2), st.2.1)
            ((x3 &&& 1), (u17.1, u17.2, (upd st.2.2 (Int32.toNatClampNeg p1) r14)))
        else
          ((x3 &&& 1), ((st.1.1, st.1.2.1, st.1.2.2.1, st.1.2.2.2.1, st.1.2.2.2.2.1, st.1.2.2.2.2.2.1, x5, x7, st.1.2.2.2.2.2.2.2.2.1, st.1.2.2.2.2.2.2.2.2.2), st.2.1, st.2.2))
      else
        if r4 ≤ x5 then
          let r19 := f_Ta_behindOther  x3 
          let u22 := f_De_renew   ((st.1.1, st.1.2.1, st.1.2.2.1, st.1.2.2.2.1, st.1.2.2.2.2.1, st.1.2.2.2.2.2.1, r4, st.1.2.2.2.2.2.2.2.1, st.1.2.2.2.2.2.2.2.2.1, st.1.2.2.2.2.2.2.2.2.2), st.2.1)
          ((1 - (x3 &&& 1)), (u22.1, u22.2, (upd st.2.2 (Int32.toNatClampNeg p1) r19)))
        else
          let r23 := f_Ta_behindLikely  x3 
          let u26 := f_De_renew   ((st.1.1, st.1.2.1, st.1.2.2.1, st.1.2.2.2.1, st.1.2.2.2.2.1, st.1.2.2.2.2.2.1, r4, st.1.2.2.2.2.2.2.2.1, st.1.2.2.2.2.2.2.2.2.1, st.1.2.2.2.2.2.2.2.2.2), st.2.1)
          ((x3 &&& 1), (u26.1, u26.2, (upd st.2.2 (Int32.toNatClampNeg p1) r23)))
    else
      (0, st)
theorem f_De_readCoded_s (nc : Nat) (p1 : Int32) (st : (DeS) × (RoS) × (Nat → Int32)) : f_De_readCoded nc p1 st = ((
  if p1 < 0 then
    (0, st)
  else
    if p1 < (nI nc) then
      let x3 := (st.2.2 (Int32.toNatClampNeg p1))
      let r4 := f_Ta_q  x3 
      let x5 := (st.1.2.2.2.2.2.2.1 - r4)
      if r4 ≤ (ushr st.1.2.2.2.2.2.2.2.1 16) then
        let x7 := (st.1.2.2.2.2.2.2.2.1 - (r4 <<< (16 &&& 31)))
        if x5 < 32768 then
          if x5 < r4 then
            let r10 := f_Ta_behindOther  x3 
            let u13 := f_De_renew   ((st.1.1, st.1.2.1, st.1.2.2.1, st.1.2.2.2.1, st.1.2.2.2.2.1, st.1.2.2.2.2.2.1, x5, x7, st.1.2.2.2.2.2.2.2.2.1, st.1.2.2.2.2.2.2.2.2.2), st.2.1)
            ((1 - (x3 &&& 1)), (u13.1, u13.2, (upd st.2.2 (Int32.toNatClampNeg p1) r10)))
          else
            let r14 := f_Ta_behindLikely  x3 
            let u17 := f_De_renew   ((st.1.1, st.1.2.1, st.1.2.2.1, st.1.2.2.2.1, st.1.2.2.2.2.1, st.1.2.2.2.2.2.1, x5, x7, st.1.2.2.2.2.2.2.2.2.1, st.1.2.2.2.2.2.2.2.2.2), st.2.1)
            ((x3 &&& 1), (u17.1, u17.2, (upd st.2.2 (Int32.toNatClampNeg p1) r14)))
        else
          ((x3 &&& 1), ((st.1.1, st.1.2.1, st.1.2.2.1, st.1.2.2.2.1, st.1.2.2.2.2.1, st.1.2.2.2.2.2.1, x5, x7, st.1.2.2.2.2.2.2.2.2.1, st.1.2.2.2.2.2.2.2.2.2), st.2.1, st.2.2))
      else
        if r4 ≤ x5 then
          let r19 := f_Ta_behindOther  x3 
          let u22 := f_De_renew   ((st.1.1, st.1.2.1, st.1.2.2.1, st.1.2.2.2.1, st.1.2.2.2.2.1, st.1.2.2.2.2.2.1, r4, st.1.2.2.2.2.2.2.2.1, st.1.2.2.2.2.2.2.2.2.1, st.1.2.2.2.2.2.2.2.2.2), st.2.1)
          ((1 - (x3 &&& 1)), (u22.1, u22.2, (upd st.2.2 (Int32.toNatClampNeg p1) r19)))
        else
          let r23 := f_Ta_behindLikely  x3 
          let u26 := f_De_renew   ((st.1.1, st.1.2.1, st.1.2.2.1, st.1.2.2.2.1, st.1.2.2.2.2.1, st.1.2.2.2.2.2.1, r4, st.1.2.2.2.2.2.2.2.1, st.1.2.2.2.2.2.2.2.2.1, st.1.2.2.2.2.2.2.2.2.2), st.2.1)
          ((x3 &&& 1), (u26.1, u26.2, (upd st.2.2 (Int32.toNatClampNeg p1) r23)))
    else
      (0, st)
  : Int32 × ((DeS) × (RoS) × (Nat → Int32)))) := rfl
def k_De_readCoded (nc : Nat) (p1 : Int32) (st : (DeS) × (RoS) × (Nat → Int32)) : Prop := (nc < 2 ^ 31) ∧ (((p1 < 0) → True) ∧ (¬ (p1 < 0) → ((p1 < (nI nc)) → (∀ x3, x3 = (st.2.2 (Int32.toNatClampNeg p1)) → (∀ r4, r4 = f_Ta_q  x3  → (∀ x5, x5 = (st.1.2.2.2.2.2.2.1 - r4) → ((r4 ≤ (ushr st.1.2.2.2.2.2.2.2.1 16)) → (∀ x7, x7 = (st.1.2.2.2.2.2.2.2.1 - (r4 <<< (16 &&& 31))) → ((x5 < 32768) → ((x5 < r4) → (∀ r10, r10 = f_Ta_behindOther  x3  → (k_De_renew   ((st.1.1, st.1.2.1, st.1.2.2.1, st.1.2.2.2.1, st.1.2.2.2.2.1, st.1.2.2.2.2.2.1, x5, x7, st.1.2.2.2.2.2.2.2.2.1, st.1.2.2.2.2.2.2.2.2.2), st.2.1)) ∧ ((∀ u13, u13 = f_De_renew   ((st.1.1, st.1.2.1, st.1.2.2.1, st.1.2.2.2.1, st.1.2.2.2.2.1, st.1.2.2.2.2.2.1, x5, x7, st.1.2.2.2.2.2.2.2.2.1, st.1.2.2.2.2.2.2.2.2.2), st.2.1) → True)))) ∧ (¬ (x5 < r4) → (∀ r14, r14 = f_Ta_behindLikely  x3  → (k_De_renew   ((st.1.1, st.1.2.1, st.1.2.2.1, st.1.2.2.2.1, st.1.2.2.2.2.1, st.1.2.2.2.2.2.1, x5, x7, st.1.2.2.2.2.2.2.2.2.1, st.1.2.2.2.2.2.2.2.2.2), st.2.1)) ∧ ((∀ u17, u17 = f_De_renew   ((st.1.1, st.1.2.1, st.1.2.2.1, st.1.2.2.2.1, st.1.2.2.2.2.1, st.1.2.2.2.2.2.1, x5, x7, st.1.2.2.2.2.2.2.2.2.1, st.1.2.2.2.2.2.2.2.2.2), st.2.1) → True))))) ∧ (¬ (x5 < 32768) → True))) ∧ (¬ (r4 ≤ (ushr st.1.2.2.2.2.2.2.2.1 16)) → ((r4 ≤ x5) → (∀ r19, r19 = f_Ta_behindOther  x3  → (k_De_renew   ((st.1.1, st.1.2.1, st.1.2.2.1, st.1.2.2.2.1, st.1.2.2.2.2.1, st.1.2.2.2.2.2.1, r4, st.1.2.2.2.2.2.2.2.1, st.1.2.2.2.2.2.2.2.2.1, st.1.2.2.2.2.2.2.2.2.2), st.2.1)) ∧ ((∀ u22, u22 = f_De_renew   ((st.1.1, st.1.2.1, st.1.2.2.1, st.1.2.2.2.1, st.1.2.2.2.2.1, st.1.2.2.2.2.2.1, r4, st.1.2.2.2.2.2.2.2.1, st.1.2.2.2.2.2.2.2.2.1, st.1.2.2.2.2.2.2.2.2.2), st.2.1) → True)))) ∧ (¬ (r4 ≤ x5) → (∀ r23, r23 = f_Ta_behindLikely  x3  → (k_De_renew   ((st.1.1, st.1.2.1, st.1.2.2.1, st.1.2.2.2.1, st.1.2.2.2.2.1, st.1.2.2.2.2.2.1, r4, st.1.2.2.2.2.2.2.2.1, st.1.2.2.2.2.2.2.2.2.1, st.1.2.2.2.2.2.2.2.2.2), st.2.1)) ∧ ((∀ u26, u26 = f_De_renew   ((st.1.1, st.1.2.1, st.1.2.2.1, st.1.2.2.2.1, st.1.2.2.2.2.1, st.1.2.2.2.2.2.1, r4, st.1.2.2.2.2.2.2.2.1, st.1.2.2.2.2.2.2.2.2.1, st.1.2.2.2.2.2.2.2.2.2), st.2.1) → True))))))))) ∧ (¬ (p1 < (nI nc)) → True)))
set_option maxHeartbeats 4000000 in
set_option maxRecDepth 100000 in
theorem c_De_readCoded (l : Launch) (E : Ev) (A : Nat → Prop) (hd h a1 a2 a3 ac nc : Nat) (st : (DeS) × (RoS) × (Nat → Int32)) (p1 : Int32)  (hok : k_De_readCoded nc p1 st) :
    Kt l y_De_readCoded b_De_readCoded 6 (some .int) 3 0 0 E A [.ref hd, .ref ac, .int p1] [(hd, .inr (3, [.ref h, .int st.1.1, .int (bI st.1.2.1), .int (bI st.1.2.2.1), .int st.1.2.2.2.1, .int st.1.2.2.2.2.1, .int st.1.2.2.2.2.2.1, .int st.1.2.2.2.2.2.2.1, .int st.1.2.2.2.2.2.2.2.1, .int st.1.2.2.2.2.2.2.2.2.1, .int st.1.2.2.2.2.2.2.2.2.2])), (h, .inr (0, [.ref a1, .ref a2, .ref a3, .int st.2.1.1, .int st.2.1.2.1, .int st.2.1.2.2.1])), (a1, .inl (E.2.1 0, 42000, .inl st.2.1.2.2.2.1)), (a2, .inl (E.2.1 0, 513, .inl st.2.1.2.2.2.2.1)), (a3, .inl (E.2.1 1, 513, .inl st.2.1.2.2.2.2.2)), (ac, .inl (E.2.1 0, nc, .inl st.2.2))] (va_Qi (fun (r : Int32) (u : (DeS) × (RoS) × (Nat → Int32)) => r = (f_De_readCoded nc p1 st).1 ∧ u = (f_De_readCoded nc p1 st).2) (ar_W E A (fun u : (DeS) × (RoS) × (Nat → Int32) => [(hd, .inr (3, [.ref h, .int u.1.1, .int (bI u.1.2.1), .int (bI u.1.2.2.1), .int u.1.2.2.2.1, .int u.1.2.2.2.2.1, .int u.1.2.2.2.2.2.1, .int u.1.2.2.2.2.2.2.1, .int u.1.2.2.2.2.2.2.2.1, .int u.1.2.2.2.2.2.2.2.2.1, .int u.1.2.2.2.2.2.2.2.2.2])), (h, .inr (0, [.ref a1, .ref a2, .ref a3, .int u.2.1.1, .int u.2.1.2.1, .int u.2.1.2.2.1])), (a1, .inl (E.2.1 0, 42000, .inl u.2.1.2.2.2.1)), (a2, .inl (E.2.1 0, 513, .inl u.2.1.2.2.2.2.1)), (a3, .inl (E.2.1 1, 513, .inl u.2.1.2.2.2.2.2)), (ac, .inl (E.2.1 0, nc, .inl u.2.2))])) A) := by
  unfold k_De_readCoded at hok
  refine Kt.of (by decide) (Nat.le_of_ble_eq_true rfl) ?_
  intro p e s m below meth c ls hx hb hml hown hts hr hlocks hex hin hA hZ hP hK hD hl
  have hS : va_S A s.heap s.heap [] := va_S.rf
  have hl : lv_has ls 6 [(0, .ref hd), (1, .ref ac), (2, .int p1)] := hl
  obtain ⟨hnc, hok⟩ := hok
  refine lv_iload_n hx hb d_De_readCoded_0 rfl (lv_at hl 2 rfl) ?_
  refine lv_if_lt (tgt := 10) hx hb d_De_readCoded_1 (by decide) (fun c1 => ?_) (fun c1 => ?_)
  · replace hok := hok.1 c1
    refine lv_iconst (v := 0) hx hb d_De_readCoded_10 (by decide) ?_
    exact ar_iret hx hb hr hlocks hK hS st (by exact pr_of (Eq.trans (f_De_readCoded_s nc p1 st) (Eq.trans (if_pos c1) rfl))) hP hD d_De_readCoded_11
  · replace hok := hok.2 c1
    refine lv_iload_n hx hb d_De_readCoded_4 rfl (lv_at hl 2 rfl) ?_
    refine lv_aload_n hx hb d_De_readCoded_5 rfl (lv_at hl 1 rfl) ?_
    refine va_alen (D := E.1) (v := (nI nc)) hx hb hK hP 5 0 rfl rfl rfl d_De_readCoded_6 ?_
    refine lv_icmp_lt (tgt := 12) hx hb d_De_readCoded_7 (by decide) (fun c2 => ?_) (fun c2 => ?_)
    · replace hok := hok.1 c2
      refine lv_aload_n hx hb d_De_readCoded_12 rfl (lv_at hl 1 rfl) ?_
      refine lv_iload_n hx hb d_De_readCoded_13 rfl (lv_at hl 2 rfl) ?_
      refine va_iald (D := E.1) hx hb hK hP 5 0 rfl rfl (in_lt (nI_toInt hnc) (by assumption) (by assumption)) d_De_readCoded_14 ?_
      refine lv_topi (fun x3 ex3 => ?_)
      replace hok := hok x3 ex3
      refine lv_istore_n (lv' := [(3, .int x3), (0, .ref hd), (1, .ref ac), (2, .int p1)]) hx hb d_De_readCoded_15 rfl hl (by decide) rfl (fun ls hl => ?_)
      refine lv_iload_n hx hb d_De_readCoded_16 rfl (lv_at hl 0 rfl) ?_
      refine ar_usei (wr := [(hd, .inr (3, [.ref h, .int st.1.1, .int (bI st.1.2.1), .int (bI st.1.2.2.1), .int st.1.2.2.2.1, .int st.1.2.2.2.2.1, .int st.1.2.2.2.2.2.1, .int st.1.2.2.2.2.2.2.1, .int st.1.2.2.2.2.2.2.2.1, .int st.1.2.2.2.2.2.2.2.2.1, .int st.1.2.2.2.2.2.2.2.2.2])), (h, .inr (0, [.ref a1, .ref a2, .ref a3, .int st.2.1.1, .int st.2.1.2.1, .int st.2.1.2.2.1])), (a1, .inl (E.2.1 0, 42000, .inl st.2.1.2.2.2.1)), (a2, .inl (E.2.1 0, 513, .inl st.2.1.2.2.2.2.1)), (a3, .inl (E.2.1 1, 513, .inl st.2.1.2.2.2.2.2)), (ac, .inl (E.2.1 0, nc, .inl st.2.2))]) hP hD hS hA [] [0, 1, 2, 3, 4, 5] rfl rfl rfl (by decide) (ar_runS (n := 1) (As := [.int x3]) (rest := []) hx hb hml hown hts hP hD hS hA hK hZ (c_Ta_q l E _   x3 ) m_526 m_423 m_14 m_424 (by decide +kernel) ⟨Nat.le_of_ble_eq_true rfl, Nat.le_of_ble_eq_true rfl⟩ [] rfl rfl rfl rfl hl.1 rfl (Nat.le_of_ble_eq_true rfl) d_De_readCoded_17 ⟨Nat.le_of_ble_eq_true rfl, Nat.le_of_ble_eq_true rfl⟩) (fun r4 _ Hn locsn hw4 hPn hDn hSn => ?_)
      replace hok := hok r4 hw4
      clear hP hD hS
      have hP : va_P E.1 classes [(hd, .inr (3, [.ref h, .int st.1.1, .int (bI st.1.2.1), .int (bI st.1.2.2.1), .int st.1.2.2.2.1, .int st.1.2.2.2.2.1, .int st.1.2.2.2.2.2.1, .int st.1.2.2.2.2.2.2.1, .int st.1.2.2.2.2.2.2.2.1, .int st.1.2.2.2.2.2.2.2.2.1, .int st.1.2.2.2.2.2.2.2.2.2])), (h, .inr (0, [.ref a1, .ref a2, .ref a3, .int st.2.1.1, .int st.2.1.2.1, .int st.2.1.2.2.1])), (a1, .inl (E.2.1 0, 42000, .inl st.2.1.2.2.2.1)), (a2, .inl (E.2.1 0, 513, .inl st.2.1.2.2.2.2.1)), (a3, .inl (E.2.1 1, 513, .inl st.2.1.2.2.2.2.2)), (ac, .inl (E.2.1 0, nc, .inl st.2.2))] Hn := hPn
      have hD : va_D A [(hd, .inr (3, [.ref h, .int st.1.1, .int (bI st.1.2.1), .int (bI st.1.2.2.1), .int st.1.2.2.2.1, .int st.1.2.2.2.2.1, .int st.1.2.2.2.2.2.1, .int st.1.2.2.2.2.2.2.1, .int st.1.2.2.2.2.2.2.2.1, .int st.1.2.2.2.2.2.2.2.2.1, .int st.1.2.2.2.2.2.2.2.2.2])), (h, .inr (0, [.ref a1, .ref a2, .ref a3, .int st.2.1.1, .int st.2.1.2.1, .int st.2.1.2.2.1])), (a1, .inl (E.2.1 0, 42000, .inl st.2.1.2.2.2.1)), (a2, .inl (E.2.1 0, 513, .inl st.2.1.2.2.2.2.1)), (a3, .inl (E.2.1 1, 513, .inl st.2.1.2.2.2.2.2)), (ac, .inl (E.2.1 0, nc, .inl st.2.2))] := hDn
      have hS := hSn
      clear hPn hDn hSn
      refine lv_istore (lv' := [(4, .int r4), (3, .int x3), (0, .ref hd), (1, .ref ac), (2, .int p1)]) hx hb d_De_readCoded_20 hl (by decide) rfl (fun ls hl => ?_)
      refine lv_aload_n hx hb d_De_readCoded_22 rfl (lv_at hl 2 rfl) ?_
      refine lv_dup hx hb d_De_readCoded_23 rfl ?_
      refine va_get (D := E.1) (ci := 3) (v := .int st.1.2.2.2.2.2.2.1) (C := R_De) (T := T_De) (N := 11) hx hb hts in_De hown hK hP 0 rfl rfl 7 (by decide) (hts _ m_124) (fun _ h9 => h9) rfl d_De_readCoded_24 ?_
      refine lv_iload hx hb d_De_readCoded_27 (lv_at hl 0 rfl) ?_
      refine lv_isub hx hb d_De_readCoded_29 ?_
      refine lv_topi (fun x5 ex5 => ?_)
      replace hok := hok x5 ex5
      refine va_put (D := E.1) (ci := 3) (v := .int x5) (ty := .int) (C := R_De) (T := T_De) (N := 11) hx hb hts in_De t_De t_De_ok n_De hown hK hP hD hS 0 rfl rfl 7 (by decide) (hts _ m_124) (fun _ h9 => h9) rfl (by decide +kernel) rfl rfl (Nat.le_of_ble_eq_true rfl) d_De_readCoded_30 (fun Hn locsn hPn hDn hSn => ?_)
      clear hP hD hS
      have hP : va_P E.1 classes [(hd, .inr (3, [.ref h, .int st.1.1, .int (bI st.1.2.1), .int (bI st.1.2.2.1), .int st.1.2.2.2.1, .int st.1.2.2.2.2.1, .int st.1.2.2.2.2.2.1, .int x5, .int st.1.2.2.2.2.2.2.2.1, .int st.1.2.2.2.2.2.2.2.2.1, .int st.1.2.2.2.2.2.2.2.2.2])), (h, .inr (0, [.ref a1, .ref a2, .ref a3, .int st.2.1.1, .int st.2.1.2.1, .int st.2.1.2.2.1])), (a1, .inl (E.2.1 0, 42000, .inl st.2.1.2.2.2.1)), (a2, .inl (E.2.1 0, 513, .inl st.2.1.2.2.2.2.1)), (a3, .inl (E.2.1 1, 513, .inl st.2.1.2.2.2.2.2)), (ac, .inl (E.2.1 0, nc, .inl st.2.2))] Hn := hPn
      have hD : va_D A [(hd, .inr (3, [.ref h, .int st.1.1, .int (bI st.1.2.1), .int (bI st.1.2.2.1), .int st.1.2.2.2.1, .int st.1.2.2.2.2.1, .int st.1.2.2.2.2.2.1, .int x5, .int st.1.2.2.2.2.2.2.2.1, .int st.1.2.2.2.2.2.2.2.2.1, .int st.1.2.2.2.2.2.2.2.2.2])), (h, .inr (0, [.ref a1, .ref a2, .ref a3, .int st.2.1.1, .int st.2.1.2.1, .int st.2.1.2.2.1])), (a1, .inl (E.2.1 0, 42000, .inl st.2.1.2.2.2.1)), (a2, .inl (E.2.1 0, 513, .inl st.2.1.2.2.2.2.1)), (a3, .inl (E.2.1 1, 513, .inl st.2.1.2.2.2.2.2)), (ac, .inl (E.2.1 0, nc, .inl st.2.2))] := hDn
      have hS := hSn
      clear hPn hDn hSn
      refine lv_aload_n hx hb d_De_readCoded_33 rfl (lv_at hl 2 rfl) ?_
      refine va_get (D := E.1) (ci := 3) (v := .int st.1.2.2.2.2.2.2.2.1) (C := R_De) (T := T_De) (N := 11) hx hb hts in_De hown hK hP 0 rfl rfl 8 (by decide) (hts _ m_125) (fun _ h9 => h9) rfl d_De_readCoded_34 ?_
      refine lv_bipush (v := 16) hx hb d_De_readCoded_37 (by decide) ?_
      refine lv_iushr (v := (ushr st.1.2.2.2.2.2.2.2.1 16)) hx hb d_De_readCoded_39 rfl ?_
      refine lv_iload hx hb d_De_readCoded_40 (lv_at hl 0 rfl) ?_
      refine lv_icmp_ge (tgt := 70) hx hb d_De_readCoded_42 (by decide) (fun c6 => ?_) (fun c6 => ?_)
      · replace hok := hok.1 c6
        refine lv_aload_n hx hb d_De_readCoded_70 rfl (lv_at hl 2 rfl) ?_
        refine lv_dup hx hb d_De_readCoded_71 rfl ?_
        refine va_get (D := E.1) (ci := 3) (v := .int st.1.2.2.2.2.2.2.2.1) (C := R_De) (T := T_De) (N := 11) hx hb hts in_De hown hK hP 0 rfl rfl 8 (by decide) (hts _ m_125) (fun _ h9 => h9) rfl d_De_readCoded_72 ?_
        refine lv_iload hx hb d_De_readCoded_75 (lv_at hl 0 rfl) ?_
        refine lv_bipush (v := 16) hx hb d_De_readCoded_77 (by decide) ?_
        refine lv_ishl hx hb d_De_readCoded_79 ?_
        refine lv_isub hx hb d_De_readCoded_80 ?_
        refine lv_topi (fun x7 ex7 => ?_)
        replace hok := hok x7 ex7
        refine va_put (D := E.1) (ci := 3) (v := .int x7) (ty := .int) (C := R_De) (T := T_De) (N := 11) hx hb hts in_De t_De t_De_ok n_De hown hK hP hD hS 0 rfl rfl 8 (by decide) (hts _ m_125) (fun _ h9 => h9) rfl (by decide +kernel) rfl rfl (Nat.le_of_ble_eq_true rfl) d_De_readCoded_81 (fun Hn locsn hPn hDn hSn => ?_)
        clear hP hD hS
        have hP : va_P E.1 classes [(hd, .inr (3, [.ref h, .int st.1.1, .int (bI st.1.2.1), .int (bI st.1.2.2.1), .int st.1.2.2.2.1, .int st.1.2.2.2.2.1, .int st.1.2.2.2.2.2.1, .int x5, .int x7, .int st.1.2.2.2.2.2.2.2.2.1, .int st.1.2.2.2.2.2.2.2.2.2])), (h, .inr (0, [.ref a1, .ref a2, .ref a3, .int st.2.1.1, .int st.2.1.2.1, .int st.2.1.2.2.1])), (a1, .inl (E.2.1 0, 42000, .inl st.2.1.2.2.2.1)), (a2, .inl (E.2.1 0, 513, .inl st.2.1.2.2.2.2.1)), (a3, .inl (E.2.1 1, 513, .inl st.2.1.2.2.2.2.2)), (ac, .inl (E.2.1 0, nc, .inl st.2.2))] Hn := hPn
        have hD : va_D A [(hd, .inr (3, [.ref h, .int st.1.1, .int (bI st.1.2.1), .int (bI st.1.2.2.1), .int st.1.2.2.2.1, .int st.1.2.2.2.2.1, .int st.1.2.2.2.2.2.1, .int x5, .int x7, .int st.1.2.2.2.2.2.2.2.2.1, .int st.1.2.2.2.2.2.2.2.2.2])), (h, .inr (0, [.ref a1, .ref a2, .ref a3, .int st.2.1.1, .int st.2.1.2.1, .int st.2.1.2.2.1])), (a1, .inl (E.2.1 0, 42000, .inl st.2.1.2.2.2.1)), (a2, .inl (E.2.1 0, 513, .inl st.2.1.2.2.2.2.1)), (a3, .inl (E.2.1 1, 513, .inl st.2.1.2.2.2.2.2)), (ac, .inl (E.2.1 0, nc, .inl st.2.2))] := hDn
        have hS := hSn
        clear hPn hDn hSn
        refine lv_aload_n hx hb d_De_readCoded_84 rfl (lv_at hl 2 rfl) ?_
        refine va_get (D := E.1) (ci := 3) (v := .int x5) (C := R_De) (T := T_De) (N := 11) hx hb hts in_De hown hK hP 0 rfl rfl 7 (by decide) (hts _ m_124) (fun _ h9 => h9) rfl d_De_readCoded_85 ?_
        refine lv_ldc (v := 32768) hx hb hown (hts _ m_517) d_De_readCoded_88 ?_
        refine lv_icmp_lt (tgt := 97) hx hb d_De_readCoded_90 (by decide) (fun c8 => ?_) (fun c8 => ?_)
        · replace hok := hok.1 c8
          refine lv_aload_n hx hb d_De_readCoded_97 rfl (lv_at hl 2 rfl) ?_
          refine va_get (D := E.1) (ci := 3) (v := .int x5) (C := R_De) (T := T_De) (N := 11) hx hb hts in_De hown hK hP 0 rfl rfl 7 (by decide) (hts _ m_124) (fun _ h9 => h9) rfl d_De_readCoded_98 ?_
          refine lv_iload hx hb d_De_readCoded_101 (lv_at hl 0 rfl) ?_
          refine lv_icmp_lt (tgt := 110) hx hb d_De_readCoded_103 (by decide) (fun c9 => ?_) (fun c9 => ?_)
          · replace hok := hok.1 c9
            refine lv_iconst (v := 0) hx hb d_De_readCoded_110 (by decide) ?_
            refine lv_istore (lv' := [(5, .int 0), (4, .int r4), (3, .int x3), (0, .ref hd), (1, .ref ac), (2, .int p1)]) hx hb d_De_readCoded_111 hl (by decide) rfl (fun ls hl => ?_)
            refine lv_aload_n hx hb d_De_readCoded_113 rfl (lv_at hl 4 rfl) ?_
            refine lv_iload_n hx hb d_De_readCoded_114 rfl (lv_at hl 5 rfl) ?_
            refine lv_iload hx hb d_De_readCoded_115 (lv_at hl 0 rfl) ?_
            refine lv_if_eq (tgt := 127) hx hb d_De_readCoded_117 (by decide) (fun cz => ?_) (fun cz => absurd cz (by decide))
            refine lv_iload_n hx hb d_De_readCoded_127 rfl (lv_at hl 2 rfl) ?_
            refine ar_usei (wr := [(hd, .inr (3, [.ref h, .int st.1.1, .int (bI st.1.2.1), .int (bI st.1.2.2.1), .int st.1.2.2.2.1, .int st.1.2.2.2.2.1, .int st.1.2.2.2.2.2.1, .int x5, .int x7, .int st.1.2.2.2.2.2.2.2.2.1, .int st.1.2.2.2.2.2.2.2.2.2])), (h, .inr (0, [.ref a1, .ref a2, .ref a3, .int st.2.1.1, .int st.2.1.2.1, .int st.2.1.2.2.1])), (a1, .inl (E.2.1 0, 42000, .inl st.2.1.2.2.2.1)), (a2, .inl (E.2.1 0, 513, .inl st.2.1.2.2.2.2.1)), (a3, .inl (E.2.1 1, 513, .inl st.2.1.2.2.2.2.2)), (ac, .inl (E.2.1 0, nc, .inl st.2.2))]) hP hD hS hA [] [0, 1, 2, 3, 4, 5] rfl rfl rfl (by decide) (ar_runS (n := 1) (As := [.int x3]) (rest := [.int p1, .ref ac]) hx hb hml hown hts hP hD hS hA hK hZ (c_Ta_behindOther l E _   x3 ) m_528 m_436 m_14 m_437 (by decide +kernel) ⟨Nat.le_of_ble_eq_true rfl, Nat.le_of_ble_eq_true rfl⟩ [] rfl rfl rfl rfl hl.1 rfl (Nat.le_of_ble_eq_true rfl) d_De_readCoded_128 ⟨Nat.le_of_ble_eq_true rfl, Nat.le_of_ble_eq_true rfl⟩) (fun r10 _ Hn locsn hw10 hPn hDn hSn => ?_)
            replace hok := hok r10 hw10
            clear hP hD hS
            have hP : va_P E.1 classes [(hd, .inr (3, [.ref h, .int st.1.1, .int (bI st.1.2.1), .int (bI st.1.2.2.1), .int st.1.2.2.2.1, .int st.1.2.2.2.2.1, .int st.1.2.2.2.2.2.1, .int x5, .int x7, .int st.1.2.2.2.2.2.2.2.2.1, .int st.1.2.2.2.2.2.2.2.2.2])), (h, .inr (0, [.ref a1, .ref a2, .ref a3, .int st.2.1.1, .int st.2.1.2.1, .int st.2.1.2.2.1])), (a1, .inl (E.2.1 0, 42000, .inl st.2.1.2.2.2.1)), (a2, .inl (E.2.1 0, 513, .inl st.2.1.2.2.2.2.1)), (a3, .inl (E.2.1 1, 513, .inl st.2.1.2.2.2.2.2)), (ac, .inl (E.2.1 0, nc, .inl st.2.2))] Hn := hPn
            have hD : va_D A [(hd, .inr (3, [.ref h, .int st.1.1, .int (bI st.1.2.1), .int (bI st.1.2.2.1), .int st.1.2.2.2.1, .int st.1.2.2.2.2.1, .int st.1.2.2.2.2.2.1, .int x5, .int x7, .int st.1.2.2.2.2.2.2.2.2.1, .int st.1.2.2.2.2.2.2.2.2.2])), (h, .inr (0, [.ref a1, .ref a2, .ref a3, .int st.2.1.1, .int st.2.1.2.1, .int st.2.1.2.2.1])), (a1, .inl (E.2.1 0, 42000, .inl st.2.1.2.2.2.1)), (a2, .inl (E.2.1 0, 513, .inl st.2.1.2.2.2.2.1)), (a3, .inl (E.2.1 1, 513, .inl st.2.1.2.2.2.2.2)), (ac, .inl (E.2.1 0, nc, .inl st.2.2))] := hDn
            have hS := hSn
            clear hPn hDn hSn
            refine va_iast (D := E.1) (x := r10) hx hb hK hP hD hS 5 0 rfl rfl (in_lt (nI_toInt hnc) (by assumption) (by assumption)) d_De_readCoded_131 (fun Hn locsn hPn hDn hSn => ?_)
            clear hP hD hS
            have hP : va_P E.1 classes [(hd, .inr (3, [.ref h, .int st.1.1, .int (bI st.1.2.1), .int (bI st.1.2.2.1), .int st.1.2.2.2.1, .int st.1.2.2.2.2.1, .int st.1.2.2.2.2.2.1, .int x5, .int x7, .int st.1.2.2.2.2.2.2.2.2.1, .int st.1.2.2.2.2.2.2.2.2.2])), (h, .inr (0, [.ref a1, .ref a2, .ref a3, .int st.2.1.1, .int st.2.1.2.1, .int st.2.1.2.2.1])), (a1, .inl (E.2.1 0, 42000, .inl st.2.1.2.2.2.1)), (a2, .inl (E.2.1 0, 513, .inl st.2.1.2.2.2.2.1)), (a3, .inl (E.2.1 1, 513, .inl st.2.1.2.2.2.2.2)), (ac, .inl (E.2.1 0, nc, .inl (upd st.2.2 (Int32.toNatClampNeg p1) r10)))] Hn := hPn
            have hD : va_D A [(hd, .inr (3, [.ref h, .int st.1.1, .int (bI st.1.2.1), .int (bI st.1.2.2.1), .int st.1.2.2.2.1, .int st.1.2.2.2.2.1, .int st.1.2.2.2.2.2.1, .int x5, .int x7, .int st.1.2.2.2.2.2.2.2.2.1, .int st.1.2.2.2.2.2.2.2.2.2])), (h, .inr (0, [.ref a1, .ref a2, .ref a3, .int st.2.1.1, .int st.2.1.2.1, .int st.2.1.2.2.1])), (a1, .inl (E.2.1 0, 42000, .inl st.2.1.2.2.2.1)), (a2, .inl (E.2.1 0, 513, .inl st.2.1.2.2.2.2.1)), (a3, .inl (E.2.1 1, 513, .inl st.2.1.2.2.2.2.2)), (ac, .inl (E.2.1 0, nc, .inl (upd st.2.2 (Int32.toNatClampNeg p1) r10)))] := hDn
            have hS := hSn
            clear hPn hDn hSn
            refine lv_aload_n hx hb d_De_readCoded_132 rfl (lv_at hl 3 rfl) ?_
            obtain ⟨hk12, hok⟩ := hok
            refine ar_usev (wr := [(ac, .inl (E.2.1 0, nc, .inl (upd st.2.2 (Int32.toNatClampNeg p1) r10)))]) hP hD hS hA [0, 1, 2, 3, 4] [5] rfl rfl rfl (by decide) (ar_runV (n := 0) (As := []) (rest := []) (ci := 3) (q0 := 0) hx hb hml hown hts hP hD hS hA hK hZ (c_De_renew l E _ hd h a1 a2 a3 ((st.1.1, st.1.2.1, st.1.2.2.1, st.1.2.2.2.1, st.1.2.2.2.2.1, st.1.2.2.2.2.2.1, x5, x7, st.1.2.2.2.2.2.2.2.2.1, st.1.2.2.2.2.2.2.2.2.2), st.2.1)  hk12) m_529 m_531 ms_16 m_6 m_532 (by decide +kernel) ⟨Nat.le_of_ble_eq_true rfl, Nat.le_of_ble_eq_true rfl⟩ [0, 1, 2, 3, 4] rfl rfl rfl rfl rfl rfl rfl hl.1 rfl (Nat.le_of_ble_eq_true rfl) d_De_readCoded_133 ⟨Nat.le_of_ble_eq_true rfl, Nat.le_of_ble_eq_true rfl⟩) (fun u13 Hn locsn hw13 hPn hDn hSn => ?_)
            replace hok := hok u13 hw13
            clear hP hD hS
            have hP : va_P E.1 classes [(ac, .inl (E.2.1 0, nc, .inl (upd st.2.2 (Int32.toNatClampNeg p1) r10))), (hd, .inr (3, [.ref h, .int u13.1.1, .int (bI u13.1.2.1), .int (bI u13.1.2.2.1), .int u13.1.2.2.2.1, .int u13.1.2.2.2.2.1, .int u13.1.2.2.2.2.2.1, .int u13.1.2.2.2.2.2.2.1, .int u13.1.2.2.2.2.2.2.2.1, .int u13.1.2.2.2.2.2.2.2.2.1, .int u13.1.2.2.2.2.2.2.2.2.2])), (h, .inr (0, [.ref a1, .ref a2, .ref a3, .int u13.2.1, .int u13.2.2.1, .int u13.2.2.2.1])), (a1, .inl (E.2.1 0, 42000, .inl u13.2.2.2.2.1)), (a2, .inl (E.2.1 0, 513, .inl u13.2.2.2.2.2.1)), (a3, .inl (E.2.1 1, 513, .inl u13.2.2.2.2.2.2))] Hn := hPn
            have hD : va_D A [(ac, .inl (E.2.1 0, nc, .inl (upd st.2.2 (Int32.toNatClampNeg p1) r10))), (hd, .inr (3, [.ref h, .int u13.1.1, .int (bI u13.1.2.1), .int (bI u13.1.2.2.1), .int u13.1.2.2.2.1, .int u13.1.2.2.2.2.1, .int u13.1.2.2.2.2.2.1, .int u13.1.2.2.2.2.2.2.1, .int u13.1.2.2.2.2.2.2.2.1, .int u13.1.2.2.2.2.2.2.2.2.1, .int u13.1.2.2.2.2.2.2.2.2.2])), (h, .inr (0, [.ref a1, .ref a2, .ref a3, .int u13.2.1, .int u13.2.2.1, .int u13.2.2.2.1])), (a1, .inl (E.2.1 0, 42000, .inl u13.2.2.2.2.1)), (a2, .inl (E.2.1 0, 513, .inl u13.2.2.2.2.2.1)), (a3, .inl (E.2.1 1, 513, .inl u13.2.2.2.2.2.2))] := hDn
            have hS := hSn
            clear hPn hDn hSn
            refine lv_iload hx hb d_De_readCoded_136 (lv_at hl 0 rfl) ?_
            refine lv_if_eq (tgt := 147) hx hb d_De_readCoded_138 (by decide) (fun cz => ?_) (fun cz => absurd cz (by decide))
            refine lv_iconst (v := 1) hx hb d_De_readCoded_147 (by decide) ?_
            refine lv_iload_n hx hb d_De_readCoded_148 rfl (lv_at hl 2 rfl) ?_
            refine lv_iconst (v := 1) hx hb d_De_readCoded_149 (by decide) ?_
            refine lv_iand hx hb d_De_readCoded_150 ?_
            refine lv_isub hx hb d_De_readCoded_151 ?_
            replace hP := hP.sub (ws' := [(hd, .inr (3, [.ref h, .int u13.1.1, .int (bI u13.1.2.1), .int (bI u13.1.2.2.1), .int u13.1.2.2.2.1, .int u13.1.2.2.2.2.1, .int u13.1.2.2.2.2.2.1, .int u13.1.2.2.2.2.2.2.1, .int u13.1.2.2.2.2.2.2.2.1, .int u13.1.2.2.2.2.2.2.2.2.1, .int u13.1.2.2.2.2.2.2.2.2.2])), (h, .inr (0, [.ref a1, .ref a2, .ref a3, .int u13.2.1, .int u13.2.2.1, .int u13.2.2.2.1])), (a1, .inl (E.2.1 0, 42000, .inl u13.2.2.2.2.1)), (a2, .inl (E.2.1 0, 513, .inl u13.2.2.2.2.2.1)), (a3, .inl (E.2.1 1, 513, .inl u13.2.2.2.2.2.2)), (ac, .inl (E.2.1 0, nc, .inl (upd st.2.2 (Int32.toNatClampNeg p1) r10)))]) [1, 2, 3, 4, 5, 0] rfl
            replace hD := hD.sub (ws' := [(hd, .inr (3, [.ref h, .int u13.1.1, .int (bI u13.1.2.1), .int (bI u13.1.2.2.1), .int u13.1.2.2.2.1, .int u13.1.2.2.2.2.1, .int u13.1.2.2.2.2.2.1, .int u13.1.2.2.2.2.2.2.1, .int u13.1.2.2.2.2.2.2.2.1, .int u13.1.2.2.2.2.2.2.2.2.1, .int u13.1.2.2.2.2.2.2.2.2.2])), (h, .inr (0, [.ref a1, .ref a2, .ref a3, .int u13.2.1, .int u13.2.2.1, .int u13.2.2.2.1])), (a1, .inl (E.2.1 0, 42000, .inl u13.2.2.2.2.1)), (a2, .inl (E.2.1 0, 513, .inl u13.2.2.2.2.2.1)), (a3, .inl (E.2.1 1, 513, .inl u13.2.2.2.2.2.2)), (ac, .inl (E.2.1 0, nc, .inl (upd st.2.2 (Int32.toNatClampNeg p1) r10)))]) [1, 2, 3, 4, 5, 0] (by decide) rfl
            exact ar_iret hx hb hr hlocks hK hS (u13.1, u13.2, (upd st.2.2 (Int32.toNatClampNeg p1) r10)) (by subst hw13; subst hw10; subst ex7; subst ex5; subst hw4; subst ex3; exact pr_of (Eq.trans (f_De_readCoded_s nc p1 st) (Eq.trans (if_neg c1) (Eq.trans (if_pos c2) (Eq.trans (if_pos c6) (Eq.trans (if_pos c8) (Eq.trans (if_pos c9) rfl))))))) hP hD d_De_readCoded_152
          · replace hok := hok.2 c9
            refine lv_iconst (v := 1) hx hb d_De_readCoded_106 (by decide) ?_
            refine lv_goto (tgt := 111) hx hb d_De_readCoded_107 (by decide) ?_
            refine lv_istore (lv' := [(5, .int 1), (4, .int r4), (3, .int x3), (0, .ref hd), (1, .ref ac), (2, .int p1)]) hx hb d_De_readCoded_111 hl (by decide) rfl (fun ls hl => ?_)
            refine lv_aload_n hx hb d_De_readCoded_113 rfl (lv_at hl 4 rfl) ?_
            refine lv_iload_n hx hb d_De_readCoded_114 rfl (lv_at hl 5 rfl) ?_
            refine lv_iload hx hb d_De_readCoded_115 (lv_at hl 0 rfl) ?_
            refine lv_if_eq (tgt := 127) hx hb d_De_readCoded_117 (by decide) (fun cz => absurd cz (by decide)) (fun cz => ?_)
            refine lv_iload_n hx hb d_De_readCoded_120 rfl (lv_at hl 2 rfl) ?_
            refine ar_usei (wr := [(hd, .inr (3, [.ref h, .int st.1.1, .int (bI st.1.2.1), .int (bI st.1.2.2.1), .int st.1.2.2.2.1, .int st.1.2.2.2.2.1, .int st.1.2.2.2.2.2.1, .int x5, .int x7, .int st.1.2.2.2.2.2.2.2.2.1, .int st.1.2.2.2.2.2.2.2.2.2])), (h, .inr (0, [.ref a1, .ref a2, .ref a3, .int st.2.1.1, .int st.2.1.2.1, .int st.2.1.2.2.1])), (a1, .inl (E.2.1 0, 42000, .inl st.2.1.2.2.2.1)), (a2, .inl (E.2.1 0, 513, .inl st.2.1.2.2.2.2.1)), (a3, .inl (E.2.1 1, 513, .inl st.2.1.2.2.2.2.2)), (ac, .inl (E.2.1 0, nc, .inl st.2.2))]) hP hD hS hA [] [0, 1, 2, 3, 4, 5] rfl rfl rfl (by decide) (ar_runS (n := 1) (As := [.int x3]) (rest := [.int p1, .ref ac]) hx hb hml hown hts hP hD hS hA hK hZ (c_Ta_behindLikely l E _   x3 ) m_527 m_431 m_14 m_432 (by decide +kernel) ⟨Nat.le_of_ble_eq_true rfl, Nat.le_of_ble_eq_true rfl⟩ [] rfl rfl rfl rfl hl.1 rfl (Nat.le_of_ble_eq_true rfl) d_De_readCoded_121 ⟨Nat.le_of_ble_eq_true rfl, Nat.le_of_ble_eq_true rfl⟩) (fun r14 _ Hn locsn hw14 hPn hDn hSn => ?_)
            replace hok := hok r14 hw14
            clear hP hD hS
            have hP : va_P E.1 classes [(hd, .inr (3, [.ref h, .int st.1.1, .int (bI st.1.2.1), .int (bI st.1.2.2.1), .int st.1.2.2.2.1, .int st.1.2.2.2.2.1, .int st.1.2.2.2.2.2.1, .int x5, .int x7, .int st.1.2.2.2.2.2.2.2.2.1, .int st.1.2.2.2.2.2.2.2.2.2])), (h, .inr (0, [.ref a1, .ref a2, .ref a3, .int st.2.1.1, .int st.2.1.2.1, .int st.2.1.2.2.1])), (a1, .inl (E.2.1 0, 42000, .inl st.2.1.2.2.2.1)), (a2, .inl (E.2.1 0, 513, .inl st.2.1.2.2.2.2.1)), (a3, .inl (E.2.1 1, 513, .inl st.2.1.2.2.2.2.2)), (ac, .inl (E.2.1 0, nc, .inl st.2.2))] Hn := hPn
            have hD : va_D A [(hd, .inr (3, [.ref h, .int st.1.1, .int (bI st.1.2.1), .int (bI st.1.2.2.1), .int st.1.2.2.2.1, .int st.1.2.2.2.2.1, .int st.1.2.2.2.2.2.1, .int x5, .int x7, .int st.1.2.2.2.2.2.2.2.2.1, .int st.1.2.2.2.2.2.2.2.2.2])), (h, .inr (0, [.ref a1, .ref a2, .ref a3, .int st.2.1.1, .int st.2.1.2.1, .int st.2.1.2.2.1])), (a1, .inl (E.2.1 0, 42000, .inl st.2.1.2.2.2.1)), (a2, .inl (E.2.1 0, 513, .inl st.2.1.2.2.2.2.1)), (a3, .inl (E.2.1 1, 513, .inl st.2.1.2.2.2.2.2)), (ac, .inl (E.2.1 0, nc, .inl st.2.2))] := hDn
            have hS := hSn
            clear hPn hDn hSn
            refine lv_goto (tgt := 131) hx hb d_De_readCoded_124 (by decide) ?_
            refine va_iast (D := E.1) (x := r14) hx hb hK hP hD hS 5 0 rfl rfl (in_lt (nI_toInt hnc) (by assumption) (by assumption)) d_De_readCoded_131 (fun Hn locsn hPn hDn hSn => ?_)
            clear hP hD hS
            have hP : va_P E.1 classes [(hd, .inr (3, [.ref h, .int st.1.1, .int (bI st.1.2.1), .int (bI st.1.2.2.1), .int st.1.2.2.2.1, .int st.1.2.2.2.2.1, .int st.1.2.2.2.2.2.1, .int x5, .int x7, .int st.1.2.2.2.2.2.2.2.2.1, .int st.1.2.2.2.2.2.2.2.2.2])), (h, .inr (0, [.ref a1, .ref a2, .ref a3, .int st.2.1.1, .int st.2.1.2.1, .int st.2.1.2.2.1])), (a1, .inl (E.2.1 0, 42000, .inl st.2.1.2.2.2.1)), (a2, .inl (E.2.1 0, 513, .inl st.2.1.2.2.2.2.1)), (a3, .inl (E.2.1 1, 513, .inl st.2.1.2.2.2.2.2)), (ac, .inl (E.2.1 0, nc, .inl (upd st.2.2 (Int32.toNatClampNeg p1) r14)))] Hn := hPn
            have hD : va_D A [(hd, .inr (3, [.ref h, .int st.1.1, .int (bI st.1.2.1), .int (bI st.1.2.2.1), .int st.1.2.2.2.1, .int st.1.2.2.2.2.1, .int st.1.2.2.2.2.2.1, .int x5, .int x7, .int st.1.2.2.2.2.2.2.2.2.1, .int st.1.2.2.2.2.2.2.2.2.2])), (h, .inr (0, [.ref a1, .ref a2, .ref a3, .int st.2.1.1, .int st.2.1.2.1, .int st.2.1.2.2.1])), (a1, .inl (E.2.1 0, 42000, .inl st.2.1.2.2.2.1)), (a2, .inl (E.2.1 0, 513, .inl st.2.1.2.2.2.2.1)), (a3, .inl (E.2.1 1, 513, .inl st.2.1.2.2.2.2.2)), (ac, .inl (E.2.1 0, nc, .inl (upd st.2.2 (Int32.toNatClampNeg p1) r14)))] := hDn
            have hS := hSn
            clear hPn hDn hSn
            refine lv_aload_n hx hb d_De_readCoded_132 rfl (lv_at hl 3 rfl) ?_
            obtain ⟨hk16, hok⟩ := hok
            refine ar_usev (wr := [(ac, .inl (E.2.1 0, nc, .inl (upd st.2.2 (Int32.toNatClampNeg p1) r14)))]) hP hD hS hA [0, 1, 2, 3, 4] [5] rfl rfl rfl (by decide) (ar_runV (n := 0) (As := []) (rest := []) (ci := 3) (q0 := 0) hx hb hml hown hts hP hD hS hA hK hZ (c_De_renew l E _ hd h a1 a2 a3 ((st.1.1, st.1.2.1, st.1.2.2.1, st.1.2.2.2.1, st.1.2.2.2.2.1, st.1.2.2.2.2.2.1, x5, x7, st.1.2.2.2.2.2.2.2.2.1, st.1.2.2.2.2.2.2.2.2.2), st.2.1)  hk16) m_529 m_531 ms_16 m_6 m_532 (by decide +kernel) ⟨Nat.le_of_ble_eq_true rfl, Nat.le_of_ble_eq_true rfl⟩ [0, 1, 2, 3, 4] rfl rfl rfl rfl rfl rfl rfl hl.1 rfl (Nat.le_of_ble_eq_true rfl) d_De_readCoded_133 ⟨Nat.le_of_ble_eq_true rfl, Nat.le_of_ble_eq_true rfl⟩) (fun u17 Hn locsn hw17 hPn hDn hSn => ?_)
            replace hok := hok u17 hw17
            clear hP hD hS
            have hP : va_P E.1 classes [(ac, .inl (E.2.1 0, nc, .inl (upd st.2.2 (Int32.toNatClampNeg p1) r14))), (hd, .inr (3, [.ref h, .int u17.1.1, .int (bI u17.1.2.1), .int (bI u17.1.2.2.1), .int u17.1.2.2.2.1, .int u17.1.2.2.2.2.1, .int u17.1.2.2.2.2.2.1, .int u17.1.2.2.2.2.2.2.1, .int u17.1.2.2.2.2.2.2.2.1, .int u17.1.2.2.2.2.2.2.2.2.1, .int u17.1.2.2.2.2.2.2.2.2.2])), (h, .inr (0, [.ref a1, .ref a2, .ref a3, .int u17.2.1, .int u17.2.2.1, .int u17.2.2.2.1])), (a1, .inl (E.2.1 0, 42000, .inl u17.2.2.2.2.1)), (a2, .inl (E.2.1 0, 513, .inl u17.2.2.2.2.2.1)), (a3, .inl (E.2.1 1, 513, .inl u17.2.2.2.2.2.2))] Hn := hPn
            have hD : va_D A [(ac, .inl (E.2.1 0, nc, .inl (upd st.2.2 (Int32.toNatClampNeg p1) r14))), (hd, .inr (3, [.ref h, .int u17.1.1, .int (bI u17.1.2.1), .int (bI u17.1.2.2.1), .int u17.1.2.2.2.1, .int u17.1.2.2.2.2.1, .int u17.1.2.2.2.2.2.1, .int u17.1.2.2.2.2.2.2.1, .int u17.1.2.2.2.2.2.2.2.1, .int u17.1.2.2.2.2.2.2.2.2.1, .int u17.1.2.2.2.2.2.2.2.2.2])), (h, .inr (0, [.ref a1, .ref a2, .ref a3, .int u17.2.1, .int u17.2.2.1, .int u17.2.2.2.1])), (a1, .inl (E.2.1 0, 42000, .inl u17.2.2.2.2.1)), (a2, .inl (E.2.1 0, 513, .inl u17.2.2.2.2.2.1)), (a3, .inl (E.2.1 1, 513, .inl u17.2.2.2.2.2.2))] := hDn
            have hS := hSn
            clear hPn hDn hSn
            refine lv_iload hx hb d_De_readCoded_136 (lv_at hl 0 rfl) ?_
            refine lv_if_eq (tgt := 147) hx hb d_De_readCoded_138 (by decide) (fun cz => absurd cz (by decide)) (fun cz => ?_)
            refine lv_iload_n hx hb d_De_readCoded_141 rfl (lv_at hl 2 rfl) ?_
            refine lv_iconst (v := 1) hx hb d_De_readCoded_142 (by decide) ?_
            refine lv_iand hx hb d_De_readCoded_143 ?_
            refine lv_goto (tgt := 152) hx hb d_De_readCoded_144 (by decide) ?_
            replace hP := hP.sub (ws' := [(hd, .inr (3, [.ref h, .int u17.1.1, .int (bI u17.1.2.1), .int (bI u17.1.2.2.1), .int u17.1.2.2.2.1, .int u17.1.2.2.2.2.1, .int u17.1.2.2.2.2.2.1, .int u17.1.2.2.2.2.2.2.1, .int u17.1.2.2.2.2.2.2.2.1, .int u17.1.2.2.2.2.2.2.2.2.1, .int u17.1.2.2.2.2.2.2.2.2.2])), (h, .inr (0, [.ref a1, .ref a2, .ref a3, .int u17.2.1, .int u17.2.2.1, .int u17.2.2.2.1])), (a1, .inl (E.2.1 0, 42000, .inl u17.2.2.2.2.1)), (a2, .inl (E.2.1 0, 513, .inl u17.2.2.2.2.2.1)), (a3, .inl (E.2.1 1, 513, .inl u17.2.2.2.2.2.2)), (ac, .inl (E.2.1 0, nc, .inl (upd st.2.2 (Int32.toNatClampNeg p1) r14)))]) [1, 2, 3, 4, 5, 0] rfl
            replace hD := hD.sub (ws' := [(hd, .inr (3, [.ref h, .int u17.1.1, .int (bI u17.1.2.1), .int (bI u17.1.2.2.1), .int u17.1.2.2.2.1, .int u17.1.2.2.2.2.1, .int u17.1.2.2.2.2.2.1, .int u17.1.2.2.2.2.2.2.1, .int u17.1.2.2.2.2.2.2.2.1, .int u17.1.2.2.2.2.2.2.2.2.1, .int u17.1.2.2.2.2.2.2.2.2.2])), (h, .inr (0, [.ref a1, .ref a2, .ref a3, .int u17.2.1, .int u17.2.2.1, .int u17.2.2.2.1])), (a1, .inl (E.2.1 0, 42000, .inl u17.2.2.2.2.1)), (a2, .inl (E.2.1 0, 513, .inl u17.2.2.2.2.2.1)), (a3, .inl (E.2.1 1, 513, .inl u17.2.2.2.2.2.2)), (ac, .inl (E.2.1 0, nc, .inl (upd st.2.2 (Int32.toNatClampNeg p1) r14)))]) [1, 2, 3, 4, 5, 0] (by decide) rfl
            exact ar_iret hx hb hr hlocks hK hS (u17.1, u17.2, (upd st.2.2 (Int32.toNatClampNeg p1) r14)) (by subst hw17; subst hw14; subst ex7; subst ex5; subst hw4; subst ex3; exact pr_of (Eq.trans (f_De_readCoded_s nc p1 st) (Eq.trans (if_neg c1) (Eq.trans (if_pos c2) (Eq.trans (if_pos c6) (Eq.trans (if_pos c8) (Eq.trans (if_neg c9) rfl))))))) hP hD d_De_readCoded_152
        · replace hok := hok.2 c8
          refine lv_iload_n hx hb d_De_readCoded_93 rfl (lv_at hl 1 rfl) ?_
          refine lv_iconst (v := 1) hx hb d_De_readCoded_94 (by decide) ?_
          refine lv_iand hx hb d_De_readCoded_95 ?_
          exact ar_iret hx hb hr hlocks hK hS ((st.1.1, st.1.2.1, st.1.2.2.1, st.1.2.2.2.1, st.1.2.2.2.2.1, st.1.2.2.2.2.2.1, x5, x7, st.1.2.2.2.2.2.2.2.2.1, st.1.2.2.2.2.2.2.2.2.2), st.2.1, st.2.2) (by subst ex7; subst ex5; subst hw4; subst ex3; exact pr_of (Eq.trans (f_De_readCoded_s nc p1 st) (Eq.trans (if_neg c1) (Eq.trans (if_pos c2) (Eq.trans (if_pos c6) (Eq.trans (if_neg c8) rfl)))))) hP hD d_De_readCoded_96
      · replace hok := hok.2 c6
        refine lv_aload_n hx hb d_De_readCoded_45 rfl (lv_at hl 2 rfl) ?_
        refine va_get (D := E.1) (ci := 3) (v := .int x5) (C := R_De) (T := T_De) (N := 11) hx hb hts in_De hown hK hP 0 rfl rfl 7 (by decide) (hts _ m_124) (fun _ h9 => h9) rfl d_De_readCoded_46 ?_
        refine lv_iload hx hb d_De_readCoded_49 (lv_at hl 0 rfl) ?_
        refine lv_icmp_ge (tgt := 58) hx hb d_De_readCoded_51 (by decide) (fun c18 => ?_) (fun c18 => ?_)
        · replace hok := hok.1 c18
          refine lv_iconst (v := 0) hx hb d_De_readCoded_58 (by decide) ?_
          refine lv_istore (lv' := [(5, .int 0), (4, .int r4), (3, .int x3), (0, .ref hd), (1, .ref ac), (2, .int p1)]) hx hb d_De_readCoded_59 hl (by decide) rfl (fun ls hl => ?_)
          refine lv_aload_n hx hb d_De_readCoded_61 rfl (lv_at hl 3 rfl) ?_
          refine lv_iload hx hb d_De_readCoded_62 (lv_at hl 1 rfl) ?_
          refine va_put (D := E.1) (ci := 3) (v := .int r4) (ty := .int) (C := R_De) (T := T_De) (N := 11) hx hb hts in_De t_De t_De_ok n_De hown hK hP hD hS 0 rfl rfl 7 (by decide) (hts _ m_124) (fun _ h9 => h9) rfl (by decide +kernel) rfl rfl (Nat.le_of_ble_eq_true rfl) d_De_readCoded_64 (fun Hn locsn hPn hDn hSn => ?_)
          clear hP hD hS
          have hP : va_P E.1 classes [(hd, .inr (3, [.ref h, .int st.1.1, .int (bI st.1.2.1), .int (bI st.1.2.2.1), .int st.1.2.2.2.1, .int st.1.2.2.2.2.1, .int st.1.2.2.2.2.2.1, .int r4, .int st.1.2.2.2.2.2.2.2.1, .int st.1.2.2.2.2.2.2.2.2.1, .int st.1.2.2.2.2.2.2.2.2.2])), (h, .inr (0, [.ref a1, .ref a2, .ref a3, .int st.2.1.1, .int st.2.1.2.1, .int st.2.1.2.2.1])), (a1, .inl (E.2.1 0, 42000, .inl st.2.1.2.2.2.1)), (a2, .inl (E.2.1 0, 513, .inl st.2.1.2.2.2.2.1)), (a3, .inl (E.2.1 1, 513, .inl st.2.1.2.2.2.2.2)), (ac, .inl (E.2.1 0, nc, .inl st.2.2))] Hn := hPn
          have hD : va_D A [(hd, .inr (3, [.ref h, .int st.1.1, .int (bI st.1.2.1), .int (bI st.1.2.2.1), .int st.1.2.2.2.1, .int st.1.2.2.2.2.1, .int st.1.2.2.2.2.2.1, .int r4, .int st.1.2.2.2.2.2.2.2.1, .int st.1.2.2.2.2.2.2.2.2.1, .int st.1.2.2.2.2.2.2.2.2.2])), (h, .inr (0, [.ref a1, .ref a2, .ref a3, .int st.2.1.1, .int st.2.1.2.1, .int st.2.1.2.2.1])), (a1, .inl (E.2.1 0, 42000, .inl st.2.1.2.2.2.1)), (a2, .inl (E.2.1 0, 513, .inl st.2.1.2.2.2.2.1)), (a3, .inl (E.2.1 1, 513, .inl st.2.1.2.2.2.2.2)), (ac, .inl (E.2.1 0, nc, .inl st.2.2))] := hDn
          have hS := hSn
          clear hPn hDn hSn
          refine lv_goto (tgt := 113) hx hb d_De_readCoded_67 (by decide) ?_
          refine lv_aload_n hx hb d_De_readCoded_113 rfl (lv_at hl 4 rfl) ?_
          refine lv_iload_n hx hb d_De_readCoded_114 rfl (lv_at hl 5 rfl) ?_
          refine lv_iload hx hb d_De_readCoded_115 (lv_at hl 0 rfl) ?_
          refine lv_if_eq (tgt := 127) hx hb d_De_readCoded_117 (by decide) (fun cz => ?_) (fun cz => absurd cz (by decide))
          refine lv_iload_n hx hb d_De_readCoded_127 rfl (lv_at hl 2 rfl) ?_
          refine ar_usei (wr := [(hd, .inr (3, [.ref h, .int st.1.1, .int (bI st.1.2.1), .int (bI st.1.2.2.1), .int st.1.2.2.2.1, .int st.1.2.2.2.2.1, .int st.1.2.2.2.2.2.1, .int r4, .int st.1.2.2.2.2.2.2.2.1, .int st.1.2.2.2.2.2.2.2.2.1, .int st.1.2.2.2.2.2.2.2.2.2])), (h, .inr (0, [.ref a1, .ref a2, .ref a3, .int st.2.1.1, .int st.2.1.2.1, .int st.2.1.2.2.1])), (a1, .inl (E.2.1 0, 42000, .inl st.2.1.2.2.2.1)), (a2, .inl (E.2.1 0, 513, .inl st.2.1.2.2.2.2.1)), (a3, .inl (E.2.1 1, 513, .inl st.2.1.2.2.2.2.2)), (ac, .inl (E.2.1 0, nc, .inl st.2.2))]) hP hD hS hA [] [0, 1, 2, 3, 4, 5] rfl rfl rfl (by decide) (ar_runS (n := 1) (As := [.int x3]) (rest := [.int p1, .ref ac]) hx hb hml hown hts hP hD hS hA hK hZ (c_Ta_behindOther l E _   x3 ) m_528 m_436 m_14 m_437 (by decide +kernel) ⟨Nat.le_of_ble_eq_true rfl, Nat.le_of_ble_eq_true rfl⟩ [] rfl rfl rfl rfl hl.1 rfl (Nat.le_of_ble_eq_true rfl) d_De_readCoded_128 ⟨Nat.le_of_ble_eq_true rfl, Nat.le_of_ble_eq_true rfl⟩) (fun r19 _ Hn locsn hw19 hPn hDn hSn => ?_)
          replace hok := hok r19 hw19
          clear hP hD hS
          have hP : va_P E.1 classes [(hd, .inr (3, [.ref h, .int st.1.1, .int (bI st.1.2.1), .int (bI st.1.2.2.1), .int st.1.2.2.2.1, .int st.1.2.2.2.2.1, .int st.1.2.2.2.2.2.1, .int r4, .int st.1.2.2.2.2.2.2.2.1, .int st.1.2.2.2.2.2.2.2.2.1, .int st.1.2.2.2.2.2.2.2.2.2])), (h, .inr (0, [.ref a1, .ref a2, .ref a3, .int st.2.1.1, .int st.2.1.2.1, .int st.2.1.2.2.1])), (a1, .inl (E.2.1 0, 42000, .inl st.2.1.2.2.2.1)), (a2, .inl (E.2.1 0, 513, .inl st.2.1.2.2.2.2.1)), (a3, .inl (E.2.1 1, 513, .inl st.2.1.2.2.2.2.2)), (ac, .inl (E.2.1 0, nc, .inl st.2.2))] Hn := hPn
          have hD : va_D A [(hd, .inr (3, [.ref h, .int st.1.1, .int (bI st.1.2.1), .int (bI st.1.2.2.1), .int st.1.2.2.2.1, .int st.1.2.2.2.2.1, .int st.1.2.2.2.2.2.1, .int r4, .int st.1.2.2.2.2.2.2.2.1, .int st.1.2.2.2.2.2.2.2.2.1, .int st.1.2.2.2.2.2.2.2.2.2])), (h, .inr (0, [.ref a1, .ref a2, .ref a3, .int st.2.1.1, .int st.2.1.2.1, .int st.2.1.2.2.1])), (a1, .inl (E.2.1 0, 42000, .inl st.2.1.2.2.2.1)), (a2, .inl (E.2.1 0, 513, .inl st.2.1.2.2.2.2.1)), (a3, .inl (E.2.1 1, 513, .inl st.2.1.2.2.2.2.2)), (ac, .inl (E.2.1 0, nc, .inl st.2.2))] := hDn
          have hS := hSn
          clear hPn hDn hSn
          refine va_iast (D := E.1) (x := r19) hx hb hK hP hD hS 5 0 rfl rfl (in_lt (nI_toInt hnc) (by assumption) (by assumption)) d_De_readCoded_131 (fun Hn locsn hPn hDn hSn => ?_)
          clear hP hD hS
          have hP : va_P E.1 classes [(hd, .inr (3, [.ref h, .int st.1.1, .int (bI st.1.2.1), .int (bI st.1.2.2.1), .int st.1.2.2.2.1, .int st.1.2.2.2.2.1, .int st.1.2.2.2.2.2.1, .int r4, .int st.1.2.2.2.2.2.2.2.1, .int st.1.2.2.2.2.2.2.2.2.1, .int st.1.2.2.2.2.2.2.2.2.2])), (h, .inr (0, [.ref a1, .ref a2, .ref a3, .int st.2.1.1, .int st.2.1.2.1, .int st.2.1.2.2.1])), (a1, .inl (E.2.1 0, 42000, .inl st.2.1.2.2.2.1)), (a2, .inl (E.2.1 0, 513, .inl st.2.1.2.2.2.2.1)), (a3, .inl (E.2.1 1, 513, .inl st.2.1.2.2.2.2.2)), (ac, .inl (E.2.1 0, nc, .inl (upd st.2.2 (Int32.toNatClampNeg p1) r19)))] Hn := hPn
          have hD : va_D A [(hd, .inr (3, [.ref h, .int st.1.1, .int (bI st.1.2.1), .int (bI st.1.2.2.1), .int st.1.2.2.2.1, .int st.1.2.2.2.2.1, .int st.1.2.2.2.2.2.1, .int r4, .int st.1.2.2.2.2.2.2.2.1, .int st.1.2.2.2.2.2.2.2.2.1, .int st.1.2.2.2.2.2.2.2.2.2])), (h, .inr (0, [.ref a1, .ref a2, .ref a3, .int st.2.1.1, .int st.2.1.2.1, .int st.2.1.2.2.1])), (a1, .inl (E.2.1 0, 42000, .inl st.2.1.2.2.2.1)), (a2, .inl (E.2.1 0, 513, .inl st.2.1.2.2.2.2.1)), (a3, .inl (E.2.1 1, 513, .inl st.2.1.2.2.2.2.2)), (ac, .inl (E.2.1 0, nc, .inl (upd st.2.2 (Int32.toNatClampNeg p1) r19)))] := hDn
          have hS := hSn
          clear hPn hDn hSn
          refine lv_aload_n hx hb d_De_readCoded_132 rfl (lv_at hl 3 rfl) ?_
          obtain ⟨hk21, hok⟩ := hok
          refine ar_usev (wr := [(ac, .inl (E.2.1 0, nc, .inl (upd st.2.2 (Int32.toNatClampNeg p1) r19)))]) hP hD hS hA [0, 1, 2, 3, 4] [5] rfl rfl rfl (by decide) (ar_runV (n := 0) (As := []) (rest := []) (ci := 3) (q0 := 0) hx hb hml hown hts hP hD hS hA hK hZ (c_De_renew l E _ hd h a1 a2 a3 ((st.1.1, st.1.2.1, st.1.2.2.1, st.1.2.2.2.1, st.1.2.2.2.2.1, st.1.2.2.2.2.2.1, r4, st.1.2.2.2.2.2.2.2.1, st.1.2.2.2.2.2.2.2.2.1, st.1.2.2.2.2.2.2.2.2.2), st.2.1)  hk21) m_529 m_531 ms_16 m_6 m_532 (by decide +kernel) ⟨Nat.le_of_ble_eq_true rfl, Nat.le_of_ble_eq_true rfl⟩ [0, 1, 2, 3, 4] rfl rfl rfl rfl rfl rfl rfl hl.1 rfl (Nat.le_of_ble_eq_true rfl) d_De_readCoded_133 ⟨Nat.le_of_ble_eq_true rfl, Nat.le_of_ble_eq_true rfl⟩) (fun u22 Hn locsn hw22 hPn hDn hSn => ?_)
          replace hok := hok u22 hw22
          clear hP hD hS
          have hP : va_P E.1 classes [(ac, .inl (E.2.1 0, nc, .inl (upd st.2.2 (Int32.toNatClampNeg p1) r19))), (hd, .inr (3, [.ref h, .int u22.1.1, .int (bI u22.1.2.1), .int (bI u22.1.2.2.1), .int u22.1.2.2.2.1, .int u22.1.2.2.2.2.1, .int u22.1.2.2.2.2.2.1, .int u22.1.2.2.2.2.2.2.1, .int u22.1.2.2.2.2.2.2.2.1, .int u22.1.2.2.2.2.2.2.2.2.1, .int u22.1.2.2.2.2.2.2.2.2.2])), (h, .inr (0, [.ref a1, .ref a2, .ref a3, .int u22.2.1, .int u22.2.2.1, .int u22.2.2.2.1])), (a1, .inl (E.2.1 0, 42000, .inl u22.2.2.2.2.1)), (a2, .inl (E.2.1 0, 513, .inl u22.2.2.2.2.2.1)), (a3, .inl (E.2.1 1, 513, .inl u22.2.2.2.2.2.2))] Hn := hPn
          have hD : va_D A [(ac, .inl (E.2.1 0, nc, .inl (upd st.2.2 (Int32.toNatClampNeg p1) r19))), (hd, .inr (3, [.ref h, .int u22.1.1, .int (bI u22.1.2.1), .int (bI u22.1.2.2.1), .int u22.1.2.2.2.1, .int u22.1.2.2.2.2.1, .int u22.1.2.2.2.2.2.1, .int u22.1.2.2.2.2.2.2.1, .int u22.1.2.2.2.2.2.2.2.1, .int u22.1.2.2.2.2.2.2.2.2.1, .int u22.1.2.2.2.2.2.2.2.2.2])), (h, .inr (0, [.ref a1, .ref a2, .ref a3, .int u22.2.1, .int u22.2.2.1, .int u22.2.2.2.1])), (a1, .inl (E.2.1 0, 42000, .inl u22.2.2.2.2.1)), (a2, .inl (E.2.1 0, 513, .inl u22.2.2.2.2.2.1)), (a3, .inl (E.2.1 1, 513, .inl u22.2.2.2.2.2.2))] := hDn
          have hS := hSn
          clear hPn hDn hSn
          refine lv_iload hx hb d_De_readCoded_136 (lv_at hl 0 rfl) ?_
          refine lv_if_eq (tgt := 147) hx hb d_De_readCoded_138 (by decide) (fun cz => ?_) (fun cz => absurd cz (by decide))
          refine lv_iconst (v := 1) hx hb d_De_readCoded_147 (by decide) ?_
          refine lv_iload_n hx hb d_De_readCoded_148 rfl (lv_at hl 2 rfl) ?_
          refine lv_iconst (v := 1) hx hb d_De_readCoded_149 (by decide) ?_
          refine lv_iand hx hb d_De_readCoded_150 ?_
          refine lv_isub hx hb d_De_readCoded_151 ?_
          replace hP := hP.sub (ws' := [(hd, .inr (3, [.ref h, .int u22.1.1, .int (bI u22.1.2.1), .int (bI u22.1.2.2.1), .int u22.1.2.2.2.1, .int u22.1.2.2.2.2.1, .int u22.1.2.2.2.2.2.1, .int u22.1.2.2.2.2.2.2.1, .int u22.1.2.2.2.2.2.2.2.1, .int u22.1.2.2.2.2.2.2.2.2.1, .int u22.1.2.2.2.2.2.2.2.2.2])), (h, .inr (0, [.ref a1, .ref a2, .ref a3, .int u22.2.1, .int u22.2.2.1, .int u22.2.2.2.1])), (a1, .inl (E.2.1 0, 42000, .inl u22.2.2.2.2.1)), (a2, .inl (E.2.1 0, 513, .inl u22.2.2.2.2.2.1)), (a3, .inl (E.2.1 1, 513, .inl u22.2.2.2.2.2.2)), (ac, .inl (E.2.1 0, nc, .inl (upd st.2.2 (Int32.toNatClampNeg p1) r19)))]) [1, 2, 3, 4, 5, 0] rfl
          replace hD := hD.sub (ws' := [(hd, .inr (3, [.ref h, .int u22.1.1, .int (bI u22.1.2.1), .int (bI u22.1.2.2.1), .int u22.1.2.2.2.1, .int u22.1.2.2.2.2.1, .int u22.1.2.2.2.2.2.1, .int u22.1.2.2.2.2.2.2.1, .int u22.1.2.2.2.2.2.2.2.1, .int u22.1.2.2.2.2.2.2.2.2.1, .int u22.1.2.2.2.2.2.2.2.2.2])), (h, .inr (0, [.ref a1, .ref a2, .ref a3, .int u22.2.1, .int u22.2.2.1, .int u22.2.2.2.1])), (a1, .inl (E.2.1 0, 42000, .inl u22.2.2.2.2.1)), (a2, .inl (E.2.1 0, 513, .inl u22.2.2.2.2.2.1)), (a3, .inl (E.2.1 1, 513, .inl u22.2.2.2.2.2.2)), (ac, .inl (E.2.1 0, nc, .inl (upd st.2.2 (Int32.toNatClampNeg p1) r19)))]) [1, 2, 3, 4, 5, 0] (by decide) rfl
          exact ar_iret hx hb hr hlocks hK hS (u22.1, u22.2, (upd st.2.2 (Int32.toNatClampNeg p1) r19)) (by subst hw22; subst hw19; subst ex5; subst hw4; subst ex3; exact pr_of (Eq.trans (f_De_readCoded_s nc p1 st) (Eq.trans (if_neg c1) (Eq.trans (if_pos c2) (Eq.trans (if_neg c6) (Eq.trans (if_pos c18) rfl)))))) hP hD d_De_readCoded_152
        · replace hok := hok.2 c18
          refine lv_iconst (v := 1) hx hb d_De_readCoded_54 (by decide) ?_
          refine lv_goto (tgt := 59) hx hb d_De_readCoded_55 (by decide) ?_
          refine lv_istore (lv' := [(5, .int 1), (4, .int r4), (3, .int x3), (0, .ref hd), (1, .ref ac), (2, .int p1)]) hx hb d_De_readCoded_59 hl (by decide) rfl (fun ls hl => ?_)
          refine lv_aload_n hx hb d_De_readCoded_61 rfl (lv_at hl 3 rfl) ?_
          refine lv_iload hx hb d_De_readCoded_62 (lv_at hl 1 rfl) ?_
          refine va_put (D := E.1) (ci := 3) (v := .int r4) (ty := .int) (C := R_De) (T := T_De) (N := 11) hx hb hts in_De t_De t_De_ok n_De hown hK hP hD hS 0 rfl rfl 7 (by decide) (hts _ m_124) (fun _ h9 => h9) rfl (by decide +kernel) rfl rfl (Nat.le_of_ble_eq_true rfl) d_De_readCoded_64 (fun Hn locsn hPn hDn hSn => ?_)
          clear hP hD hS
          have hP : va_P E.1 classes [(hd, .inr (3, [.ref h, .int st.1.1, .int (bI st.1.2.1), .int (bI st.1.2.2.1), .int st.1.2.2.2.1, .int st.1.2.2.2.2.1, .int st.1.2.2.2.2.2.1, .int r4, .int st.1.2.2.2.2.2.2.2.1, .int st.1.2.2.2.2.2.2.2.2.1, .int st.1.2.2.2.2.2.2.2.2.2])), (h, .inr (0, [.ref a1, .ref a2, .ref a3, .int st.2.1.1, .int st.2.1.2.1, .int st.2.1.2.2.1])), (a1, .inl (E.2.1 0, 42000, .inl st.2.1.2.2.2.1)), (a2, .inl (E.2.1 0, 513, .inl st.2.1.2.2.2.2.1)), (a3, .inl (E.2.1 1, 513, .inl st.2.1.2.2.2.2.2)), (ac, .inl (E.2.1 0, nc, .inl st.2.2))] Hn := hPn
          have hD : va_D A [(hd, .inr (3, [.ref h, .int st.1.1, .int (bI st.1.2.1), .int (bI st.1.2.2.1), .int st.1.2.2.2.1, .int st.1.2.2.2.2.1, .int st.1.2.2.2.2.2.1, .int r4, .int st.1.2.2.2.2.2.2.2.1, .int st.1.2.2.2.2.2.2.2.2.1, .int st.1.2.2.2.2.2.2.2.2.2])), (h, .inr (0, [.ref a1, .ref a2, .ref a3, .int st.2.1.1, .int st.2.1.2.1, .int st.2.1.2.2.1])), (a1, .inl (E.2.1 0, 42000, .inl st.2.1.2.2.2.1)), (a2, .inl (E.2.1 0, 513, .inl st.2.1.2.2.2.2.1)), (a3, .inl (E.2.1 1, 513, .inl st.2.1.2.2.2.2.2)), (ac, .inl (E.2.1 0, nc, .inl st.2.2))] := hDn
          have hS := hSn
          clear hPn hDn hSn
          refine lv_goto (tgt := 113) hx hb d_De_readCoded_67 (by decide) ?_
          refine lv_aload_n hx hb d_De_readCoded_113 rfl (lv_at hl 4 rfl) ?_
          refine lv_iload_n hx hb d_De_readCoded_114 rfl (lv_at hl 5 rfl) ?_
          refine lv_iload hx hb d_De_readCoded_115 (lv_at hl 0 rfl) ?_
          refine lv_if_eq (tgt := 127) hx hb d_De_readCoded_117 (by decide) (fun cz => absurd cz (by decide)) (fun cz => ?_)
          refine lv_iload_n hx hb d_De_readCoded_120 rfl (lv_at hl 2 rfl) ?_
          refine ar_usei (wr := [(hd, .inr (3, [.ref h, .int st.1.1, .int (bI st.1.2.1), .int (bI st.1.2.2.1), .int st.1.2.2.2.1, .int st.1.2.2.2.2.1, .int st.1.2.2.2.2.2.1, .int r4, .int st.1.2.2.2.2.2.2.2.1, .int st.1.2.2.2.2.2.2.2.2.1, .int st.1.2.2.2.2.2.2.2.2.2])), (h, .inr (0, [.ref a1, .ref a2, .ref a3, .int st.2.1.1, .int st.2.1.2.1, .int st.2.1.2.2.1])), (a1, .inl (E.2.1 0, 42000, .inl st.2.1.2.2.2.1)), (a2, .inl (E.2.1 0, 513, .inl st.2.1.2.2.2.2.1)), (a3, .inl (E.2.1 1, 513, .inl st.2.1.2.2.2.2.2)), (ac, .inl (E.2.1 0, nc, .inl st.2.2))]) hP hD hS hA [] [0, 1, 2, 3, 4, 5] rfl rfl rfl (by decide) (ar_runS (n := 1) (As := [.int x3]) (rest := [.int p1, .ref ac]) hx hb hml hown hts hP hD hS hA hK hZ (c_Ta_behindLikely l E _   x3 ) m_527 m_431 m_14 m_432 (by decide +kernel) ⟨Nat.le_of_ble_eq_true rfl, Nat.le_of_ble_eq_true rfl⟩ [] rfl rfl rfl rfl hl.1 rfl (Nat.le_of_ble_eq_true rfl) d_De_readCoded_121 ⟨Nat.le_of_ble_eq_true rfl, Nat.le_of_ble_eq_true rfl⟩) (fun r23 _ Hn locsn hw23 hPn hDn hSn => ?_)
          replace hok := hok r23 hw23
          clear hP hD hS
          have hP : va_P E.1 classes [(hd, .inr (3, [.ref h, .int st.1.1, .int (bI st.1.2.1), .int (bI st.1.2.2.1), .int st.1.2.2.2.1, .int st.1.2.2.2.2.1, .int st.1.2.2.2.2.2.1, .int r4, .int st.1.2.2.2.2.2.2.2.1, .int st.1.2.2.2.2.2.2.2.2.1, .int st.1.2.2.2.2.2.2.2.2.2])), (h, .inr (0, [.ref a1, .ref a2, .ref a3, .int st.2.1.1, .int st.2.1.2.1, .int st.2.1.2.2.1])), (a1, .inl (E.2.1 0, 42000, .inl st.2.1.2.2.2.1)), (a2, .inl (E.2.1 0, 513, .inl st.2.1.2.2.2.2.1)), (a3, .inl (E.2.1 1, 513, .inl st.2.1.2.2.2.2.2)), (ac, .inl (E.2.1 0, nc, .inl st.2.2))] Hn := hPn
          have hD : va_D A [(hd, .inr (3, [.ref h, .int st.1.1, .int (bI st.1.2.1), .int (bI st.1.2.2.1), .int st.1.2.2.2.1, .int st.1.2.2.2.2.1, .int st.1.2.2.2.2.2.1, .int r4, .int st.1.2.2.2.2.2.2.2.1, .int st.1.2.2.2.2.2.2.2.2.1, .int st.1.2.2.2.2.2.2.2.2.2])), (h, .inr (0, [.ref a1, .ref a2, .ref a3, .int st.2.1.1, .int st.2.1.2.1, .int st.2.1.2.2.1])), (a1, .inl (E.2.1 0, 42000, .inl st.2.1.2.2.2.1)), (a2, .inl (E.2.1 0, 513, .inl st.2.1.2.2.2.2.1)), (a3, .inl (E.2.1 1, 513, .inl st.2.1.2.2.2.2.2)), (ac, .inl (E.2.1 0, nc, .inl st.2.2))] := hDn
          have hS := hSn
          clear hPn hDn hSn
          refine lv_goto (tgt := 131) hx hb d_De_readCoded_124 (by decide) ?_
          refine va_iast (D := E.1) (x := r23) hx hb hK hP hD hS 5 0 rfl rfl (in_lt (nI_toInt hnc) (by assumption) (by assumption)) d_De_readCoded_131 (fun Hn locsn hPn hDn hSn => ?_)
          clear hP hD hS
          have hP : va_P E.1 classes [(hd, .inr (3, [.ref h, .int st.1.1, .int (bI st.1.2.1), .int (bI st.1.2.2.1), .int st.1.2.2.2.1, .int st.1.2.2.2.2.1, .int st.1.2.2.2.2.2.1, .int r4, .int st.1.2.2.2.2.2.2.2.1, .int st.1.2.2.2.2.2.2.2.2.1, .int st.1.2.2.2.2.2.2.2.2.2])), (h, .inr (0, [.ref a1, .ref a2, .ref a3, .int st.2.1.1, .int st.2.1.2.1, .int st.2.1.2.2.1])), (a1, .inl (E.2.1 0, 42000, .inl st.2.1.2.2.2.1)), (a2, .inl (E.2.1 0, 513, .inl st.2.1.2.2.2.2.1)), (a3, .inl (E.2.1 1, 513, .inl st.2.1.2.2.2.2.2)), (ac, .inl (E.2.1 0, nc, .inl (upd st.2.2 (Int32.toNatClampNeg p1) r23)))] Hn := hPn
          have hD : va_D A [(hd, .inr (3, [.ref h, .int st.1.1, .int (bI st.1.2.1), .int (bI st.1.2.2.1), .int st.1.2.2.2.1, .int st.1.2.2.2.2.1, .int st.1.2.2.2.2.2.1, .int r4, .int st.1.2.2.2.2.2.2.2.1, .int st.1.2.2.2.2.2.2.2.2.1, .int st.1.2.2.2.2.2.2.2.2.2])), (h, .inr (0, [.ref a1, .ref a2, .ref a3, .int st.2.1.1, .int st.2.1.2.1, .int st.2.1.2.2.1])), (a1, .inl (E.2.1 0, 42000, .inl st.2.1.2.2.2.1)), (a2, .inl (E.2.1 0, 513, .inl st.2.1.2.2.2.2.1)), (a3, .inl (E.2.1 1, 513, .inl st.2.1.2.2.2.2.2)), (ac, .inl (E.2.1 0, nc, .inl (upd st.2.2 (Int32.toNatClampNeg p1) r23)))] := hDn
          have hS := hSn
          clear hPn hDn hSn
          refine lv_aload_n hx hb d_De_readCoded_132 rfl (lv_at hl 3 rfl) ?_
          obtain ⟨hk25, hok⟩ := hok
          refine ar_usev (wr := [(ac, .inl (E.2.1 0, nc, .inl (upd st.2.2 (Int32.toNatClampNeg p1) r23)))]) hP hD hS hA [0, 1, 2, 3, 4] [5] rfl rfl rfl (by decide) (ar_runV (n := 0) (As := []) (rest := []) (ci := 3) (q0 := 0) hx hb hml hown hts hP hD hS hA hK hZ (c_De_renew l E _ hd h a1 a2 a3 ((st.1.1, st.1.2.1, st.1.2.2.1, st.1.2.2.2.1, st.1.2.2.2.2.1, st.1.2.2.2.2.2.1, r4, st.1.2.2.2.2.2.2.2.1, st.1.2.2.2.2.2.2.2.2.1, st.1.2.2.2.2.2.2.2.2.2), st.2.1)  hk25) m_529 m_531 ms_16 m_6 m_532 (by decide +kernel) ⟨Nat.le_of_ble_eq_true rfl, Nat.le_of_ble_eq_true rfl⟩ [0, 1, 2, 3, 4] rfl rfl rfl rfl rfl rfl rfl hl.1 rfl (Nat.le_of_ble_eq_true rfl) d_De_readCoded_133 ⟨Nat.le_of_ble_eq_true rfl, Nat.le_of_ble_eq_true rfl⟩) (fun u26 Hn locsn hw26 hPn hDn hSn => ?_)
          replace hok := hok u26 hw26
          clear hP hD hS
          have hP : va_P E.1 classes [(ac, .inl (E.2.1 0, nc, .inl (upd st.2.2 (Int32.toNatClampNeg p1) r23))), (hd, .inr (3, [.ref h, .int u26.1.1, .int (bI u26.1.2.1), .int (bI u26.1.2.2.1), .int u26.1.2.2.2.1, .int u26.1.2.2.2.2.1, .int u26.1.2.2.2.2.2.1, .int u26.1.2.2.2.2.2.2.1, .int u26.1.2.2.2.2.2.2.2.1, .int u26.1.2.2.2.2.2.2.2.2.1, .int u26.1.2.2.2.2.2.2.2.2.2])), (h, .inr (0, [.ref a1, .ref a2, .ref a3, .int u26.2.1, .int u26.2.2.1, .int u26.2.2.2.1])), (a1, .inl (E.2.1 0, 42000, .inl u26.2.2.2.2.1)), (a2, .inl (E.2.1 0, 513, .inl u26.2.2.2.2.2.1)), (a3, .inl (E.2.1 1, 513, .inl u26.2.2.2.2.2.2))] Hn := hPn
          have hD : va_D A [(ac, .inl (E.2.1 0, nc, .inl (upd st.2.2 (Int32.toNatClampNeg p1) r23))), (hd, .inr (3, [.ref h, .int u26.1.1, .int (bI u26.1.2.1), .int (bI u26.1.2.2.1), .int u26.1.2.2.2.1, .int u26.1.2.2.2.2.1, .int u26.1.2.2.2.2.2.1, .int u26.1.2.2.2.2.2.2.1, .int u26.1.2.2.2.2.2.2.2.1, .int u26.1.2.2.2.2.2.2.2.2.1, .int u26.1.2.2.2.2.2.2.2.2.2])), (h, .inr (0, [.ref a1, .ref a2, .ref a3, .int u26.2.1, .int u26.2.2.1, .int u26.2.2.2.1])), (a1, .inl (E.2.1 0, 42000, .inl u26.2.2.2.2.1)), (a2, .inl (E.2.1 0, 513, .inl u26.2.2.2.2.2.1)), (a3, .inl (E.2.1 1, 513, .inl u26.2.2.2.2.2.2))] := hDn
          have hS := hSn
          clear hPn hDn hSn
          refine lv_iload hx hb d_De_readCoded_136 (lv_at hl 0 rfl) ?_
          refine lv_if_eq (tgt := 147) hx hb d_De_readCoded_138 (by decide) (fun cz => absurd cz (by decide)) (fun cz => ?_)
          refine lv_iload_n hx hb d_De_readCoded_141 rfl (lv_at hl 2 rfl) ?_
          refine lv_iconst (v := 1) hx hb d_De_readCoded_142 (by decide) ?_
          refine lv_iand hx hb d_De_readCoded_143 ?_
          refine lv_goto (tgt := 152) hx hb d_De_readCoded_144 (by decide) ?_
          replace hP := hP.sub (ws' := [(hd, .inr (3, [.ref h, .int u26.1.1, .int (bI u26.1.2.1), .int (bI u26.1.2.2.1), .int u26.1.2.2.2.1, .int u26.1.2.2.2.2.1, .int u26.1.2.2.2.2.2.1, .int u26.1.2.2.2.2.2.2.1, .int u26.1.2.2.2.2.2.2.2.1, .int u26.1.2.2.2.2.2.2.2.2.1, .int u26.1.2.2.2.2.2.2.2.2.2])), (h, .inr (0, [.ref a1, .ref a2, .ref a3, .int u26.2.1, .int u26.2.2.1, .int u26.2.2.2.1])), (a1, .inl (E.2.1 0, 42000, .inl u26.2.2.2.2.1)), (a2, .inl (E.2.1 0, 513, .inl u26.2.2.2.2.2.1)), (a3, .inl (E.2.1 1, 513, .inl u26.2.2.2.2.2.2)), (ac, .inl (E.2.1 0, nc, .inl (upd st.2.2 (Int32.toNatClampNeg p1) r23)))]) [1, 2, 3, 4, 5, 0] rfl
          replace hD := hD.sub (ws' := [(hd, .inr (3, [.ref h, .int u26.1.1, .int (bI u26.1.2.1), .int (bI u26.1.2.2.1), .int u26.1.2.2.2.1, .int u26.1.2.2.2.2.1, .int u26.1.2.2.2.2.2.1, .int u26.1.2.2.2.2.2.2.1, .int u26.1.2.2.2.2.2.2.2.1, .int u26.1.2.2.2.2.2.2.2.2.1, .int u26.1.2.2.2.2.2.2.2.2.2])), (h, .inr (0, [.ref a1, .ref a2, .ref a3, .int u26.2.1, .int u26.2.2.1, .int u26.2.2.2.1])), (a1, .inl (E.2.1 0, 42000, .inl u26.2.2.2.2.1)), (a2, .inl (E.2.1 0, 513, .inl u26.2.2.2.2.2.1)), (a3, .inl (E.2.1 1, 513, .inl u26.2.2.2.2.2.2)), (ac, .inl (E.2.1 0, nc, .inl (upd st.2.2 (Int32.toNatClampNeg p1) r23)))]) [1, 2, 3, 4, 5, 0] (by decide) rfl
          exact ar_iret hx hb hr hlocks hK hS (u26.1, u26.2, (upd st.2.2 (Int32.toNatClampNeg p1) r23)) (by subst hw26; subst hw23; subst ex5; subst hw4; subst ex3; exact pr_of (Eq.trans (f_De_readCoded_s nc p1 st) (Eq.trans (if_neg c1) (Eq.trans (if_pos c2) (Eq.trans (if_neg c6) (Eq.trans (if_neg c18) rfl)))))) hP hD d_De_readCoded_152
    · replace hok := hok.2 c2
      refine lv_iconst (v := 0) hx hb d_De_readCoded_10 (by decide) ?_
      exact ar_iret hx hb hr hlocks hK hS st (by exact pr_of (Eq.trans (f_De_readCoded_s nc p1 st) (Eq.trans (if_neg c1) (Eq.trans (if_neg c2) rfl)))) hP hD d_De_readCoded_11

noncomputable def f_De_read (nc : Nat) (p1 : Int32) (st : (DeS) × (RoS) × (Nat → Int32)) : Int32 × ((DeS) × (RoS) × (Nat → Int32)) :=
  if bI st.1.2.2.1 = 0 then
    let u7 := f_De_start   (st.1, st.2.1)
    if bI u7.1.2.1 = 0 then
      let r10 := (f_De_readCoded nc p1 (u7.1, u7.2, st.2.2)).1
      let u10 := (f_De_readCoded nc p1 (u7.1, u7.2, st.2.2)).2
      (r10, u10)
    else
      let r11 := (f_De_readPlain   u7).1
      let u11 := (f_De_readPlain   u7).2
      (r11, (u11.1, u11.2, st.2.2))
  else
    if bI st.1.2.1 = 0 then
      let r4 := (f_De_readCoded nc p1 st).1
      let u4 := (f_De_readCoded nc p1 st).2
      (r4, u4)
    else
      let r5 := (f_De_readPlain   (st.1, st.2.1)).1
      let u5 := (f_De_readPlain   (st.1, st.2.1)).2
      (r5, (u5.1, u5.2, st.2.2))
theorem f_De_read_s (nc : Nat) (p1 : Int32) (st : (DeS) × (RoS) × (Nat → Int32)) : f_De_read nc p1 st = ((
  if bI st.1.2.2.1 = 0 then
    let u7 := f_De_start   (st.1, st.2.1)
    if bI u7.1.2.1 = 0 then
      let r10 := (f_De_readCoded nc p1 (u7.1, u7.2, st.2.2)).1
      let u10 := (f_De_readCoded nc p1 (u7.1, u7.2, st.2.2)).2
      (r10, u10)
    else
      let r11 := (f_De_readPlain   u7).1
      let u11 := (f_De_readPlain   u7).2
      (r11, (u11.1, u11.2, st.2.2))
  else
    if bI st.1.2.1 = 0 then
      let r4 := (f_De_readCoded nc p1 st).1
      let u4 := (f_De_readCoded nc p1 st).2
      (r4, u4)
    else
      let r5 := (f_De_readPlain   (st.1, st.2.1)).1
      let u5 := (f_De_readPlain   (st.1, st.2.1)).2
      (r5, (u5.1, u5.2, st.2.2))
  : Int32 × ((DeS) × (RoS) × (Nat → Int32)))) := rfl
def k_De_read (nc : Nat) (p1 : Int32) (st : (DeS) × (RoS) × (Nat → Int32)) : Prop := ((bI st.1.2.2.1 = 0) → (k_De_start   (st.1, st.2.1)) ∧ ((∀ u7, u7 = f_De_start   (st.1, st.2.1) → ((bI u7.1.2.1 = 0) → (k_De_readCoded nc p1 (u7.1, u7.2, st.2.2)) ∧ ((∀ r10, r10 = (f_De_readCoded nc p1 (u7.1, u7.2, st.2.2)).1 → (∀ u10, u10 = (f_De_readCoded nc p1 (u7.1, u7.2, st.2.2)).2 → True)))) ∧ (¬ (bI u7.1.2.1 = 0) → (∀ r11, r11 = (f_De_readPlain   u7).1 → (∀ u11, u11 = (f_De_readPlain   u7).2 → True)))))) ∧ (¬ (bI st.1.2.2.1 = 0) → ((bI st.1.2.1 = 0) → (k_De_readCoded nc p1 st) ∧ ((∀ r4, r4 = (f_De_readCoded nc p1 st).1 → (∀ u4, u4 = (f_De_readCoded nc p1 st).2 → True)))) ∧ (¬ (bI st.1.2.1 = 0) → (∀ r5, r5 = (f_De_readPlain   (st.1, st.2.1)).1 → (∀ u5, u5 = (f_De_readPlain   (st.1, st.2.1)).2 → True))))
set_option maxHeartbeats 4000000 in
set_option maxRecDepth 100000 in
theorem c_De_read (l : Launch) (E : Ev) (A : Nat → Prop) (hd h a1 a2 a3 ac nc : Nat) (st : (DeS) × (RoS) × (Nat → Int32)) (p1 : Int32)  (hok : k_De_read nc p1 st) :
    Kt l y_De_read b_De_read 3 (some .int) 4 0 0 E A [.ref hd, .ref ac, .int p1] [(hd, .inr (3, [.ref h, .int st.1.1, .int (bI st.1.2.1), .int (bI st.1.2.2.1), .int st.1.2.2.2.1, .int st.1.2.2.2.2.1, .int st.1.2.2.2.2.2.1, .int st.1.2.2.2.2.2.2.1, .int st.1.2.2.2.2.2.2.2.1, .int st.1.2.2.2.2.2.2.2.2.1, .int st.1.2.2.2.2.2.2.2.2.2])), (h, .inr (0, [.ref a1, .ref a2, .ref a3, .int st.2.1.1, .int st.2.1.2.1, .int st.2.1.2.2.1])), (a1, .inl (E.2.1 0, 42000, .inl st.2.1.2.2.2.1)), (a2, .inl (E.2.1 0, 513, .inl st.2.1.2.2.2.2.1)), (a3, .inl (E.2.1 1, 513, .inl st.2.1.2.2.2.2.2)), (ac, .inl (E.2.1 0, nc, .inl st.2.2))] (va_Qi (fun (r : Int32) (u : (DeS) × (RoS) × (Nat → Int32)) => r = (f_De_read nc p1 st).1 ∧ u = (f_De_read nc p1 st).2) (ar_W E A (fun u : (DeS) × (RoS) × (Nat → Int32) => [(hd, .inr (3, [.ref h, .int u.1.1, .int (bI u.1.2.1), .int (bI u.1.2.2.1), .int u.1.2.2.2.1, .int u.1.2.2.2.2.1, .int u.1.2.2.2.2.2.1, .int u.1.2.2.2.2.2.2.1, .int u.1.2.2.2.2.2.2.2.1, .int u.1.2.2.2.2.2.2.2.2.1, .int u.1.2.2.2.2.2.2.2.2.2])), (h, .inr (0, [.ref a1, .ref a2, .ref a3, .int u.2.1.1, .int u.2.1.2.1, .int u.2.1.2.2.1])), (a1, .inl (E.2.1 0, 42000, .inl u.2.1.2.2.2.1)), (a2, .inl (E.2.1 0, 513, .inl u.2.1.2.2.2.2.1)), (a3, .inl (E.2.1 1, 513, .inl u.2.1.2.2.2.2.2)), (ac, .inl (E.2.1 0, nc, .inl u.2.2))])) A) := by
  unfold k_De_read at hok
  refine Kt.of (by decide) (Nat.le_of_ble_eq_true rfl) ?_
  intro p e s m below meth c ls hx hb hml hown hts hr hlocks hex hin hA hZ hP hK hD hl
  have hS : va_S A s.heap s.heap [] := va_S.rf
  have hl : lv_has ls 3 [(0, .ref hd), (1, .ref ac), (2, .int p1)] := hl
  refine lv_aload_n hx hb d_De_read_0 rfl (lv_at hl 0 rfl) ?_
  refine va_get (D := E.1) (ci := 3) (v := .int (bI st.1.2.2.1)) (C := R_De) (T := T_De) (N := 11) hx hb hts in_De hown hK hP 0 rfl rfl 3 (by decide) (hts _ m_120) (fun _ h9 => h9) rfl d_De_read_1 ?_
  refine lv_if_ne (tgt := 11) hx hb d_De_read_4 (by decide) (fun c1 => ?_) (fun c1 => ?_)
  · replace hok := hok.2 c1
    refine lv_aload_n hx hb d_De_read_11 rfl (lv_at hl 0 rfl) ?_
    refine va_get (D := E.1) (ci := 3) (v := .int (bI st.1.2.1)) (C := R_De) (T := T_De) (N := 11) hx hb hts in_De hown hK hP 0 rfl rfl 2 (by decide) (hts _ m_119) (fun _ h9 => h9) rfl d_De_read_12 ?_
    refine lv_if_eq (tgt := 25) hx hb d_De_read_15 (by decide) (fun c2 => ?_) (fun c2 => ?_)
    · replace hok := hok.1 c2
      refine lv_aload_n hx hb d_De_read_25 rfl (lv_at hl 0 rfl) ?_
      refine lv_aload_n hx hb d_De_read_26 rfl (lv_at hl 1 rfl) ?_
      refine lv_iload_n hx hb d_De_read_27 rfl (lv_at hl 2 rfl) ?_
      obtain ⟨hk3, hok⟩ := hok
      refine ar_usei (wr := []) hP hD hS hA [0, 1, 2, 3, 4, 5] [] rfl rfl rfl (by decide) (ar_runV (n := 2) (As := [.ref ac, .int p1]) (rest := []) (ci := 3) (q0 := 0) hx hb hml hown hts hP hD hS hA hK hZ (c_De_readCoded l E _ hd h a1 a2 a3 ac nc st p1 hk3) m_522 m_524 ms_15 m_6 m_525 (by decide +kernel) ⟨Nat.le_of_ble_eq_true rfl, Nat.le_of_ble_eq_true rfl⟩ [0, 1, 2, 3, 4, 5] rfl rfl rfl rfl rfl rfl rfl hl.1 rfl (Nat.le_of_ble_eq_true rfl) d_De_read_28 ⟨Nat.le_of_ble_eq_true rfl, Nat.le_of_ble_eq_true rfl⟩) (fun r4 u4 Hn locsn hw4 hPn hDn hSn => ?_)
      obtain ⟨hw4a, hw4b⟩ := hw4
      replace hok := hok r4 hw4a
      replace hok := hok u4 hw4b
      clear hP hD hS
      have hP : va_P E.1 classes [(hd, .inr (3, [.ref h, .int u4.1.1, .int (bI u4.1.2.1), .int (bI u4.1.2.2.1), .int u4.1.2.2.2.1, .int u4.1.2.2.2.2.1, .int u4.1.2.2.2.2.2.1, .int u4.1.2.2.2.2.2.2.1, .int u4.1.2.2.2.2.2.2.2.1, .int u4.1.2.2.2.2.2.2.2.2.1, .int u4.1.2.2.2.2.2.2.2.2.2])), (h, .inr (0, [.ref a1, .ref a2, .ref a3, .int u4.2.1.1, .int u4.2.1.2.1, .int u4.2.1.2.2.1])), (a1, .inl (E.2.1 0, 42000, .inl u4.2.1.2.2.2.1)), (a2, .inl (E.2.1 0, 513, .inl u4.2.1.2.2.2.2.1)), (a3, .inl (E.2.1 1, 513, .inl u4.2.1.2.2.2.2.2)), (ac, .inl (E.2.1 0, nc, .inl u4.2.2))] Hn := hPn
      have hD : va_D A [(hd, .inr (3, [.ref h, .int u4.1.1, .int (bI u4.1.2.1), .int (bI u4.1.2.2.1), .int u4.1.2.2.2.1, .int u4.1.2.2.2.2.1, .int u4.1.2.2.2.2.2.1, .int u4.1.2.2.2.2.2.2.1, .int u4.1.2.2.2.2.2.2.2.1, .int u4.1.2.2.2.2.2.2.2.2.1, .int u4.1.2.2.2.2.2.2.2.2.2])), (h, .inr (0, [.ref a1, .ref a2, .ref a3, .int u4.2.1.1, .int u4.2.1.2.1, .int u4.2.1.2.2.1])), (a1, .inl (E.2.1 0, 42000, .inl u4.2.1.2.2.2.1)), (a2, .inl (E.2.1 0, 513, .inl u4.2.1.2.2.2.2.1)), (a3, .inl (E.2.1 1, 513, .inl u4.2.1.2.2.2.2.2)), (ac, .inl (E.2.1 0, nc, .inl u4.2.2))] := hDn
      have hS := hSn
      clear hPn hDn hSn
      exact ar_iret hx hb hr hlocks hK hS u4 (by subst hw4b; subst hw4a; exact pr_of (Eq.trans (f_De_read_s nc p1 st) (Eq.trans (if_neg c1) (Eq.trans (if_pos c2) rfl)))) hP hD d_De_read_31
    · replace hok := hok.2 c2
      refine lv_aload_n hx hb d_De_read_18 rfl (lv_at hl 0 rfl) ?_
      refine ar_usei (wr := [(ac, .inl (E.2.1 0, nc, .inl st.2.2))]) hP hD hS hA [0, 1, 2, 3, 4] [5] rfl rfl rfl (by decide) (ar_runV (n := 0) (As := []) (rest := []) (ci := 3) (q0 := 0) hx hb hml hown hts hP hD hS hA hK hZ (c_De_readPlain l E _ hd h a1 a2 a3 (st.1, st.2.1)  ) m_518 m_520 ms_14 m_6 m_521 (by decide +kernel) ⟨Nat.le_of_ble_eq_true rfl, Nat.le_of_ble_eq_true rfl⟩ [0, 1, 2, 3, 4] rfl rfl rfl rfl rfl rfl rfl hl.1 rfl (Nat.le_of_ble_eq_true rfl) d_De_read_19 ⟨Nat.le_of_ble_eq_true rfl, Nat.le_of_ble_eq_true rfl⟩) (fun r5 u5 Hn locsn hw5 hPn hDn hSn => ?_)
      obtain ⟨hw5a, hw5b⟩ := hw5
      replace hok := hok r5 hw5a
      replace hok := hok u5 hw5b
      clear hP hD hS
      have hP : va_P E.1 classes [(ac, .inl (E.2.1 0, nc, .inl st.2.2)), (hd, .inr (3, [.ref h, .int u5.1.1, .int (bI u5.1.2.1), .int (bI u5.1.2.2.1), .int u5.1.2.2.2.1, .int u5.1.2.2.2.2.1, .int u5.1.2.2.2.2.2.1, .int u5.1.2.2.2.2.2.2.1, .int u5.1.2.2.2.2.2.2.2.1, .int u5.1.2.2.2.2.2.2.2.2.1, .int u5.1.2.2.2.2.2.2.2.2.2])), (h, .inr (0, [.ref a1, .ref a2, .ref a3, .int u5.2.1, .int u5.2.2.1, .int u5.2.2.2.1])), (a1, .inl (E.2.1 0, 42000, .inl u5.2.2.2.2.1)), (a2, .inl (E.2.1 0, 513, .inl u5.2.2.2.2.2.1)), (a3, .inl (E.2.1 1, 513, .inl u5.2.2.2.2.2.2))] Hn := hPn
      have hD : va_D A [(ac, .inl (E.2.1 0, nc, .inl st.2.2)), (hd, .inr (3, [.ref h, .int u5.1.1, .int (bI u5.1.2.1), .int (bI u5.1.2.2.1), .int u5.1.2.2.2.1, .int u5.1.2.2.2.2.1, .int u5.1.2.2.2.2.2.1, .int u5.1.2.2.2.2.2.2.1, .int u5.1.2.2.2.2.2.2.2.1, .int u5.1.2.2.2.2.2.2.2.2.1, .int u5.1.2.2.2.2.2.2.2.2.2])), (h, .inr (0, [.ref a1, .ref a2, .ref a3, .int u5.2.1, .int u5.2.2.1, .int u5.2.2.2.1])), (a1, .inl (E.2.1 0, 42000, .inl u5.2.2.2.2.1)), (a2, .inl (E.2.1 0, 513, .inl u5.2.2.2.2.2.1)), (a3, .inl (E.2.1 1, 513, .inl u5.2.2.2.2.2.2))] := hDn
      have hS := hSn
      clear hPn hDn hSn
      refine lv_goto (tgt := 31) hx hb d_De_read_22 (by decide) ?_
      replace hP := hP.sub (ws' := [(hd, .inr (3, [.ref h, .int u5.1.1, .int (bI u5.1.2.1), .int (bI u5.1.2.2.1), .int u5.1.2.2.2.1, .int u5.1.2.2.2.2.1, .int u5.1.2.2.2.2.2.1, .int u5.1.2.2.2.2.2.2.1, .int u5.1.2.2.2.2.2.2.2.1, .int u5.1.2.2.2.2.2.2.2.2.1, .int u5.1.2.2.2.2.2.2.2.2.2])), (h, .inr (0, [.ref a1, .ref a2, .ref a3, .int u5.2.1, .int u5.2.2.1, .int u5.2.2.2.1])), (a1, .inl (E.2.1 0, 42000, .inl u5.2.2.2.2.1)), (a2, .inl (E.2.1 0, 513, .inl u5.2.2.2.2.2.1)), (a3, .inl (E.2.1 1, 513, .inl u5.2.2.2.2.2.2)), (ac, .inl (E.2.1 0, nc, .inl st.2.2))]) [1, 2, 3, 4, 5, 0] rfl
      replace hD := hD.sub (ws' := [(hd, .inr (3, [.ref h, .int u5.1.1, .int (bI u5.1.2.1), .int (bI u5.1.2.2.1), .int u5.1.2.2.2.1, .int u5.1.2.2.2.2.1, .int u5.1.2.2.2.2.2.1, .int u5.1.2.2.2.2.2.2.1, .int u5.1.2.2.2.2.2.2.2.1, .int u5.1.2.2.2.2.2.2.2.2.1, .int u5.1.2.2.2.2.2.2.2.2.2])), (h, .inr (0, [.ref a1, .ref a2, .ref a3, .int u5.2.1, .int u5.2.2.1, .int u5.2.2.2.1])), (a1, .inl (E.2.1 0, 42000, .inl u5.2.2.2.2.1)), (a2, .inl (E.2.1 0, 513, .inl u5.2.2.2.2.2.1)), (a3, .inl (E.2.1 1, 513, .inl u5.2.2.2.2.2.2)), (ac, .inl (E.2.1 0, nc, .inl st.2.2))]) [1, 2, 3, 4, 5, 0] (by decide) rfl
      exact ar_iret hx hb hr hlocks hK hS (u5.1, u5.2, st.2.2) (by subst hw5b; subst hw5a; exact pr_of (Eq.trans (f_De_read_s nc p1 st) (Eq.trans (if_neg c1) (Eq.trans (if_neg c2) rfl)))) hP hD d_De_read_31
  · replace hok := hok.1 c1
    refine lv_aload_n hx hb d_De_read_7 rfl (lv_at hl 0 rfl) ?_
    obtain ⟨hk6, hok⟩ := hok
    refine ar_usev (wr := [(ac, .inl (E.2.1 0, nc, .inl st.2.2))]) hP hD hS hA [0, 1, 2, 3, 4] [5] rfl rfl rfl (by decide) (ar_runV (n := 0) (As := []) (rest := []) (ci := 3) (q0 := 0) hx hb hml hown hts hP hD hS hA hK hZ (c_De_start l E _ hd h a1 a2 a3 (st.1, st.2.1)  hk6) m_498 m_500 ms_12 m_6 m_501 (by decide +kernel) ⟨Nat.le_of_ble_eq_true rfl, Nat.le_of_ble_eq_true rfl⟩ [0, 1, 2, 3, 4] rfl rfl rfl rfl rfl rfl rfl hl.1 rfl (Nat.le_of_ble_eq_true rfl) d_De_read_8 ⟨Nat.le_of_ble_eq_true rfl, Nat.le_of_ble_eq_true rfl⟩) (fun u7 Hn locsn hw7 hPn hDn hSn => ?_)
    replace hok := hok u7 hw7
    clear hP hD hS
    have hP : va_P E.1 classes [(ac, .inl (E.2.1 0, nc, .inl st.2.2)), (hd, .inr (3, [.ref h, .int u7.1.1, .int (bI u7.1.2.1), .int (bI u7.1.2.2.1), .int u7.1.2.2.2.1, .int u7.1.2.2.2.2.1, .int u7.1.2.2.2.2.2.1, .int u7.1.2.2.2.2.2.2.1, .int u7.1.2.2.2.2.2.2.2.1, .int u7.1.2.2.2.2.2.2.2.2.1, .int u7.1.2.2.2.2.2.2.2.2.2])), (h, .inr (0, [.ref a1, .ref a2, .ref a3, .int u7.2.1, .int u7.2.2.1, .int u7.2.2.2.1])), (a1, .inl (E.2.1 0, 42000, .inl u7.2.2.2.2.1)), (a2, .inl (E.2.1 0, 513, .inl u7.2.2.2.2.2.1)), (a3, .inl (E.2.1 1, 513, .inl u7.2.2.2.2.2.2))] Hn := hPn
    have hD : va_D A [(ac, .inl (E.2.1 0, nc, .inl st.2.2)), (hd, .inr (3, [.ref h, .int u7.1.1, .int (bI u7.1.2.1), .int (bI u7.1.2.2.1), .int u7.1.2.2.2.1, .int u7.1.2.2.2.2.1, .int u7.1.2.2.2.2.2.1, .int u7.1.2.2.2.2.2.2.1, .int u7.1.2.2.2.2.2.2.2.1, .int u7.1.2.2.2.2.2.2.2.2.1, .int u7.1.2.2.2.2.2.2.2.2.2])), (h, .inr (0, [.ref a1, .ref a2, .ref a3, .int u7.2.1, .int u7.2.2.1, .int u7.2.2.2.1])), (a1, .inl (E.2.1 0, 42000, .inl u7.2.2.2.2.1)), (a2, .inl (E.2.1 0, 513, .inl u7.2.2.2.2.2.1)), (a3, .inl (E.2.1 1, 513, .inl u7.2.2.2.2.2.2))] := hDn
    have hS := hSn
    clear hPn hDn hSn
    refine lv_aload_n hx hb d_De_read_11 rfl (lv_at hl 0 rfl) ?_
    refine va_get (D := E.1) (ci := 3) (v := .int (bI u7.1.2.1)) (C := R_De) (T := T_De) (N := 11) hx hb hts in_De hown hK hP 1 rfl rfl 2 (by decide) (hts _ m_119) (fun _ h9 => h9) rfl d_De_read_12 ?_
    refine lv_if_eq (tgt := 25) hx hb d_De_read_15 (by decide) (fun c8 => ?_) (fun c8 => ?_)
    · replace hok := hok.1 c8
      refine lv_aload_n hx hb d_De_read_25 rfl (lv_at hl 0 rfl) ?_
      refine lv_aload_n hx hb d_De_read_26 rfl (lv_at hl 1 rfl) ?_
      refine lv_iload_n hx hb d_De_read_27 rfl (lv_at hl 2 rfl) ?_
      obtain ⟨hk9, hok⟩ := hok
      refine ar_usei (wr := []) hP hD hS hA [1, 2, 3, 4, 5, 0] [] rfl rfl rfl (by decide) (ar_runV (n := 2) (As := [.ref ac, .int p1]) (rest := []) (ci := 3) (q0 := 0) hx hb hml hown hts hP hD hS hA hK hZ (c_De_readCoded l E _ hd h a1 a2 a3 ac nc (u7.1, u7.2, st.2.2) p1 hk9) m_522 m_524 ms_15 m_6 m_525 (by decide +kernel) ⟨Nat.le_of_ble_eq_true rfl, Nat.le_of_ble_eq_true rfl⟩ [1, 2, 3, 4, 5, 0] rfl rfl rfl rfl rfl rfl rfl hl.1 rfl (Nat.le_of_ble_eq_true rfl) d_De_read_28 ⟨Nat.le_of_ble_eq_true rfl, Nat.le_of_ble_eq_true rfl⟩) (fun r10 u10 Hn locsn hw10 hPn hDn hSn => ?_)
      obtain ⟨hw10a, hw10b⟩ := hw10
      replace hok := hok r10 hw10a
      replace hok := hok u10 hw10b
      clear hP hD hS
      have hP : va_P E.1 classes [(hd, .inr (3, [.ref h, .int u10.1.1, .int (bI u10.1.2.1), .int (bI u10.1.2.2.1), .int u10.1.2.2.2.1, .int u10.1.2.2.2.2.1, .int u10.1.2.2.2.2.2.1, .int u10.1.2.2.2.2.2.2.1, .int u10.1.2.2.2.2.2.2.2.1, .int u10.1.2.2.2.2.2.2.2.2.1, .int u10.1.2.2.2.2.2.2.2.2.2])), (h, .inr (0, [.ref a1, .ref a2, .ref a3, .int u10.2.1.1, .int u10.2.1.2.1, .int u10.2.1.2.2.1])), (a1, .inl (E.2.1 0, 42000, .inl u10.2.1.2.2.2.1)), (a2, .inl (E.2.1 0, 513, .inl u10.2.1.2.2.2.2.1)), (a3, .inl (E.2.1 1, 513, .inl u10.2.1.2.2.2.2.2)), (ac, .inl (E.2.1 0, nc, .inl u10.2.2))] Hn := hPn
      have hD : va_D A [(hd, .inr (3, [.ref h, .int u10.1.1, .int (bI u10.1.2.1), .int (bI u10.1.2.2.1), .int u10.1.2.2.2.1, .int u10.1.2.2.2.2.1, .int u10.1.2.2.2.2.2.1, .int u10.1.2.2.2.2.2.2.1, .int u10.1.2.2.2.2.2.2.2.1, .int u10.1.2.2.2.2.2.2.2.2.1, .int u10.1.2.2.2.2.2.2.2.2.2])), (h, .inr (0, [.ref a1, .ref a2, .ref a3, .int u10.2.1.1, .int u10.2.1.2.1, .int u10.2.1.2.2.1])), (a1, .inl (E.2.1 0, 42000, .inl u10.2.1.2.2.2.1)), (a2, .inl (E.2.1 0, 513, .inl u10.2.1.2.2.2.2.1)), (a3, .inl (E.2.1 1, 513, .inl u10.2.1.2.2.2.2.2)), (ac, .inl (E.2.1 0, nc, .inl u10.2.2))] := hDn
      have hS := hSn
      clear hPn hDn hSn
      exact ar_iret hx hb hr hlocks hK hS u10 (by subst hw10b; subst hw10a; subst hw7; exact pr_of (Eq.trans (f_De_read_s nc p1 st) (Eq.trans (if_pos c1) (Eq.trans (if_pos c8) rfl)))) hP hD d_De_read_31
    · replace hok := hok.2 c8
      refine lv_aload_n hx hb d_De_read_18 rfl (lv_at hl 0 rfl) ?_
      refine ar_usei (wr := [(ac, .inl (E.2.1 0, nc, .inl st.2.2))]) hP hD hS hA [1, 2, 3, 4, 5] [0] rfl rfl rfl (by decide) (ar_runV (n := 0) (As := []) (rest := []) (ci := 3) (q0 := 0) hx hb hml hown hts hP hD hS hA hK hZ (c_De_readPlain l E _ hd h a1 a2 a3 u7  ) m_518 m_520 ms_14 m_6 m_521 (by decide +kernel) ⟨Nat.le_of_ble_eq_true rfl, Nat.le_of_ble_eq_true rfl⟩ [1, 2, 3, 4, 5] rfl rfl rfl rfl rfl rfl rfl hl.1 rfl (Nat.le_of_ble_eq_true rfl) d_De_read_19 ⟨Nat.le_of_ble_eq_true rfl, Nat.le_of_ble_eq_true rfl⟩) (fun r11 u11 Hn locsn hw11 hPn hDn hSn => ?_)
      obtain ⟨hw11a, hw11b⟩ := hw11
      replace hok := hok r11 hw11a
      replace hok := hok u11 hw11b
      clear hP hD hS
      have hP : va_P E.1 classes [(ac, .inl (E.2.1 0, nc, .inl st.2.2)), (hd, .inr (3, [.ref h, .int u11.1.1, .int (bI u11.1.2.1), .int (bI u11.1.2.2.1), .int u11.1.2.2.2.1, .int u11.1.2.2.2.2.1, .int u11.1.2.2.2.2.2.1, .int u11.1.2.2.2.2.2.2.1, .int u11.1.2.2.2.2.2.2.2.1, .int u11.1.2.2.2.2.2.2.2.2.1, .int u11.1.2.2.2.2.2.2.2.2.2])), (h, .inr (0, [.ref a1, .ref a2, .ref a3, .int u11.2.1, .int u11.2.2.1, .int u11.2.2.2.1])), (a1, .inl (E.2.1 0, 42000, .inl u11.2.2.2.2.1)), (a2, .inl (E.2.1 0, 513, .inl u11.2.2.2.2.2.1)), (a3, .inl (E.2.1 1, 513, .inl u11.2.2.2.2.2.2))] Hn := hPn
      have hD : va_D A [(ac, .inl (E.2.1 0, nc, .inl st.2.2)), (hd, .inr (3, [.ref h, .int u11.1.1, .int (bI u11.1.2.1), .int (bI u11.1.2.2.1), .int u11.1.2.2.2.1, .int u11.1.2.2.2.2.1, .int u11.1.2.2.2.2.2.1, .int u11.1.2.2.2.2.2.2.1, .int u11.1.2.2.2.2.2.2.2.1, .int u11.1.2.2.2.2.2.2.2.2.1, .int u11.1.2.2.2.2.2.2.2.2.2])), (h, .inr (0, [.ref a1, .ref a2, .ref a3, .int u11.2.1, .int u11.2.2.1, .int u11.2.2.2.1])), (a1, .inl (E.2.1 0, 42000, .inl u11.2.2.2.2.1)), (a2, .inl (E.2.1 0, 513, .inl u11.2.2.2.2.2.1)), (a3, .inl (E.2.1 1, 513, .inl u11.2.2.2.2.2.2))] := hDn
      have hS := hSn
      clear hPn hDn hSn
      refine lv_goto (tgt := 31) hx hb d_De_read_22 (by decide) ?_
      replace hP := hP.sub (ws' := [(hd, .inr (3, [.ref h, .int u11.1.1, .int (bI u11.1.2.1), .int (bI u11.1.2.2.1), .int u11.1.2.2.2.1, .int u11.1.2.2.2.2.1, .int u11.1.2.2.2.2.2.1, .int u11.1.2.2.2.2.2.2.1, .int u11.1.2.2.2.2.2.2.2.1, .int u11.1.2.2.2.2.2.2.2.2.1, .int u11.1.2.2.2.2.2.2.2.2.2])), (h, .inr (0, [.ref a1, .ref a2, .ref a3, .int u11.2.1, .int u11.2.2.1, .int u11.2.2.2.1])), (a1, .inl (E.2.1 0, 42000, .inl u11.2.2.2.2.1)), (a2, .inl (E.2.1 0, 513, .inl u11.2.2.2.2.2.1)), (a3, .inl (E.2.1 1, 513, .inl u11.2.2.2.2.2.2)), (ac, .inl (E.2.1 0, nc, .inl st.2.2))]) [1, 2, 3, 4, 5, 0] rfl
      replace hD := hD.sub (ws' := [(hd, .inr (3, [.ref h, .int u11.1.1, .int (bI u11.1.2.1), .int (bI u11.1.2.2.1), .int u11.1.2.2.2.1, .int u11.1.2.2.2.2.1, .int u11.1.2.2.2.2.2.1, .int u11.1.2.2.2.2.2.2.1, .int u11.1.2.2.2.2.2.2.2.1, .int u11.1.2.2.2.2.2.2.2.2.1, .int u11.1.2.2.2.2.2.2.2.2.2])), (h, .inr (0, [.ref a1, .ref a2, .ref a3, .int u11.2.1, .int u11.2.2.1, .int u11.2.2.2.1])), (a1, .inl (E.2.1 0, 42000, .inl u11.2.2.2.2.1)), (a2, .inl (E.2.1 0, 513, .inl u11.2.2.2.2.2.1)), (a3, .inl (E.2.1 1, 513, .inl u11.2.2.2.2.2.2)), (ac, .inl (E.2.1 0, nc, .inl st.2.2))]) [1, 2, 3, 4, 5, 0] (by decide) rfl
      exact ar_iret hx hb hr hlocks hK hS (u11.1, u11.2, st.2.2) (by subst hw11b; subst hw11a; subst hw7; exact pr_of (Eq.trans (f_De_read_s nc p1 st) (Eq.trans (if_pos c1) (Eq.trans (if_neg c8) rfl)))) hP hD d_De_read_31
