/-! Row: contracts -/
noncomputable def f_Ro_clear  (st : RoS) : RoS :=
  (0, 1, 0, st.2.2.2.1, st.2.2.2.2.1, st.2.2.2.2.2)
theorem f_Ro_clear_s  (st : RoS) : f_Ro_clear  st = ((
  (0, 1, 0, st.2.2.2.1, st.2.2.2.2.1, st.2.2.2.2.2)
  : RoS)) := rfl
set_option maxHeartbeats 4000000 in
set_option maxRecDepth 100000 in
theorem c_Ro_clear (l : Launch) (E : Ev) (A : Nat → Prop) (h a1 a2 a3 : Nat) (st : RoS)   :
    Kt l y_Ro_clear b_Ro_clear 1 none 0 0 0 E A [.ref h] [(h, .inr (0, [.ref a1, .ref a2, .ref a3, .int st.1, .int st.2.1, .int st.2.2.1])), (a1, .inl (E.2.1 0, 42000, .inl st.2.2.2.1)), (a2, .inl (E.2.1 0, 513, .inl st.2.2.2.2.1)), (a3, .inl (E.2.1 1, 513, .inl st.2.2.2.2.2))] (va_Qv (fun u : RoS => u = f_Ro_clear  st) (ar_W E A (fun u : RoS => [(h, .inr (0, [.ref a1, .ref a2, .ref a3, .int u.1, .int u.2.1, .int u.2.2.1])), (a1, .inl (E.2.1 0, 42000, .inl u.2.2.2.1)), (a2, .inl (E.2.1 0, 513, .inl u.2.2.2.2.1)), (a3, .inl (E.2.1 1, 513, .inl u.2.2.2.2.2))])) A) := by
  refine Kt.of (by decide) (Nat.le_of_ble_eq_true rfl) ?_
  intro p e s m below meth c ls hx hb hml hown hts hr hlocks hex hin hA hZ hP hK hD hl
  have hS : va_S A s.heap s.heap [] := va_S.rf
  have hl : lv_has ls 1 [(0, .ref h)] := hl
  refine lv_aload_n hx hb d_Ro_clear_0 rfl (lv_at hl 0 rfl) ?_
  refine lv_iconst (v := 0) hx hb d_Ro_clear_1 (by decide) ?_
  refine va_put (D := E.1) (ci := 0) (v := .int 0) (ty := .int) (C := R_Ro) (T := T_Ro) (N := 6) hx hb hts in_Ro t_Ro t_Ro_ok n_Ro hown hK hP hD hS 0 rfl rfl 3 (by decide) (hts _ m_58) (fun _ h9 => h9) rfl (by decide +kernel) rfl rfl (Nat.le_of_ble_eq_true rfl) d_Ro_clear_2 (fun Hn locsn hPn hDn hSn => ?_)
  clear hP hD hS
  have hP : va_P E.1 classes [(h, .inr (0, [.ref a1, .ref a2, .ref a3, .int 0, .int st.2.1, .int st.2.2.1])), (a1, .inl (E.2.1 0, 42000, .inl st.2.2.2.1)), (a2, .inl (E.2.1 0, 513, .inl st.2.2.2.2.1)), (a3, .inl (E.2.1 1, 513, .inl st.2.2.2.2.2))] Hn := hPn
  have hD : va_D A [(h, .inr (0, [.ref a1, .ref a2, .ref a3, .int 0, .int st.2.1, .int st.2.2.1])), (a1, .inl (E.2.1 0, 42000, .inl st.2.2.2.1)), (a2, .inl (E.2.1 0, 513, .inl st.2.2.2.2.1)), (a3, .inl (E.2.1 1, 513, .inl st.2.2.2.2.2))] := hDn
  have hS := hSn
  clear hPn hDn hSn
  refine lv_aload_n hx hb d_Ro_clear_5 rfl (lv_at hl 0 rfl) ?_
  refine lv_iconst (v := 1) hx hb d_Ro_clear_6 (by decide) ?_
  refine va_put (D := E.1) (ci := 0) (v := .int 1) (ty := .int) (C := R_Ro) (T := T_Ro) (N := 6) hx hb hts in_Ro t_Ro t_Ro_ok n_Ro hown hK hP hD hS 0 rfl rfl 4 (by decide) (hts _ m_59) (fun _ h9 => h9) rfl (by decide +kernel) rfl rfl (Nat.le_of_ble_eq_true rfl) d_Ro_clear_7 (fun Hn locsn hPn hDn hSn => ?_)
  clear hP hD hS
  have hP : va_P E.1 classes [(h, .inr (0, [.ref a1, .ref a2, .ref a3, .int 0, .int 1, .int st.2.2.1])), (a1, .inl (E.2.1 0, 42000, .inl st.2.2.2.1)), (a2, .inl (E.2.1 0, 513, .inl st.2.2.2.2.1)), (a3, .inl (E.2.1 1, 513, .inl st.2.2.2.2.2))] Hn := hPn
  have hD : va_D A [(h, .inr (0, [.ref a1, .ref a2, .ref a3, .int 0, .int 1, .int st.2.2.1])), (a1, .inl (E.2.1 0, 42000, .inl st.2.2.2.1)), (a2, .inl (E.2.1 0, 513, .inl st.2.2.2.2.1)), (a3, .inl (E.2.1 1, 513, .inl st.2.2.2.2.2))] := hDn
  have hS := hSn
  clear hPn hDn hSn
  refine lv_aload_n hx hb d_Ro_clear_10 rfl (lv_at hl 0 rfl) ?_
  refine lv_iconst (v := 0) hx hb d_Ro_clear_11 (by decide) ?_
  refine va_put (D := E.1) (ci := 0) (v := .int 0) (ty := .int) (C := R_Ro) (T := T_Ro) (N := 6) hx hb hts in_Ro t_Ro t_Ro_ok n_Ro hown hK hP hD hS 0 rfl rfl 5 (by decide) (hts _ m_60) (fun _ h9 => h9) rfl (by decide +kernel) rfl rfl (Nat.le_of_ble_eq_true rfl) d_Ro_clear_12 (fun Hn locsn hPn hDn hSn => ?_)
  clear hP hD hS
  have hP : va_P E.1 classes [(h, .inr (0, [.ref a1, .ref a2, .ref a3, .int 0, .int 1, .int 0])), (a1, .inl (E.2.1 0, 42000, .inl st.2.2.2.1)), (a2, .inl (E.2.1 0, 513, .inl st.2.2.2.2.1)), (a3, .inl (E.2.1 1, 513, .inl st.2.2.2.2.2))] Hn := hPn
  have hD : va_D A [(h, .inr (0, [.ref a1, .ref a2, .ref a3, .int 0, .int 1, .int 0])), (a1, .inl (E.2.1 0, 42000, .inl st.2.2.2.1)), (a2, .inl (E.2.1 0, 513, .inl st.2.2.2.2.1)), (a3, .inl (E.2.1 1, 513, .inl st.2.2.2.2.2))] := hDn
  have hS := hSn
  clear hPn hDn hSn
  exact ar_vret hx hb hr hlocks hK hS (0, 1, 0, st.2.2.2.1, st.2.2.2.2.1, st.2.2.2.2.2) (by exact Eq.symm (Eq.trans (f_Ro_clear_s  st) rfl)) hP hD d_Ro_clear_15

noncomputable def f_Ro_length  (st : RoS) : Int32 :=
  st.1
theorem f_Ro_length_s  (st : RoS) : f_Ro_length  st = ((
  st.1
  : Int32)) := rfl
set_option maxHeartbeats 4000000 in
set_option maxRecDepth 100000 in
theorem c_Ro_length (l : Launch) (E : Ev) (A : Nat → Prop) (h a1 a2 a3 : Nat) (st : RoS)   :
    Kt l y_Ro_length b_Ro_length 1 (some .int) 0 0 0 E A [.ref h] [(h, .inr (0, [.ref a1, .ref a2, .ref a3, .int st.1, .int st.2.1, .int st.2.2.1])), (a1, .inl (E.2.1 0, 42000, .inl st.2.2.2.1)), (a2, .inl (E.2.1 0, 513, .inl st.2.2.2.2.1)), (a3, .inl (E.2.1 1, 513, .inl st.2.2.2.2.2))] (va_Qi (fun (r : Int32) (_ : Unit) => r = f_Ro_length  st) (ar_W E A (fun _ : Unit => [(h, .inr (0, [.ref a1, .ref a2, .ref a3, .int st.1, .int st.2.1, .int st.2.2.1])), (a1, .inl (E.2.1 0, 42000, .inl st.2.2.2.1)), (a2, .inl (E.2.1 0, 513, .inl st.2.2.2.2.1)), (a3, .inl (E.2.1 1, 513, .inl st.2.2.2.2.2))])) A) := by
  refine Kt.of (by decide) (Nat.le_of_ble_eq_true rfl) ?_
  intro p e s m below meth c ls hx hb hml hown hts hr hlocks hex hin hA hZ hP hK hD hl
  have hS : va_S A s.heap s.heap [] := va_S.rf
  have hl : lv_has ls 1 [(0, .ref h)] := hl
  refine lv_aload_n hx hb d_Ro_length_0 rfl (lv_at hl 0 rfl) ?_
  refine va_get (D := E.1) (ci := 0) (v := .int st.1) (C := R_Ro) (T := T_Ro) (N := 6) hx hb hts in_Ro hown hK hP 0 rfl rfl 3 (by decide) (hts _ m_58) (fun _ h9 => h9) rfl d_Ro_length_1 ?_
  exact ar_iret hx hb hr hlocks hK hS () (by exact Eq.symm (Eq.trans (f_Ro_length_s  st) rfl)) hP hD d_Ro_length_4

noncomputable def f_Ro_segmentCount  (st : RoS) : Int32 :=
  st.2.1
theorem f_Ro_segmentCount_s  (st : RoS) : f_Ro_segmentCount  st = ((
  st.2.1
  : Int32)) := rfl
set_option maxHeartbeats 4000000 in
set_option maxRecDepth 100000 in
theorem c_Ro_segmentCount (l : Launch) (E : Ev) (A : Nat → Prop) (h a1 a2 a3 : Nat) (st : RoS)   :
    Kt l y_Ro_segmentCount b_Ro_segmentCount 1 (some .int) 0 0 0 E A [.ref h] [(h, .inr (0, [.ref a1, .ref a2, .ref a3, .int st.1, .int st.2.1, .int st.2.2.1])), (a1, .inl (E.2.1 0, 42000, .inl st.2.2.2.1)), (a2, .inl (E.2.1 0, 513, .inl st.2.2.2.2.1)), (a3, .inl (E.2.1 1, 513, .inl st.2.2.2.2.2))] (va_Qi (fun (r : Int32) (_ : Unit) => r = f_Ro_segmentCount  st) (ar_W E A (fun _ : Unit => [(h, .inr (0, [.ref a1, .ref a2, .ref a3, .int st.1, .int st.2.1, .int st.2.2.1])), (a1, .inl (E.2.1 0, 42000, .inl st.2.2.2.1)), (a2, .inl (E.2.1 0, 513, .inl st.2.2.2.2.1)), (a3, .inl (E.2.1 1, 513, .inl st.2.2.2.2.2))])) A) := by
  refine Kt.of (by decide) (Nat.le_of_ble_eq_true rfl) ?_
  intro p e s m below meth c ls hx hb hml hown hts hr hlocks hex hin hA hZ hP hK hD hl
  have hS : va_S A s.heap s.heap [] := va_S.rf
  have hl : lv_has ls 1 [(0, .ref h)] := hl
  refine lv_aload_n hx hb d_Ro_segmentCount_0 rfl (lv_at hl 0 rfl) ?_
  refine va_get (D := E.1) (ci := 0) (v := .int st.2.1) (C := R_Ro) (T := T_Ro) (N := 6) hx hb hts in_Ro hown hK hP 0 rfl rfl 4 (by decide) (hts _ m_59) (fun _ h9 => h9) rfl d_Ro_segmentCount_1 ?_
  exact ar_iret hx hb hr hlocks hK hS () (by exact Eq.symm (Eq.trans (f_Ro_segmentCount_s  st) rfl)) hP hD d_Ro_segmentCount_4

noncomputable def f_Ro_has (p0 : Int32) (st : RoS) : Bool :=
  if p0 < 0 then
    false
  else
    if st.2.1 ≤ p0 then
      false
    else
      if 513 ≤ p0 then
        false
      else
        true
theorem f_Ro_has_s (p0 : Int32) (st : RoS) : f_Ro_has p0 st = ((
  if p0 < 0 then
    false
  else
    if st.2.1 ≤ p0 then
      false
    else
      if 513 ≤ p0 then
        false
      else
        true
  : Bool)) := rfl
set_option maxHeartbeats 4000000 in
set_option maxRecDepth 100000 in
theorem c_Ro_has (l : Launch) (E : Ev) (A : Nat → Prop) (h a1 a2 a3 : Nat) (st : RoS) (p0 : Int32)  :
    Kt l y_Ro_has b_Ro_has 2 (some .boolean) 0 0 0 E A [.ref h, .int p0] [(h, .inr (0, [.ref a1, .ref a2, .ref a3, .int st.1, .int st.2.1, .int st.2.2.1])), (a1, .inl (E.2.1 0, 42000, .inl st.2.2.2.1)), (a2, .inl (E.2.1 0, 513, .inl st.2.2.2.2.1)), (a3, .inl (E.2.1 1, 513, .inl st.2.2.2.2.2))] (va_Qi (fun (r : Int32) (_ : Unit) => r = bI (f_Ro_has p0 st)) (ar_W E A (fun _ : Unit => [(h, .inr (0, [.ref a1, .ref a2, .ref a3, .int st.1, .int st.2.1, .int st.2.2.1])), (a1, .inl (E.2.1 0, 42000, .inl st.2.2.2.1)), (a2, .inl (E.2.1 0, 513, .inl st.2.2.2.2.1)), (a3, .inl (E.2.1 1, 513, .inl st.2.2.2.2.2))])) A) := by
  refine Kt.of (by decide) (Nat.le_of_ble_eq_true rfl) ?_
  intro p e s m below meth c ls hx hb hml hown hts hr hlocks hex hin hA hZ hP hK hD hl
  have hS : va_S A s.heap s.heap [] := va_S.rf
  have hl : lv_has ls 2 [(0, .ref h), (1, .int p0)] := hl
  refine lv_iload_n hx hb d_Ro_has_0 rfl (lv_at hl 1 rfl) ?_
  refine lv_if_lt (tgt := 23) hx hb d_Ro_has_1 (by decide) (fun c1 => ?_) (fun c1 => ?_)
  · skip
    refine lv_iconst (v := 0) hx hb d_Ro_has_23 (by decide) ?_
    exact ar_zret hx hb hr hlocks hK hS () (by exact zr_of (b := false) (Eq.trans (f_Ro_has_s p0 st) (Eq.trans (if_pos c1) rfl)) rfl) hP hD rfl d_Ro_has_24
  · skip
    refine lv_iload_n hx hb d_Ro_has_4 rfl (lv_at hl 1 rfl) ?_
    refine lv_aload_n hx hb d_Ro_has_5 rfl (lv_at hl 0 rfl) ?_
    refine va_get (D := E.1) (ci := 0) (v := .int st.2.1) (C := R_Ro) (T := T_Ro) (N := 6) hx hb hts in_Ro hown hK hP 0 rfl rfl 4 (by decide) (hts _ m_59) (fun _ h9 => h9) rfl d_Ro_has_6 ?_
    refine lv_icmp_ge (tgt := 23) hx hb d_Ro_has_9 (by decide) (fun c2 => ?_) (fun c2 => ?_)
    · skip
      refine lv_iconst (v := 0) hx hb d_Ro_has_23 (by decide) ?_
      exact ar_zret hx hb hr hlocks hK hS () (by exact zr_of (b := false) (Eq.trans (f_Ro_has_s p0 st) (Eq.trans (if_neg c1) (Eq.trans (if_pos c2) rfl))) rfl) hP hD rfl d_Ro_has_24
    · skip
      refine lv_iload_n hx hb d_Ro_has_12 rfl (lv_at hl 1 rfl) ?_
      refine lv_sipush (v := 513) hx hb d_Ro_has_13 (by decide) ?_
      refine lv_icmp_ge (tgt := 23) hx hb d_Ro_has_16 (by decide) (fun c3 => ?_) (fun c3 => ?_)
      · skip
        refine lv_iconst (v := 0) hx hb d_Ro_has_23 (by decide) ?_
        exact ar_zret hx hb hr hlocks hK hS () (by exact zr_of (b := false) (Eq.trans (f_Ro_has_s p0 st) (Eq.trans (if_neg c1) (Eq.trans (if_neg c2) (Eq.trans (if_pos c3) rfl)))) rfl) hP hD rfl d_Ro_has_24
      · skip
        refine lv_iconst (v := 1) hx hb d_Ro_has_19 (by decide) ?_
        refine lv_goto (tgt := 24) hx hb d_Ro_has_20 (by decide) ?_
        exact ar_zret hx hb hr hlocks hK hS () (by exact zr_of (b := true) (Eq.trans (f_Ro_has_s p0 st) (Eq.trans (if_neg c1) (Eq.trans (if_neg c2) (Eq.trans (if_neg c3) rfl)))) rfl) hP hD rfl d_Ro_has_24

theorem has_in {p0 : Int32} {st : RoS} {b : Bool} (h : b = f_Ro_has p0 st) (hb : ¬ bI b = 0) : vp_in p0 513 := by
  subst h
  rw [f_Ro_has_s] at hb
  by_cases h1 : p0 < 0
  · rw [if_pos h1] at hb; exact absurd rfl hb
  · rw [if_neg h1] at hb
    by_cases h2 : st.2.1 ≤ p0
    · rw [if_pos h2] at hb; exact absurd rfl hb
    · rw [if_neg h2] at hb
      by_cases h3 : (513 : Int32) ≤ p0
      · rw [if_pos h3] at hb; exact absurd rfl hb
      · exact in_le (k := 513) (by decide) h1 h3 (Int32.le_refl 513)

noncomputable def f_Ro_isPlain (p0 : Int32) (st : RoS) : Bool :=
  let b1 := f_Ro_has  p0 st
  if bI b1 = 0 then
    false
  else
    if (st.2.2.2.2.2 (Int32.toNatClampNeg p0)) = 0 then
      false
    else
      true
theorem f_Ro_isPlain_s (p0 : Int32) (st : RoS) : f_Ro_isPlain p0 st = ((
  let b1 := f_Ro_has  p0 st
  if bI b1 = 0 then
    false
  else
    if (st.2.2.2.2.2 (Int32.toNatClampNeg p0)) = 0 then
      false
    else
      true
  : Bool)) := rfl
set_option maxHeartbeats 4000000 in
set_option maxRecDepth 100000 in
theorem c_Ro_isPlain (l : Launch) (E : Ev) (A : Nat → Prop) (h a1 a2 a3 : Nat) (st : RoS) (p0 : Int32) (hsg : st.2.1 ≤ 513) :
    Kt l y_Ro_isPlain b_Ro_isPlain 2 (some .boolean) 1 0 0 E A [.ref h, .int p0] [(h, .inr (0, [.ref a1, .ref a2, .ref a3, .int st.1, .int st.2.1, .int st.2.2.1])), (a1, .inl (E.2.1 0, 42000, .inl st.2.2.2.1)), (a2, .inl (E.2.1 0, 513, .inl st.2.2.2.2.1)), (a3, .inl (E.2.1 1, 513, .inl st.2.2.2.2.2))] (va_Qi (fun (r : Int32) (_ : Unit) => r = bI (f_Ro_isPlain p0 st)) (ar_W E A (fun _ : Unit => [(h, .inr (0, [.ref a1, .ref a2, .ref a3, .int st.1, .int st.2.1, .int st.2.2.1])), (a1, .inl (E.2.1 0, 42000, .inl st.2.2.2.1)), (a2, .inl (E.2.1 0, 513, .inl st.2.2.2.2.1)), (a3, .inl (E.2.1 1, 513, .inl st.2.2.2.2.2))])) A) := by
  refine Kt.of (by decide) (Nat.le_of_ble_eq_true rfl) ?_
  intro p e s m below meth c ls hx hb hml hown hts hr hlocks hex hin hA hZ hP hK hD hl
  have hS : va_S A s.heap s.heap [] := va_S.rf
  have hl : lv_has ls 2 [(0, .ref h), (1, .int p0)] := hl
  refine lv_aload_n hx hb d_Ro_isPlain_0 rfl (lv_at hl 0 rfl) ?_
  refine lv_iload_n hx hb d_Ro_isPlain_1 rfl (lv_at hl 1 rfl) ?_
  refine ar_usei (wr := []) hP hD hS hA [0, 1, 2, 3] [] rfl rfl rfl (by decide) (ar_runV (n := 1) (As := [.int p0]) (rest := []) (ci := 0) (q0 := 0) hx hb hml hown hts hP hD hS hA hK hZ (c_Ro_has l E _ h a1 a2 a3 st p0 ) m_209 m_211 ms_1 m_4 m_212 (by decide +kernel) ⟨Nat.le_of_ble_eq_true rfl, Nat.le_of_ble_eq_true rfl⟩ [0, 1, 2, 3] rfl rfl rfl rfl rfl rfl rfl hl.1 rfl (Nat.le_of_ble_eq_true rfl) d_Ro_isPlain_2 ⟨Nat.le_of_ble_eq_true rfl, Nat.le_of_ble_eq_true rfl⟩) (fun r1 _ Hn locsn hw1 hPn hDn hSn => ?_)
  obtain ⟨b1, eb1⟩ : ∃ b : Bool, b = f_Ro_has  p0 st := ⟨_, rfl⟩
  rw [← eb1] at hw1
  subst hw1
  clear hP hD hS
  have hP : va_P E.1 classes [(h, .inr (0, [.ref a1, .ref a2, .ref a3, .int st.1, .int st.2.1, .int st.2.2.1])), (a1, .inl (E.2.1 0, 42000, .inl st.2.2.2.1)), (a2, .inl (E.2.1 0, 513, .inl st.2.2.2.2.1)), (a3, .inl (E.2.1 1, 513, .inl st.2.2.2.2.2))] Hn := hPn
  have hD : va_D A [(h, .inr (0, [.ref a1, .ref a2, .ref a3, .int st.1, .int st.2.1, .int st.2.2.1])), (a1, .inl (E.2.1 0, 42000, .inl st.2.2.2.1)), (a2, .inl (E.2.1 0, 513, .inl st.2.2.2.2.1)), (a3, .inl (E.2.1 1, 513, .inl st.2.2.2.2.2))] := hDn
  have hS := hSn
  clear hPn hDn hSn
  refine lv_if_eq (tgt := 21) hx hb d_Ro_isPlain_5 (by decide) (fun c2 => ?_) (fun c2 => ?_)
  · skip
    refine lv_iconst (v := 0) hx hb d_Ro_isPlain_21 (by decide) ?_
    exact ar_zret hx hb hr hlocks hK hS () (by subst eb1; exact zr_of (b := false) (Eq.trans (f_Ro_isPlain_s p0 st) (Eq.trans (if_pos c2) rfl)) rfl) hP hD rfl d_Ro_isPlain_22
  · skip
    refine lv_aload_n hx hb d_Ro_isPlain_8 rfl (lv_at hl 0 rfl) ?_
    refine va_get (D := E.1) (ci := 0) (v := .ref a3) (C := R_Ro) (T := T_Ro) (N := 6) hx hb hts in_Ro hown hK hP 0 rfl rfl 2 (by decide) (hts _ m_57) (fun _ h9 => h9) rfl d_Ro_isPlain_9 ?_
    refine lv_iload_n hx hb d_Ro_isPlain_12 rfl (lv_at hl 1 rfl) ?_
    refine va_zald (D := E.1) hx hb hK hP 3 1 rfl rfl (has_in eb1 (by assumption)) d_Ro_isPlain_13 ?_
    refine lv_if_eq (tgt := 21) hx hb d_Ro_isPlain_14 (by decide) (fun c3 => ?_) (fun c3 => ?_)
    · skip
      refine lv_iconst (v := 0) hx hb d_Ro_isPlain_21 (by decide) ?_
      exact ar_zret hx hb hr hlocks hK hS () (by subst eb1; exact zr_of (b := false) (Eq.trans (f_Ro_isPlain_s p0 st) (Eq.trans (if_neg c2) (Eq.trans (if_pos c3) rfl))) rfl) hP hD rfl d_Ro_isPlain_22
    · skip
      refine lv_iconst (v := 1) hx hb d_Ro_isPlain_17 (by decide) ?_
      refine lv_goto (tgt := 22) hx hb d_Ro_isPlain_18 (by decide) ?_
      exact ar_zret hx hb hr hlocks hK hS () (by subst eb1; exact zr_of (b := true) (Eq.trans (f_Ro_isPlain_s p0 st) (Eq.trans (if_neg c2) (Eq.trans (if_neg c3) rfl))) rfl) hP hD rfl d_Ro_isPlain_22

noncomputable def f_Ro_beginSegment (p0 : Bool) (st : RoS) : RoS :=
  if st.2.1 < 0 then
    st
  else
    if 513 ≤ st.2.1 then
      st
    else
      let x5 := (st.2.1 + 1)
      (st.1, x5, st.1, st.2.2.2.1, (upd st.2.2.2.2.1 (Int32.toNatClampNeg st.2.1) st.1), (upd st.2.2.2.2.2 (Int32.toNatClampNeg st.2.1) (bI p0)))
theorem f_Ro_beginSegment_s (p0 : Bool) (st : RoS) : f_Ro_beginSegment p0 st = ((
  if st.2.1 < 0 then
    st
  else
    if 513 ≤ st.2.1 then
      st
    else
      let x5 := (st.2.1 + 1)
      (st.1, x5, st.1, st.2.2.2.1, (upd st.2.2.2.2.1 (Int32.toNatClampNeg st.2.1) st.1), (upd st.2.2.2.2.2 (Int32.toNatClampNeg st.2.1) (bI p0)))
  : RoS)) := rfl
set_option maxHeartbeats 4000000 in
set_option maxRecDepth 100000 in
theorem c_Ro_beginSegment (l : Launch) (E : Ev) (A : Nat → Prop) (h a1 a2 a3 : Nat) (st : RoS) (p0 : Bool)  :
    Kt l y_Ro_beginSegment b_Ro_beginSegment 2 none 0 0 0 E A [.ref h, .int (bI p0)] [(h, .inr (0, [.ref a1, .ref a2, .ref a3, .int st.1, .int st.2.1, .int st.2.2.1])), (a1, .inl (E.2.1 0, 42000, .inl st.2.2.2.1)), (a2, .inl (E.2.1 0, 513, .inl st.2.2.2.2.1)), (a3, .inl (E.2.1 1, 513, .inl st.2.2.2.2.2))] (va_Qv (fun u : RoS => u = f_Ro_beginSegment p0 st) (ar_W E A (fun u : RoS => [(h, .inr (0, [.ref a1, .ref a2, .ref a3, .int u.1, .int u.2.1, .int u.2.2.1])), (a1, .inl (E.2.1 0, 42000, .inl u.2.2.2.1)), (a2, .inl (E.2.1 0, 513, .inl u.2.2.2.2.1)), (a3, .inl (E.2.1 1, 513, .inl u.2.2.2.2.2))])) A) := by
  refine Kt.of (by decide) (Nat.le_of_ble_eq_true rfl) ?_
  intro p e s m below meth c ls hx hb hml hown hts hr hlocks hex hin hA hZ hP hK hD hl
  have hS : va_S A s.heap s.heap [] := va_S.rf
  have hl : lv_has ls 2 [(0, .ref h), (1, .int (bI p0))] := hl
  refine lv_aload_n hx hb d_Ro_beginSegment_0 rfl (lv_at hl 0 rfl) ?_
  refine va_get (D := E.1) (ci := 0) (v := .int st.2.1) (C := R_Ro) (T := T_Ro) (N := 6) hx hb hts in_Ro hown hK hP 0 rfl rfl 4 (by decide) (hts _ m_59) (fun _ h9 => h9) rfl d_Ro_beginSegment_1 ?_
  refine lv_if_lt (tgt := 58) hx hb d_Ro_beginSegment_4 (by decide) (fun c1 => ?_) (fun c1 => ?_)
  · skip
    exact ar_vret hx hb hr hlocks hK hS st (by exact Eq.symm (Eq.trans (f_Ro_beginSegment_s p0 st) (Eq.trans (if_pos c1) rfl))) hP hD d_Ro_beginSegment_58
  · skip
    refine lv_aload_n hx hb d_Ro_beginSegment_7 rfl (lv_at hl 0 rfl) ?_
    refine va_get (D := E.1) (ci := 0) (v := .int st.2.1) (C := R_Ro) (T := T_Ro) (N := 6) hx hb hts in_Ro hown hK hP 0 rfl rfl 4 (by decide) (hts _ m_59) (fun _ h9 => h9) rfl d_Ro_beginSegment_8 ?_
    refine lv_sipush (v := 513) hx hb d_Ro_beginSegment_11 (by decide) ?_
    refine lv_icmp_ge (tgt := 58) hx hb d_Ro_beginSegment_14 (by decide) (fun c2 => ?_) (fun c2 => ?_)
    · skip
      exact ar_vret hx hb hr hlocks hK hS st (by exact Eq.symm (Eq.trans (f_Ro_beginSegment_s p0 st) (Eq.trans (if_neg c1) (Eq.trans (if_pos c2) rfl)))) hP hD d_Ro_beginSegment_58
    · skip
      refine lv_aload_n hx hb d_Ro_beginSegment_17 rfl (lv_at hl 0 rfl) ?_
      refine va_get (D := E.1) (ci := 0) (v := .ref a2) (C := R_Ro) (T := T_Ro) (N := 6) hx hb hts in_Ro hown hK hP 0 rfl rfl 1 (by decide) (hts _ m_56) (fun _ h9 => h9) rfl d_Ro_beginSegment_18 ?_
      refine lv_aload_n hx hb d_Ro_beginSegment_21 rfl (lv_at hl 0 rfl) ?_
      refine va_get (D := E.1) (ci := 0) (v := .int st.2.1) (C := R_Ro) (T := T_Ro) (N := 6) hx hb hts in_Ro hown hK hP 0 rfl rfl 4 (by decide) (hts _ m_59) (fun _ h9 => h9) rfl d_Ro_beginSegment_22 ?_
      refine lv_aload_n hx hb d_Ro_beginSegment_25 rfl (lv_at hl 0 rfl) ?_
      refine va_get (D := E.1) (ci := 0) (v := .int st.1) (C := R_Ro) (T := T_Ro) (N := 6) hx hb hts in_Ro hown hK hP 0 rfl rfl 3 (by decide) (hts _ m_58) (fun _ h9 => h9) rfl d_Ro_beginSegment_26 ?_
      refine va_iast (D := E.1) (x := st.1) hx hb hK hP hD hS 2 0 rfl rfl (in_of (k := 513) (by decide) (by assumption) (by assumption)) d_Ro_beginSegment_29 (fun Hn locsn hPn hDn hSn => ?_)
      clear hP hD hS
      have hP : va_P E.1 classes [(h, .inr (0, [.ref a1, .ref a2, .ref a3, .int st.1, .int st.2.1, .int st.2.2.1])), (a1, .inl (E.2.1 0, 42000, .inl st.2.2.2.1)), (a2, .inl (E.2.1 0, 513, .inl (upd st.2.2.2.2.1 (Int32.toNatClampNeg st.2.1) st.1))), (a3, .inl (E.2.1 1, 513, .inl st.2.2.2.2.2))] Hn := hPn
      have hD : va_D A [(h, .inr (0, [.ref a1, .ref a2, .ref a3, .int st.1, .int st.2.1, .int st.2.2.1])), (a1, .inl (E.2.1 0, 42000, .inl st.2.2.2.1)), (a2, .inl (E.2.1 0, 513, .inl (upd st.2.2.2.2.1 (Int32.toNatClampNeg st.2.1) st.1))), (a3, .inl (E.2.1 1, 513, .inl st.2.2.2.2.2))] := hDn
      have hS := hSn
      clear hPn hDn hSn
      refine lv_aload_n hx hb d_Ro_beginSegment_30 rfl (lv_at hl 0 rfl) ?_
      refine va_get (D := E.1) (ci := 0) (v := .ref a3) (C := R_Ro) (T := T_Ro) (N := 6) hx hb hts in_Ro hown hK hP 0 rfl rfl 2 (by decide) (hts _ m_57) (fun _ h9 => h9) rfl d_Ro_beginSegment_31 ?_
      refine lv_aload_n hx hb d_Ro_beginSegment_34 rfl (lv_at hl 0 rfl) ?_
      refine va_get (D := E.1) (ci := 0) (v := .int st.2.1) (C := R_Ro) (T := T_Ro) (N := 6) hx hb hts in_Ro hown hK hP 0 rfl rfl 4 (by decide) (hts _ m_59) (fun _ h9 => h9) rfl d_Ro_beginSegment_35 ?_
      refine lv_iload_n hx hb d_Ro_beginSegment_38 rfl (lv_at hl 1 rfl) ?_
      refine va_zast (D := E.1) (x := bI p0) hx hb hK hP hD hS 3 1 rfl rfl (in_of (k := 513) (by decide) (by assumption) (by assumption)) d_Ro_beginSegment_39 (fun Hn locsn hPn hDn hSn => ?_)
      rw [bI_vp] at hPn hDn
      clear hP hD hS
      have hP : va_P E.1 classes [(h, .inr (0, [.ref a1, .ref a2, .ref a3, .int st.1, .int st.2.1, .int st.2.2.1])), (a1, .inl (E.2.1 0, 42000, .inl st.2.2.2.1)), (a2, .inl (E.2.1 0, 513, .inl (upd st.2.2.2.2.1 (Int32.toNatClampNeg st.2.1) st.1))), (a3, .inl (E.2.1 1, 513, .inl (upd st.2.2.2.2.2 (Int32.toNatClampNeg st.2.1) (bI p0))))] Hn := hPn
      have hD : va_D A [(h, .inr (0, [.ref a1, .ref a2, .ref a3, .int st.1, .int st.2.1, .int st.2.2.1])), (a1, .inl (E.2.1 0, 42000, .inl st.2.2.2.1)), (a2, .inl (E.2.1 0, 513, .inl (upd st.2.2.2.2.1 (Int32.toNatClampNeg st.2.1) st.1))), (a3, .inl (E.2.1 1, 513, .inl (upd st.2.2.2.2.2 (Int32.toNatClampNeg st.2.1) (bI p0))))] := hDn
      have hS := hSn
      clear hPn hDn hSn
      refine lv_aload_n hx hb d_Ro_beginSegment_40 rfl (lv_at hl 0 rfl) ?_
      refine lv_aload_n hx hb d_Ro_beginSegment_41 rfl (lv_at hl 0 rfl) ?_
      refine va_get (D := E.1) (ci := 0) (v := .int st.1) (C := R_Ro) (T := T_Ro) (N := 6) hx hb hts in_Ro hown hK hP 0 rfl rfl 3 (by decide) (hts _ m_58) (fun _ h9 => h9) rfl d_Ro_beginSegment_42 ?_
      refine va_put (D := E.1) (ci := 0) (v := .int st.1) (ty := .int) (C := R_Ro) (T := T_Ro) (N := 6) hx hb hts in_Ro t_Ro t_Ro_ok n_Ro hown hK hP hD hS 0 rfl rfl 5 (by decide) (hts _ m_60) (fun _ h9 => h9) rfl (by decide +kernel) rfl rfl (Nat.le_of_ble_eq_true rfl) d_Ro_beginSegment_45 (fun Hn locsn hPn hDn hSn => ?_)
      clear hP hD hS
      have hP : va_P E.1 classes [(h, .inr (0, [.ref a1, .ref a2, .ref a3, .int st.1, .int st.2.1, .int st.1])), (a1, .inl (E.2.1 0, 42000, .inl st.2.2.2.1)), (a2, .inl (E.2.1 0, 513, .inl (upd st.2.2.2.2.1 (Int32.toNatClampNeg st.2.1) st.1))), (a3, .inl (E.2.1 1, 513, .inl (upd st.2.2.2.2.2 (Int32.toNatClampNeg st.2.1) (bI p0))))] Hn := hPn
      have hD : va_D A [(h, .inr (0, [.ref a1, .ref a2, .ref a3, .int st.1, .int st.2.1, .int st.1])), (a1, .inl (E.2.1 0, 42000, .inl st.2.2.2.1)), (a2, .inl (E.2.1 0, 513, .inl (upd st.2.2.2.2.1 (Int32.toNatClampNeg st.2.1) st.1))), (a3, .inl (E.2.1 1, 513, .inl (upd st.2.2.2.2.2 (Int32.toNatClampNeg st.2.1) (bI p0))))] := hDn
      have hS := hSn
      clear hPn hDn hSn
      refine lv_aload_n hx hb d_Ro_beginSegment_48 rfl (lv_at hl 0 rfl) ?_
      refine lv_dup hx hb d_Ro_beginSegment_49 rfl ?_
      refine va_get (D := E.1) (ci := 0) (v := .int st.2.1) (C := R_Ro) (T := T_Ro) (N := 6) hx hb hts in_Ro hown hK hP 0 rfl rfl 4 (by decide) (hts _ m_59) (fun _ h9 => h9) rfl d_Ro_beginSegment_50 ?_
      refine lv_iconst (v := 1) hx hb d_Ro_beginSegment_53 (by decide) ?_
      refine lv_iadd hx hb d_Ro_beginSegment_54 ?_
      refine lv_topi (fun x5 ex5 => ?_)
      refine va_put (D := E.1) (ci := 0) (v := .int x5) (ty := .int) (C := R_Ro) (T := T_Ro) (N := 6) hx hb hts in_Ro t_Ro t_Ro_ok n_Ro hown hK hP hD hS 0 rfl rfl 4 (by decide) (hts _ m_59) (fun _ h9 => h9) rfl (by decide +kernel) rfl rfl (Nat.le_of_ble_eq_true rfl) d_Ro_beginSegment_55 (fun Hn locsn hPn hDn hSn => ?_)
      clear hP hD hS
      have hP : va_P E.1 classes [(h, .inr (0, [.ref a1, .ref a2, .ref a3, .int st.1, .int x5, .int st.1])), (a1, .inl (E.2.1 0, 42000, .inl st.2.2.2.1)), (a2, .inl (E.2.1 0, 513, .inl (upd st.2.2.2.2.1 (Int32.toNatClampNeg st.2.1) st.1))), (a3, .inl (E.2.1 1, 513, .inl (upd st.2.2.2.2.2 (Int32.toNatClampNeg st.2.1) (bI p0))))] Hn := hPn
      have hD : va_D A [(h, .inr (0, [.ref a1, .ref a2, .ref a3, .int st.1, .int x5, .int st.1])), (a1, .inl (E.2.1 0, 42000, .inl st.2.2.2.1)), (a2, .inl (E.2.1 0, 513, .inl (upd st.2.2.2.2.1 (Int32.toNatClampNeg st.2.1) st.1))), (a3, .inl (E.2.1 1, 513, .inl (upd st.2.2.2.2.2 (Int32.toNatClampNeg st.2.1) (bI p0))))] := hDn
      have hS := hSn
      clear hPn hDn hSn
      exact ar_vret hx hb hr hlocks hK hS (st.1, x5, st.1, st.2.2.2.1, (upd st.2.2.2.2.1 (Int32.toNatClampNeg st.2.1) st.1), (upd st.2.2.2.2.2 (Int32.toNatClampNeg st.2.1) (bI p0))) (by subst ex5; exact Eq.symm (Eq.trans (f_Ro_beginSegment_s p0 st) (Eq.trans (if_neg c1) (Eq.trans (if_neg c2) rfl)))) hP hD d_Ro_beginSegment_58

noncomputable def f_Ro_startOf (p0 : Int32) (st : RoS) : Int32 :=
  let b1 := f_Ro_has  p0 st
  if bI b1 = 0 then
    st.1
  else
    (st.2.2.2.2.1 (Int32.toNatClampNeg p0))
theorem f_Ro_startOf_s (p0 : Int32) (st : RoS) : f_Ro_startOf p0 st = ((
  let b1 := f_Ro_has  p0 st
  if bI b1 = 0 then
    st.1
  else
    (st.2.2.2.2.1 (Int32.toNatClampNeg p0))
  : Int32)) := rfl
set_option maxHeartbeats 4000000 in
set_option maxRecDepth 100000 in
theorem c_Ro_startOf (l : Launch) (E : Ev) (A : Nat → Prop) (h a1 a2 a3 : Nat) (st : RoS) (p0 : Int32) (hsg : st.2.1 ≤ 513) :
    Kt l y_Ro_startOf b_Ro_startOf 2 (some .int) 1 0 0 E A [.ref h, .int p0] [(h, .inr (0, [.ref a1, .ref a2, .ref a3, .int st.1, .int st.2.1, .int st.2.2.1])), (a1, .inl (E.2.1 0, 42000, .inl st.2.2.2.1)), (a2, .inl (E.2.1 0, 513, .inl st.2.2.2.2.1)), (a3, .inl (E.2.1 1, 513, .inl st.2.2.2.2.2))] (va_Qi (fun (r : Int32) (_ : Unit) => r = f_Ro_startOf p0 st) (ar_W E A (fun _ : Unit => [(h, .inr (0, [.ref a1, .ref a2, .ref a3, .int st.1, .int st.2.1, .int st.2.2.1])), (a1, .inl (E.2.1 0, 42000, .inl st.2.2.2.1)), (a2, .inl (E.2.1 0, 513, .inl st.2.2.2.2.1)), (a3, .inl (E.2.1 1, 513, .inl st.2.2.2.2.2))])) A) := by
  refine Kt.of (by decide) (Nat.le_of_ble_eq_true rfl) ?_
  intro p e s m below meth c ls hx hb hml hown hts hr hlocks hex hin hA hZ hP hK hD hl
  have hS : va_S A s.heap s.heap [] := va_S.rf
  have hl : lv_has ls 2 [(0, .ref h), (1, .int p0)] := hl
  refine lv_aload_n hx hb d_Ro_startOf_0 rfl (lv_at hl 0 rfl) ?_
  refine lv_iload_n hx hb d_Ro_startOf_1 rfl (lv_at hl 1 rfl) ?_
  refine ar_usei (wr := []) hP hD hS hA [0, 1, 2, 3] [] rfl rfl rfl (by decide) (ar_runV (n := 1) (As := [.int p0]) (rest := []) (ci := 0) (q0 := 0) hx hb hml hown hts hP hD hS hA hK hZ (c_Ro_has l E _ h a1 a2 a3 st p0 ) m_209 m_211 ms_1 m_4 m_212 (by decide +kernel) ⟨Nat.le_of_ble_eq_true rfl, Nat.le_of_ble_eq_true rfl⟩ [0, 1, 2, 3] rfl rfl rfl rfl rfl rfl rfl hl.1 rfl (Nat.le_of_ble_eq_true rfl) d_Ro_startOf_2 ⟨Nat.le_of_ble_eq_true rfl, Nat.le_of_ble_eq_true rfl⟩) (fun r1 _ Hn locsn hw1 hPn hDn hSn => ?_)
  obtain ⟨b1, eb1⟩ : ∃ b : Bool, b = f_Ro_has  p0 st := ⟨_, rfl⟩
  rw [← eb1] at hw1
  subst hw1
  clear hP hD hS
  have hP : va_P E.1 classes [(h, .inr (0, [.ref a1, .ref a2, .ref a3, .int st.1, .int st.2.1, .int st.2.2.1])), (a1, .inl (E.2.1 0, 42000, .inl st.2.2.2.1)), (a2, .inl (E.2.1 0, 513, .inl st.2.2.2.2.1)), (a3, .inl (E.2.1 1, 513, .inl st.2.2.2.2.2))] Hn := hPn
  have hD : va_D A [(h, .inr (0, [.ref a1, .ref a2, .ref a3, .int st.1, .int st.2.1, .int st.2.2.1])), (a1, .inl (E.2.1 0, 42000, .inl st.2.2.2.1)), (a2, .inl (E.2.1 0, 513, .inl st.2.2.2.2.1)), (a3, .inl (E.2.1 1, 513, .inl st.2.2.2.2.2))] := hDn
  have hS := hSn
  clear hPn hDn hSn
  refine lv_if_eq (tgt := 17) hx hb d_Ro_startOf_5 (by decide) (fun c2 => ?_) (fun c2 => ?_)
  · skip
    refine lv_aload_n hx hb d_Ro_startOf_17 rfl (lv_at hl 0 rfl) ?_
    refine va_get (D := E.1) (ci := 0) (v := .int st.1) (C := R_Ro) (T := T_Ro) (N := 6) hx hb hts in_Ro hown hK hP 0 rfl rfl 3 (by decide) (hts _ m_58) (fun _ h9 => h9) rfl d_Ro_startOf_18 ?_
    exact ar_iret hx hb hr hlocks hK hS () (by subst eb1; exact Eq.symm (Eq.trans (f_Ro_startOf_s p0 st) (Eq.trans (if_pos c2) rfl))) hP hD d_Ro_startOf_21
  · skip
    refine lv_aload_n hx hb d_Ro_startOf_8 rfl (lv_at hl 0 rfl) ?_
    refine va_get (D := E.1) (ci := 0) (v := .ref a2) (C := R_Ro) (T := T_Ro) (N := 6) hx hb hts in_Ro hown hK hP 0 rfl rfl 1 (by decide) (hts _ m_56) (fun _ h9 => h9) rfl d_Ro_startOf_9 ?_
    refine lv_iload_n hx hb d_Ro_startOf_12 rfl (lv_at hl 1 rfl) ?_
    refine va_iald (D := E.1) hx hb hK hP 2 0 rfl rfl (has_in eb1 (by assumption)) d_Ro_startOf_13 ?_
    refine lv_goto (tgt := 21) hx hb d_Ro_startOf_14 (by decide) ?_
    exact ar_iret hx hb hr hlocks hK hS () (by subst eb1; exact Eq.symm (Eq.trans (f_Ro_startOf_s p0 st) (Eq.trans (if_neg c2) rfl))) hP hD d_Ro_startOf_21

noncomputable def f_Ro_endOf (p0 : Int32) (st : RoS) : Int32 :=
  let r2 := f_Ro_startOf  (p0 + 1) st
  r2
theorem f_Ro_endOf_s (p0 : Int32) (st : RoS) : f_Ro_endOf p0 st = ((
  let r2 := f_Ro_startOf  (p0 + 1) st
  r2
  : Int32)) := rfl
def k_Ro_endOf (p0 : Int32) (st : RoS) : Prop := (st.2.1 ≤ 513) ∧ ((∀ r2, r2 = f_Ro_startOf  (p0 + 1) st → True))
set_option maxHeartbeats 4000000 in
set_option maxRecDepth 100000 in
theorem c_Ro_endOf (l : Launch) (E : Ev) (A : Nat → Prop) (h a1 a2 a3 : Nat) (st : RoS) (p0 : Int32)  (hok : k_Ro_endOf p0 st) :
    Kt l y_Ro_endOf b_Ro_endOf 2 (some .int) 2 0 0 E A [.ref h, .int p0] [(h, .inr (0, [.ref a1, .ref a2, .ref a3, .int st.1, .int st.2.1, .int st.2.2.1])), (a1, .inl (E.2.1 0, 42000, .inl st.2.2.2.1)), (a2, .inl (E.2.1 0, 513, .inl st.2.2.2.2.1)), (a3, .inl (E.2.1 1, 513, .inl st.2.2.2.2.2))] (va_Qi (fun (r : Int32) (_ : Unit) => r = f_Ro_endOf p0 st) (ar_W E A (fun _ : Unit => [(h, .inr (0, [.ref a1, .ref a2, .ref a3, .int st.1, .int st.2.1, .int st.2.2.1])), (a1, .inl (E.2.1 0, 42000, .inl st.2.2.2.1)), (a2, .inl (E.2.1 0, 513, .inl st.2.2.2.2.1)), (a3, .inl (E.2.1 1, 513, .inl st.2.2.2.2.2))])) A) := by
  unfold k_Ro_endOf at hok
  refine Kt.of (by decide) (Nat.le_of_ble_eq_true rfl) ?_
  intro p e s m below meth c ls hx hb hml hown hts hr hlocks hex hin hA hZ hP hK hD hl
  have hS : va_S A s.heap s.heap [] := va_S.rf
  have hl : lv_has ls 2 [(0, .ref h), (1, .int p0)] := hl
  refine lv_aload_n hx hb d_Ro_endOf_0 rfl (lv_at hl 0 rfl) ?_
  refine lv_iload_n hx hb d_Ro_endOf_1 rfl (lv_at hl 1 rfl) ?_
  refine lv_iconst (v := 1) hx hb d_Ro_endOf_2 (by decide) ?_
  refine lv_iadd hx hb d_Ro_endOf_3 ?_
  obtain ⟨hk1, hok⟩ := hok
  refine ar_usei (wr := []) hP hD hS hA [0, 1, 2, 3] [] rfl rfl rfl (by decide) (ar_runV (n := 1) (As := [.int (p0 + 1)]) (rest := []) (ci := 0) (q0 := 0) hx hb hml hown hts hP hD hS hA hK hZ (c_Ro_startOf l E _ h a1 a2 a3 st (p0 + 1) hk1) m_510 m_503 m_504 m_4 m_505 (by decide +kernel) ⟨Nat.le_of_ble_eq_true rfl, Nat.le_of_ble_eq_true rfl⟩ [0, 1, 2, 3] rfl rfl rfl rfl rfl rfl rfl hl.1 rfl (Nat.le_of_ble_eq_true rfl) d_Ro_endOf_4 ⟨Nat.le_of_ble_eq_true rfl, Nat.le_of_ble_eq_true rfl⟩) (fun r2 _ Hn locsn hw2 hPn hDn hSn => ?_)
  replace hok := hok r2 hw2
  clear hP hD hS
  have hP : va_P E.1 classes [(h, .inr (0, [.ref a1, .ref a2, .ref a3, .int st.1, .int st.2.1, .int st.2.2.1])), (a1, .inl (E.2.1 0, 42000, .inl st.2.2.2.1)), (a2, .inl (E.2.1 0, 513, .inl st.2.2.2.2.1)), (a3, .inl (E.2.1 1, 513, .inl st.2.2.2.2.2))] Hn := hPn
  have hD : va_D A [(h, .inr (0, [.ref a1, .ref a2, .ref a3, .int st.1, .int st.2.1, .int st.2.2.1])), (a1, .inl (E.2.1 0, 42000, .inl st.2.2.2.1)), (a2, .inl (E.2.1 0, 513, .inl st.2.2.2.2.1)), (a3, .inl (E.2.1 1, 513, .inl st.2.2.2.2.2))] := hDn
  have hS := hSn
  clear hPn hDn hSn
  exact ar_iret hx hb hr hlocks hK hS () (by subst hw2; exact Eq.symm (Eq.trans (f_Ro_endOf_s p0 st) rfl)) hP hD d_Ro_endOf_7

noncomputable def f_Ro_add (p0 : Int32) (st : RoS) : RoS :=
  if st.1 < 0 then
    st
  else
    if 42000 ≤ st.1 then
      st
    else
      let x3 := (p0 &&& 255)
      let x5 := (st.1 + 1)
      (x5, st.2.1, st.2.2.1, (upd st.2.2.2.1 (Int32.toNatClampNeg st.1) x3), st.2.2.2.2.1, st.2.2.2.2.2)
theorem f_Ro_add_s (p0 : Int32) (st : RoS) : f_Ro_add p0 st = ((
  if st.1 < 0 then
    st
  else
    if 42000 ≤ st.1 then
      st
    else
      let x3 := (p0 &&& 255)
      let x5 := (st.1 + 1)
      (x5, st.2.1, st.2.2.1, (upd st.2.2.2.1 (Int32.toNatClampNeg st.1) x3), st.2.2.2.2.1, st.2.2.2.2.2)
  : RoS)) := rfl
set_option maxHeartbeats 4000000 in
set_option maxRecDepth 100000 in
theorem c_Ro_add (l : Launch) (E : Ev) (A : Nat → Prop) (h a1 a2 a3 : Nat) (st : RoS) (p0 : Int32)  :
    Kt l y_Ro_add b_Ro_add 2 none 0 0 0 E A [.ref h, .int p0] [(h, .inr (0, [.ref a1, .ref a2, .ref a3, .int st.1, .int st.2.1, .int st.2.2.1])), (a1, .inl (E.2.1 0, 42000, .inl st.2.2.2.1)), (a2, .inl (E.2.1 0, 513, .inl st.2.2.2.2.1)), (a3, .inl (E.2.1 1, 513, .inl st.2.2.2.2.2))] (va_Qv (fun u : RoS => u = f_Ro_add p0 st) (ar_W E A (fun u : RoS => [(h, .inr (0, [.ref a1, .ref a2, .ref a3, .int u.1, .int u.2.1, .int u.2.2.1])), (a1, .inl (E.2.1 0, 42000, .inl u.2.2.2.1)), (a2, .inl (E.2.1 0, 513, .inl u.2.2.2.2.1)), (a3, .inl (E.2.1 1, 513, .inl u.2.2.2.2.2))])) A) := by
  refine Kt.of (by decide) (Nat.le_of_ble_eq_true rfl) ?_
  intro p e s m below meth c ls hx hb hml hown hts hr hlocks hex hin hA hZ hP hK hD hl
  have hS : va_S A s.heap s.heap [] := va_S.rf
  have hl : lv_has ls 2 [(0, .ref h), (1, .int p0)] := hl
  refine lv_aload_n hx hb d_Ro_add_0 rfl (lv_at hl 0 rfl) ?_
  refine va_get (D := E.1) (ci := 0) (v := .int st.1) (C := R_Ro) (T := T_Ro) (N := 6) hx hb hts in_Ro hown hK hP 0 rfl rfl 3 (by decide) (hts _ m_58) (fun _ h9 => h9) rfl d_Ro_add_1 ?_
  refine lv_if_lt (tgt := 43) hx hb d_Ro_add_4 (by decide) (fun c1 => ?_) (fun c1 => ?_)
  · skip
    exact ar_vret hx hb hr hlocks hK hS st (by exact Eq.symm (Eq.trans (f_Ro_add_s p0 st) (Eq.trans (if_pos c1) rfl))) hP hD d_Ro_add_43
  · skip
    refine lv_aload_n hx hb d_Ro_add_7 rfl (lv_at hl 0 rfl) ?_
    refine va_get (D := E.1) (ci := 0) (v := .int st.1) (C := R_Ro) (T := T_Ro) (N := 6) hx hb hts in_Ro hown hK hP 0 rfl rfl 3 (by decide) (hts _ m_58) (fun _ h9 => h9) rfl d_Ro_add_8 ?_
    refine lv_aload_n hx hb d_Ro_add_11 rfl (lv_at hl 0 rfl) ?_
    refine va_get (D := E.1) (ci := 0) (v := .ref a1) (C := R_Ro) (T := T_Ro) (N := 6) hx hb hts in_Ro hown hK hP 0 rfl rfl 0 (by decide) (hts _ m_55) (fun _ h9 => h9) rfl d_Ro_add_12 ?_
    refine va_alen (D := E.1) (v := 42000) hx hb hK hP 1 0 rfl rfl rfl d_Ro_add_15 ?_
    refine lv_icmp_ge (tgt := 43) hx hb d_Ro_add_16 (by decide) (fun c2 => ?_) (fun c2 => ?_)
    · skip
      exact ar_vret hx hb hr hlocks hK hS st (by exact Eq.symm (Eq.trans (f_Ro_add_s p0 st) (Eq.trans (if_neg c1) (Eq.trans (if_pos c2) rfl)))) hP hD d_Ro_add_43
    · skip
      refine lv_aload_n hx hb d_Ro_add_19 rfl (lv_at hl 0 rfl) ?_
      refine va_get (D := E.1) (ci := 0) (v := .ref a1) (C := R_Ro) (T := T_Ro) (N := 6) hx hb hts in_Ro hown hK hP 0 rfl rfl 0 (by decide) (hts _ m_55) (fun _ h9 => h9) rfl d_Ro_add_20 ?_
      refine lv_aload_n hx hb d_Ro_add_23 rfl (lv_at hl 0 rfl) ?_
      refine va_get (D := E.1) (ci := 0) (v := .int st.1) (C := R_Ro) (T := T_Ro) (N := 6) hx hb hts in_Ro hown hK hP 0 rfl rfl 3 (by decide) (hts _ m_58) (fun _ h9 => h9) rfl d_Ro_add_24 ?_
      refine lv_iload_n hx hb d_Ro_add_27 rfl (lv_at hl 1 rfl) ?_
      refine lv_sipush (v := 255) hx hb d_Ro_add_28 (by decide) ?_
      refine lv_iand hx hb d_Ro_add_31 ?_
      refine lv_topi (fun x3 ex3 => ?_)
      refine va_iast (D := E.1) (x := x3) hx hb hK hP hD hS 1 0 rfl rfl (in_of (k := 42000) (by decide) (by assumption) (by assumption)) d_Ro_add_32 (fun Hn locsn hPn hDn hSn => ?_)
      clear hP hD hS
      have hP : va_P E.1 classes [(h, .inr (0, [.ref a1, .ref a2, .ref a3, .int st.1, .int st.2.1, .int st.2.2.1])), (a1, .inl (E.2.1 0, 42000, .inl (upd st.2.2.2.1 (Int32.toNatClampNeg st.1) x3))), (a2, .inl (E.2.1 0, 513, .inl st.2.2.2.2.1)), (a3, .inl (E.2.1 1, 513, .inl st.2.2.2.2.2))] Hn := hPn
      have hD : va_D A [(h, .inr (0, [.ref a1, .ref a2, .ref a3, .int st.1, .int st.2.1, .int st.2.2.1])), (a1, .inl (E.2.1 0, 42000, .inl (upd st.2.2.2.1 (Int32.toNatClampNeg st.1) x3))), (a2, .inl (E.2.1 0, 513, .inl st.2.2.2.2.1)), (a3, .inl (E.2.1 1, 513, .inl st.2.2.2.2.2))] := hDn
      have hS := hSn
      clear hPn hDn hSn
      refine lv_aload_n hx hb d_Ro_add_33 rfl (lv_at hl 0 rfl) ?_
      refine lv_dup hx hb d_Ro_add_34 rfl ?_
      refine va_get (D := E.1) (ci := 0) (v := .int st.1) (C := R_Ro) (T := T_Ro) (N := 6) hx hb hts in_Ro hown hK hP 0 rfl rfl 3 (by decide) (hts _ m_58) (fun _ h9 => h9) rfl d_Ro_add_35 ?_
      refine lv_iconst (v := 1) hx hb d_Ro_add_38 (by decide) ?_
      refine lv_iadd hx hb d_Ro_add_39 ?_
      refine lv_topi (fun x5 ex5 => ?_)
      refine va_put (D := E.1) (ci := 0) (v := .int x5) (ty := .int) (C := R_Ro) (T := T_Ro) (N := 6) hx hb hts in_Ro t_Ro t_Ro_ok n_Ro hown hK hP hD hS 0 rfl rfl 3 (by decide) (hts _ m_58) (fun _ h9 => h9) rfl (by decide +kernel) rfl rfl (Nat.le_of_ble_eq_true rfl) d_Ro_add_40 (fun Hn locsn hPn hDn hSn => ?_)
      clear hP hD hS
      have hP : va_P E.1 classes [(h, .inr (0, [.ref a1, .ref a2, .ref a3, .int x5, .int st.2.1, .int st.2.2.1])), (a1, .inl (E.2.1 0, 42000, .inl (upd st.2.2.2.1 (Int32.toNatClampNeg st.1) x3))), (a2, .inl (E.2.1 0, 513, .inl st.2.2.2.2.1)), (a3, .inl (E.2.1 1, 513, .inl st.2.2.2.2.2))] Hn := hPn
      have hD : va_D A [(h, .inr (0, [.ref a1, .ref a2, .ref a3, .int x5, .int st.2.1, .int st.2.2.1])), (a1, .inl (E.2.1 0, 42000, .inl (upd st.2.2.2.1 (Int32.toNatClampNeg st.1) x3))), (a2, .inl (E.2.1 0, 513, .inl st.2.2.2.2.1)), (a3, .inl (E.2.1 1, 513, .inl st.2.2.2.2.2))] := hDn
      have hS := hSn
      clear hPn hDn hSn
      exact ar_vret hx hb hr hlocks hK hS (x5, st.2.1, st.2.2.1, (upd st.2.2.2.1 (Int32.toNatClampNeg st.1) x3), st.2.2.2.2.1, st.2.2.2.2.2) (by subst ex5; subst ex3; exact Eq.symm (Eq.trans (f_Ro_add_s p0 st) (Eq.trans (if_neg c1) (Eq.trans (if_neg c2) rfl)))) hP hD d_Ro_add_43

noncomputable def f_Ro_byteBefore (p0 : Int32) (p1 : Int32) (st : RoS) : Int32 :=
  if p1 < 0 then
    255
  else
    if p0 ≤ p1 then
      255
    else
      if 42000 ≤ p1 then
        255
      else
        (st.2.2.2.1 (Int32.toNatClampNeg p1))
theorem f_Ro_byteBefore_s (p0 : Int32) (p1 : Int32) (st : RoS) : f_Ro_byteBefore p0 p1 st = ((
  if p1 < 0 then
    255
  else
    if p0 ≤ p1 then
      255
    else
      if 42000 ≤ p1 then
        255
      else
        (st.2.2.2.1 (Int32.toNatClampNeg p1))
  : Int32)) := rfl
set_option maxHeartbeats 4000000 in
set_option maxRecDepth 100000 in
theorem c_Ro_byteBefore (l : Launch) (E : Ev) (A : Nat → Prop) (h a1 a2 a3 : Nat) (st : RoS) (p0 : Int32) (p1 : Int32)  :
    Kt l y_Ro_byteBefore b_Ro_byteBefore 3 (some .int) 0 0 0 E A [.ref h, .int p0, .int p1] [(h, .inr (0, [.ref a1, .ref a2, .ref a3, .int st.1, .int st.2.1, .int st.2.2.1])), (a1, .inl (E.2.1 0, 42000, .inl st.2.2.2.1)), (a2, .inl (E.2.1 0, 513, .inl st.2.2.2.2.1)), (a3, .inl (E.2.1 1, 513, .inl st.2.2.2.2.2))] (va_Qi (fun (r : Int32) (_ : Unit) => r = f_Ro_byteBefore p0 p1 st) (ar_W E A (fun _ : Unit => [(h, .inr (0, [.ref a1, .ref a2, .ref a3, .int st.1, .int st.2.1, .int st.2.2.1])), (a1, .inl (E.2.1 0, 42000, .inl st.2.2.2.1)), (a2, .inl (E.2.1 0, 513, .inl st.2.2.2.2.1)), (a3, .inl (E.2.1 1, 513, .inl st.2.2.2.2.2))])) A) := by
  refine Kt.of (by decide) (Nat.le_of_ble_eq_true rfl) ?_
  intro p e s m below meth c ls hx hb hml hown hts hr hlocks hex hin hA hZ hP hK hD hl
  have hS : va_S A s.heap s.heap [] := va_S.rf
  have hl : lv_has ls 3 [(0, .ref h), (1, .int p0), (2, .int p1)] := hl
  refine lv_iload_n hx hb d_Ro_byteBefore_0 rfl (lv_at hl 2 rfl) ?_
  refine lv_if_lt (tgt := 27) hx hb d_Ro_byteBefore_1 (by decide) (fun c1 => ?_) (fun c1 => ?_)
  · skip
    refine lv_sipush (v := 255) hx hb d_Ro_byteBefore_27 (by decide) ?_
    exact ar_iret hx hb hr hlocks hK hS () (by exact Eq.symm (Eq.trans (f_Ro_byteBefore_s p0 p1 st) (Eq.trans (if_pos c1) rfl))) hP hD d_Ro_byteBefore_30
  · skip
    refine lv_iload_n hx hb d_Ro_byteBefore_4 rfl (lv_at hl 2 rfl) ?_
    refine lv_iload_n hx hb d_Ro_byteBefore_5 rfl (lv_at hl 1 rfl) ?_
    refine lv_icmp_ge (tgt := 27) hx hb d_Ro_byteBefore_6 (by decide) (fun c2 => ?_) (fun c2 => ?_)
    · skip
      refine lv_sipush (v := 255) hx hb d_Ro_byteBefore_27 (by decide) ?_
      exact ar_iret hx hb hr hlocks hK hS () (by exact Eq.symm (Eq.trans (f_Ro_byteBefore_s p0 p1 st) (Eq.trans (if_neg c1) (Eq.trans (if_pos c2) rfl)))) hP hD d_Ro_byteBefore_30
    · skip
      refine lv_iload_n hx hb d_Ro_byteBefore_9 rfl (lv_at hl 2 rfl) ?_
      refine lv_aload_n hx hb d_Ro_byteBefore_10 rfl (lv_at hl 0 rfl) ?_
      refine va_get (D := E.1) (ci := 0) (v := .ref a1) (C := R_Ro) (T := T_Ro) (N := 6) hx hb hts in_Ro hown hK hP 0 rfl rfl 0 (by decide) (hts _ m_55) (fun _ h9 => h9) rfl d_Ro_byteBefore_11 ?_
      refine va_alen (D := E.1) (v := 42000) hx hb hK hP 1 0 rfl rfl rfl d_Ro_byteBefore_14 ?_
      refine lv_icmp_ge (tgt := 27) hx hb d_Ro_byteBefore_15 (by decide) (fun c3 => ?_) (fun c3 => ?_)
      · skip
        refine lv_sipush (v := 255) hx hb d_Ro_byteBefore_27 (by decide) ?_
        exact ar_iret hx hb hr hlocks hK hS () (by exact Eq.symm (Eq.trans (f_Ro_byteBefore_s p0 p1 st) (Eq.trans (if_neg c1) (Eq.trans (if_neg c2) (Eq.trans (if_pos c3) rfl))))) hP hD d_Ro_byteBefore_30
      · skip
        refine lv_aload_n hx hb d_Ro_byteBefore_18 rfl (lv_at hl 0 rfl) ?_
        refine va_get (D := E.1) (ci := 0) (v := .ref a1) (C := R_Ro) (T := T_Ro) (N := 6) hx hb hts in_Ro hown hK hP 0 rfl rfl 0 (by decide) (hts _ m_55) (fun _ h9 => h9) rfl d_Ro_byteBefore_19 ?_
        refine lv_iload_n hx hb d_Ro_byteBefore_22 rfl (lv_at hl 2 rfl) ?_
        refine va_iald (D := E.1) hx hb hK hP 1 0 rfl rfl (in_of (k := 42000) (by decide) (by assumption) (by assumption)) d_Ro_byteBefore_23 ?_
        refine lv_goto (tgt := 30) hx hb d_Ro_byteBefore_24 (by decide) ?_
        exact ar_iret hx hb hr hlocks hK hS () (by exact Eq.symm (Eq.trans (f_Ro_byteBefore_s p0 p1 st) (Eq.trans (if_neg c1) (Eq.trans (if_neg c2) (Eq.trans (if_neg c3) rfl))))) hP hD d_Ro_byteBefore_30

noncomputable def f_Ro_last  (st : RoS) : Int32 :=
  let x1 := (st.1 - 1)
  if x1 < st.2.2.1 then
    (-1)
  else
    if x1 < 0 then
      (-1)
    else
      if 42000 ≤ x1 then
        (-1)
      else
        (st.2.2.2.1 (Int32.toNatClampNeg x1))
theorem f_Ro_last_s  (st : RoS) : f_Ro_last  st = ((
  let x1 := (st.1 - 1)
  if x1 < st.2.2.1 then
    (-1)
  else
    if x1 < 0 then
      (-1)
    else
      if 42000 ≤ x1 then
        (-1)
      else
        (st.2.2.2.1 (Int32.toNatClampNeg x1))
  : Int32)) := rfl
set_option maxHeartbeats 4000000 in
set_option maxRecDepth 100000 in
theorem c_Ro_last (l : Launch) (E : Ev) (A : Nat → Prop) (h a1 a2 a3 : Nat) (st : RoS)   :
    Kt l y_Ro_last b_Ro_last 2 (some .int) 0 0 0 E A [.ref h] [(h, .inr (0, [.ref a1, .ref a2, .ref a3, .int st.1, .int st.2.1, .int st.2.2.1])), (a1, .inl (E.2.1 0, 42000, .inl st.2.2.2.1)), (a2, .inl (E.2.1 0, 513, .inl st.2.2.2.2.1)), (a3, .inl (E.2.1 1, 513, .inl st.2.2.2.2.2))] (va_Qi (fun (r : Int32) (_ : Unit) => r = f_Ro_last  st) (ar_W E A (fun _ : Unit => [(h, .inr (0, [.ref a1, .ref a2, .ref a3, .int st.1, .int st.2.1, .int st.2.2.1])), (a1, .inl (E.2.1 0, 42000, .inl st.2.2.2.1)), (a2, .inl (E.2.1 0, 513, .inl st.2.2.2.2.1)), (a3, .inl (E.2.1 1, 513, .inl st.2.2.2.2.2))])) A) := by
  refine Kt.of (by decide) (Nat.le_of_ble_eq_true rfl) ?_
  intro p e s m below meth c ls hx hb hml hown hts hr hlocks hex hin hA hZ hP hK hD hl
  have hS : va_S A s.heap s.heap [] := va_S.rf
  have hl : lv_has ls 2 [(0, .ref h)] := hl
  refine lv_aload_n hx hb d_Ro_last_0 rfl (lv_at hl 0 rfl) ?_
  refine va_get (D := E.1) (ci := 0) (v := .int st.1) (C := R_Ro) (T := T_Ro) (N := 6) hx hb hts in_Ro hown hK hP 0 rfl rfl 3 (by decide) (hts _ m_58) (fun _ h9 => h9) rfl d_Ro_last_1 ?_
  refine lv_iconst (v := 1) hx hb d_Ro_last_4 (by decide) ?_
  refine lv_isub hx hb d_Ro_last_5 ?_
  refine lv_topi (fun x1 ex1 => ?_)
  refine lv_istore_n (lv' := [(1, .int x1), (0, .ref h)]) hx hb d_Ro_last_6 rfl hl (by decide) rfl (fun ls hl => ?_)
  refine lv_iload_n hx hb d_Ro_last_7 rfl (lv_at hl 0 rfl) ?_
  refine lv_aload_n hx hb d_Ro_last_8 rfl (lv_at hl 1 rfl) ?_
  refine va_get (D := E.1) (ci := 0) (v := .int st.2.2.1) (C := R_Ro) (T := T_Ro) (N := 6) hx hb hts in_Ro hown hK hP 0 rfl rfl 5 (by decide) (hts _ m_60) (fun _ h9 => h9) rfl d_Ro_last_9 ?_
  refine lv_icmp_lt (tgt := 37) hx hb d_Ro_last_12 (by decide) (fun c2 => ?_) (fun c2 => ?_)
  · skip
    refine lv_iconst (v := (-1)) hx hb d_Ro_last_37 (by decide) ?_
    exact ar_iret hx hb hr hlocks hK hS () (by subst ex1; exact Eq.symm (Eq.trans (f_Ro_last_s  st) (Eq.trans (if_pos c2) rfl))) hP hD d_Ro_last_38
  · skip
    refine lv_iload_n hx hb d_Ro_last_15 rfl (lv_at hl 0 rfl) ?_
    refine lv_if_lt (tgt := 37) hx hb d_Ro_last_16 (by decide) (fun c3 => ?_) (fun c3 => ?_)
    · skip
      refine lv_iconst (v := (-1)) hx hb d_Ro_last_37 (by decide) ?_
      exact ar_iret hx hb hr hlocks hK hS () (by subst ex1; exact Eq.symm (Eq.trans (f_Ro_last_s  st) (Eq.trans (if_neg c2) (Eq.trans (if_pos c3) rfl)))) hP hD d_Ro_last_38
    · skip
      refine lv_iload_n hx hb d_Ro_last_19 rfl (lv_at hl 0 rfl) ?_
      refine lv_aload_n hx hb d_Ro_last_20 rfl (lv_at hl 1 rfl) ?_
      refine va_get (D := E.1) (ci := 0) (v := .ref a1) (C := R_Ro) (T := T_Ro) (N := 6) hx hb hts in_Ro hown hK hP 0 rfl rfl 0 (by decide) (hts _ m_55) (fun _ h9 => h9) rfl d_Ro_last_21 ?_
      refine va_alen (D := E.1) (v := 42000) hx hb hK hP 1 0 rfl rfl rfl d_Ro_last_24 ?_
      refine lv_icmp_ge (tgt := 37) hx hb d_Ro_last_25 (by decide) (fun c4 => ?_) (fun c4 => ?_)
      · skip
        refine lv_iconst (v := (-1)) hx hb d_Ro_last_37 (by decide) ?_
        exact ar_iret hx hb hr hlocks hK hS () (by subst ex1; exact Eq.symm (Eq.trans (f_Ro_last_s  st) (Eq.trans (if_neg c2) (Eq.trans (if_neg c3) (Eq.trans (if_pos c4) rfl))))) hP hD d_Ro_last_38
      · skip
        refine lv_aload_n hx hb d_Ro_last_28 rfl (lv_at hl 1 rfl) ?_
        refine va_get (D := E.1) (ci := 0) (v := .ref a1) (C := R_Ro) (T := T_Ro) (N := 6) hx hb hts in_Ro hown hK hP 0 rfl rfl 0 (by decide) (hts _ m_55) (fun _ h9 => h9) rfl d_Ro_last_29 ?_
        refine lv_iload_n hx hb d_Ro_last_32 rfl (lv_at hl 0 rfl) ?_
        refine va_iald (D := E.1) hx hb hK hP 1 0 rfl rfl (in_of (k := 42000) (by decide) (by assumption) (by assumption)) d_Ro_last_33 ?_
        refine lv_goto (tgt := 38) hx hb d_Ro_last_34 (by decide) ?_
        exact ar_iret hx hb hr hlocks hK hS () (by subst ex1; exact Eq.symm (Eq.trans (f_Ro_last_s  st) (Eq.trans (if_neg c2) (Eq.trans (if_neg c3) (Eq.trans (if_neg c4) rfl))))) hP hD d_Ro_last_38

noncomputable def f_Ro_raiseLast  (st : RoS) : RoS :=
  let x1 := (st.1 - 1)
  if x1 < 0 then
    st
  else
    if 42000 ≤ x1 then
      st
    else
      let x4 := (((st.2.2.2.1 (Int32.toNatClampNeg x1)) + 1) &&& 255)
      (st.1, st.2.1, st.2.2.1, (upd st.2.2.2.1 (Int32.toNatClampNeg x1) x4), st.2.2.2.2.1, st.2.2.2.2.2)
theorem f_Ro_raiseLast_s  (st : RoS) : f_Ro_raiseLast  st = ((
  let x1 := (st.1 - 1)
  if x1 < 0 then
    st
  else
    if 42000 ≤ x1 then
      st
    else
      let x4 := (((st.2.2.2.1 (Int32.toNatClampNeg x1)) + 1) &&& 255)
      (st.1, st.2.1, st.2.2.1, (upd st.2.2.2.1 (Int32.toNatClampNeg x1) x4), st.2.2.2.2.1, st.2.2.2.2.2)
  : RoS)) := rfl
set_option maxHeartbeats 4000000 in
set_option maxRecDepth 100000 in
theorem c_Ro_raiseLast (l : Launch) (E : Ev) (A : Nat → Prop) (h a1 a2 a3 : Nat) (st : RoS)   :
    Kt l y_Ro_raiseLast b_Ro_raiseLast 2 none 0 0 0 E A [.ref h] [(h, .inr (0, [.ref a1, .ref a2, .ref a3, .int st.1, .int st.2.1, .int st.2.2.1])), (a1, .inl (E.2.1 0, 42000, .inl st.2.2.2.1)), (a2, .inl (E.2.1 0, 513, .inl st.2.2.2.2.1)), (a3, .inl (E.2.1 1, 513, .inl st.2.2.2.2.2))] (va_Qv (fun u : RoS => u = f_Ro_raiseLast  st) (ar_W E A (fun u : RoS => [(h, .inr (0, [.ref a1, .ref a2, .ref a3, .int u.1, .int u.2.1, .int u.2.2.1])), (a1, .inl (E.2.1 0, 42000, .inl u.2.2.2.1)), (a2, .inl (E.2.1 0, 513, .inl u.2.2.2.2.1)), (a3, .inl (E.2.1 1, 513, .inl u.2.2.2.2.2))])) A) := by
  refine Kt.of (by decide) (Nat.le_of_ble_eq_true rfl) ?_
  intro p e s m below meth c ls hx hb hml hown hts hr hlocks hex hin hA hZ hP hK hD hl
  have hS : va_S A s.heap s.heap [] := va_S.rf
  have hl : lv_has ls 2 [(0, .ref h)] := hl
  refine lv_aload_n hx hb d_Ro_raiseLast_0 rfl (lv_at hl 0 rfl) ?_
  refine va_get (D := E.1) (ci := 0) (v := .int st.1) (C := R_Ro) (T := T_Ro) (N := 6) hx hb hts in_Ro hown hK hP 0 rfl rfl 3 (by decide) (hts _ m_58) (fun _ h9 => h9) rfl d_Ro_raiseLast_1 ?_
  refine lv_iconst (v := 1) hx hb d_Ro_raiseLast_4 (by decide) ?_
  refine lv_isub hx hb d_Ro_raiseLast_5 ?_
  refine lv_topi (fun x1 ex1 => ?_)
  refine lv_istore_n (lv' := [(1, .int x1), (0, .ref h)]) hx hb d_Ro_raiseLast_6 rfl hl (by decide) rfl (fun ls hl => ?_)
  refine lv_iload_n hx hb d_Ro_raiseLast_7 rfl (lv_at hl 0 rfl) ?_
  refine lv_if_lt (tgt := 38) hx hb d_Ro_raiseLast_8 (by decide) (fun c2 => ?_) (fun c2 => ?_)
  · skip
    exact ar_vret hx hb hr hlocks hK hS st (by subst ex1; exact Eq.symm (Eq.trans (f_Ro_raiseLast_s  st) (Eq.trans (if_pos c2) rfl))) hP hD d_Ro_raiseLast_38
  · skip
    refine lv_iload_n hx hb d_Ro_raiseLast_11 rfl (lv_at hl 0 rfl) ?_
    refine lv_aload_n hx hb d_Ro_raiseLast_12 rfl (lv_at hl 1 rfl) ?_
    refine va_get (D := E.1) (ci := 0) (v := .ref a1) (C := R_Ro) (T := T_Ro) (N := 6) hx hb hts in_Ro hown hK hP 0 rfl rfl 0 (by decide) (hts _ m_55) (fun _ h9 => h9) rfl d_Ro_raiseLast_13 ?_
    refine va_alen (D := E.1) (v := 42000) hx hb hK hP 1 0 rfl rfl rfl d_Ro_raiseLast_16 ?_
    refine lv_icmp_ge (tgt := 38) hx hb d_Ro_raiseLast_17 (by decide) (fun c3 => ?_) (fun c3 => ?_)
    · skip
      exact ar_vret hx hb hr hlocks hK hS st (by subst ex1; exact Eq.symm (Eq.trans (f_Ro_raiseLast_s  st) (Eq.trans (if_neg c2) (Eq.trans (if_pos c3) rfl)))) hP hD d_Ro_raiseLast_38
    · skip
      refine lv_aload_n hx hb d_Ro_raiseLast_20 rfl (lv_at hl 1 rfl) ?_
      refine va_get (D := E.1) (ci := 0) (v := .ref a1) (C := R_Ro) (T := T_Ro) (N := 6) hx hb hts in_Ro hown hK hP 0 rfl rfl 0 (by decide) (hts _ m_55) (fun _ h9 => h9) rfl d_Ro_raiseLast_21 ?_
      refine lv_iload_n hx hb d_Ro_raiseLast_24 rfl (lv_at hl 0 rfl) ?_
      refine lv_aload_n hx hb d_Ro_raiseLast_25 rfl (lv_at hl 1 rfl) ?_
      refine va_get (D := E.1) (ci := 0) (v := .ref a1) (C := R_Ro) (T := T_Ro) (N := 6) hx hb hts in_Ro hown hK hP 0 rfl rfl 0 (by decide) (hts _ m_55) (fun _ h9 => h9) rfl d_Ro_raiseLast_26 ?_
      refine lv_iload_n hx hb d_Ro_raiseLast_29 rfl (lv_at hl 0 rfl) ?_
      refine va_iald (D := E.1) hx hb hK hP 1 0 rfl rfl (in_of (k := 42000) (by decide) (by assumption) (by assumption)) d_Ro_raiseLast_30 ?_
      refine lv_iconst (v := 1) hx hb d_Ro_raiseLast_31 (by decide) ?_
      refine lv_iadd hx hb d_Ro_raiseLast_32 ?_
      refine lv_sipush (v := 255) hx hb d_Ro_raiseLast_33 (by decide) ?_
      refine lv_iand hx hb d_Ro_raiseLast_36 ?_
      refine lv_topi (fun x4 ex4 => ?_)
      refine va_iast (D := E.1) (x := x4) hx hb hK hP hD hS 1 0 rfl rfl (in_of (k := 42000) (by decide) (by assumption) (by assumption)) d_Ro_raiseLast_37 (fun Hn locsn hPn hDn hSn => ?_)
      clear hP hD hS
      have hP : va_P E.1 classes [(h, .inr (0, [.ref a1, .ref a2, .ref a3, .int st.1, .int st.2.1, .int st.2.2.1])), (a1, .inl (E.2.1 0, 42000, .inl (upd st.2.2.2.1 (Int32.toNatClampNeg x1) x4))), (a2, .inl (E.2.1 0, 513, .inl st.2.2.2.2.1)), (a3, .inl (E.2.1 1, 513, .inl st.2.2.2.2.2))] Hn := hPn
      have hD : va_D A [(h, .inr (0, [.ref a1, .ref a2, .ref a3, .int st.1, .int st.2.1, .int st.2.2.1])), (a1, .inl (E.2.1 0, 42000, .inl (upd st.2.2.2.1 (Int32.toNatClampNeg x1) x4))), (a2, .inl (E.2.1 0, 513, .inl st.2.2.2.2.1)), (a3, .inl (E.2.1 1, 513, .inl st.2.2.2.2.2))] := hDn
      have hS := hSn
      clear hPn hDn hSn
      exact ar_vret hx hb hr hlocks hK hS (st.1, st.2.1, st.2.2.1, (upd st.2.2.2.1 (Int32.toNatClampNeg x1) x4), st.2.2.2.2.1, st.2.2.2.2.2) (by subst ex4; subst ex1; exact Eq.symm (Eq.trans (f_Ro_raiseLast_s  st) (Eq.trans (if_neg c2) (Eq.trans (if_neg c3) rfl)))) hP hD d_Ro_raiseLast_38

noncomputable def f_Ro_dropLastIfFull  (st : RoS) : RoS :=
  let r1 := f_Ro_last   st
  if r1 = 255 then
    let x3 := (st.1 - 1)
    (x3, st.2.1, st.2.2.1, st.2.2.2.1, st.2.2.2.2.1, st.2.2.2.2.2)
  else
    st
theorem f_Ro_dropLastIfFull_s  (st : RoS) : f_Ro_dropLastIfFull  st = ((
  let r1 := f_Ro_last   st
  if r1 = 255 then
    let x3 := (st.1 - 1)
    (x3, st.2.1, st.2.2.1, st.2.2.2.1, st.2.2.2.2.1, st.2.2.2.2.2)
  else
    st
  : RoS)) := rfl
set_option maxHeartbeats 4000000 in
set_option maxRecDepth 100000 in
theorem c_Ro_dropLastIfFull (l : Launch) (E : Ev) (A : Nat → Prop) (h a1 a2 a3 : Nat) (st : RoS)   :
    Kt l y_Ro_dropLastIfFull b_Ro_dropLastIfFull 1 none 1 0 0 E A [.ref h] [(h, .inr (0, [.ref a1, .ref a2, .ref a3, .int st.1, .int st.2.1, .int st.2.2.1])), (a1, .inl (E.2.1 0, 42000, .inl st.2.2.2.1)), (a2, .inl (E.2.1 0, 513, .inl st.2.2.2.2.1)), (a3, .inl (E.2.1 1, 513, .inl st.2.2.2.2.2))] (va_Qv (fun u : RoS => u = f_Ro_dropLastIfFull  st) (ar_W E A (fun u : RoS => [(h, .inr (0, [.ref a1, .ref a2, .ref a3, .int u.1, .int u.2.1, .int u.2.2.1])), (a1, .inl (E.2.1 0, 42000, .inl u.2.2.2.1)), (a2, .inl (E.2.1 0, 513, .inl u.2.2.2.2.1)), (a3, .inl (E.2.1 1, 513, .inl u.2.2.2.2.2))])) A) := by
  refine Kt.of (by decide) (Nat.le_of_ble_eq_true rfl) ?_
  intro p e s m below meth c ls hx hb hml hown hts hr hlocks hex hin hA hZ hP hK hD hl
  have hS : va_S A s.heap s.heap [] := va_S.rf
  have hl : lv_has ls 1 [(0, .ref h)] := hl
  refine lv_aload_n hx hb d_Ro_dropLastIfFull_0 rfl (lv_at hl 0 rfl) ?_
  refine ar_usei (wr := []) hP hD hS hA [0, 1, 2, 3] [] rfl rfl rfl (by decide) (ar_runV (n := 0) (As := []) (rest := []) (ci := 0) (q0 := 0) hx hb hml hown hts hP hD hS hA hK hZ (c_Ro_last l E _ h a1 a2 a3 st  ) m_262 m_247 m_248 m_4 m_249 (by decide +kernel) ⟨Nat.le_of_ble_eq_true rfl, Nat.le_of_ble_eq_true rfl⟩ [0, 1, 2, 3] rfl rfl rfl rfl rfl rfl rfl hl.1 rfl (Nat.le_of_ble_eq_true rfl) d_Ro_dropLastIfFull_1 ⟨Nat.le_of_ble_eq_true rfl, Nat.le_of_ble_eq_true rfl⟩) (fun r1 _ Hn locsn hw1 hPn hDn hSn => ?_)
  clear hP hD hS
  have hP : va_P E.1 classes [(h, .inr (0, [.ref a1, .ref a2, .ref a3, .int st.1, .int st.2.1, .int st.2.2.1])), (a1, .inl (E.2.1 0, 42000, .inl st.2.2.2.1)), (a2, .inl (E.2.1 0, 513, .inl st.2.2.2.2.1)), (a3, .inl (E.2.1 1, 513, .inl st.2.2.2.2.2))] Hn := hPn
  have hD : va_D A [(h, .inr (0, [.ref a1, .ref a2, .ref a3, .int st.1, .int st.2.1, .int st.2.2.1])), (a1, .inl (E.2.1 0, 42000, .inl st.2.2.2.1)), (a2, .inl (E.2.1 0, 513, .inl st.2.2.2.2.1)), (a3, .inl (E.2.1 1, 513, .inl st.2.2.2.2.2))] := hDn
  have hS := hSn
  clear hPn hDn hSn
  refine lv_sipush (v := 255) hx hb d_Ro_dropLastIfFull_4 (by decide) ?_
  refine lv_icmp_ne (tgt := 20) hx hb d_Ro_dropLastIfFull_7 (by decide) (fun c2 => ?_) (fun c2 => ?_)
  · skip
    exact ar_vret hx hb hr hlocks hK hS st (by subst hw1; exact Eq.symm (Eq.trans (f_Ro_dropLastIfFull_s  st) (Eq.trans (if_neg c2) rfl))) hP hD d_Ro_dropLastIfFull_20
  · skip
    refine lv_aload_n hx hb d_Ro_dropLastIfFull_10 rfl (lv_at hl 0 rfl) ?_
    refine lv_dup hx hb d_Ro_dropLastIfFull_11 rfl ?_
    refine va_get (D := E.1) (ci := 0) (v := .int st.1) (C := R_Ro) (T := T_Ro) (N := 6) hx hb hts in_Ro hown hK hP 0 rfl rfl 3 (by decide) (hts _ m_58) (fun _ h9 => h9) rfl d_Ro_dropLastIfFull_12 ?_
    refine lv_iconst (v := 1) hx hb d_Ro_dropLastIfFull_15 (by decide) ?_
    refine lv_isub hx hb d_Ro_dropLastIfFull_16 ?_
    refine lv_topi (fun x3 ex3 => ?_)
    refine va_put (D := E.1) (ci := 0) (v := .int x3) (ty := .int) (C := R_Ro) (T := T_Ro) (N := 6) hx hb hts in_Ro t_Ro t_Ro_ok n_Ro hown hK hP hD hS 0 rfl rfl 3 (by decide) (hts _ m_58) (fun _ h9 => h9) rfl (by decide +kernel) rfl rfl (Nat.le_of_ble_eq_true rfl) d_Ro_dropLastIfFull_17 (fun Hn locsn hPn hDn hSn => ?_)
    clear hP hD hS
    have hP : va_P E.1 classes [(h, .inr (0, [.ref a1, .ref a2, .ref a3, .int x3, .int st.2.1, .int st.2.2.1])), (a1, .inl (E.2.1 0, 42000, .inl st.2.2.2.1)), (a2, .inl (E.2.1 0, 513, .inl st.2.2.2.2.1)), (a3, .inl (E.2.1 1, 513, .inl st.2.2.2.2.2))] Hn := hPn
    have hD : va_D A [(h, .inr (0, [.ref a1, .ref a2, .ref a3, .int x3, .int st.2.1, .int st.2.2.1])), (a1, .inl (E.2.1 0, 42000, .inl st.2.2.2.1)), (a2, .inl (E.2.1 0, 513, .inl st.2.2.2.2.1)), (a3, .inl (E.2.1 1, 513, .inl st.2.2.2.2.2))] := hDn
    have hS := hSn
    clear hPn hDn hSn
    exact ar_vret hx hb hr hlocks hK hS (x3, st.2.1, st.2.2.1, st.2.2.2.1, st.2.2.2.2.1, st.2.2.2.2.2) (by subst ex3; subst hw1; exact Eq.symm (Eq.trans (f_Ro_dropLastIfFull_s  st) (Eq.trans (if_pos c2) rfl))) hP hD d_Ro_dropLastIfFull_20
