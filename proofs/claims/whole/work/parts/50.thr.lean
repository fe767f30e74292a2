/-! calls that throw -/
def k_X_needContext_T0 (nx : Nat) (p0 : Int32) (st : XoS) : Prop := ((p0 < 0) → True) ∧ (¬ (p0 < 0) → ((p0 < (nI nx)) → False) ∧ (¬ (p0 < (nI nx)) → True))
set_option maxHeartbeats 4000000 in
set_option maxRecDepth 100000 in
theorem c_X_needContext_T0 (l : Launch) (hlt : l.stackTraces = false) (E : Ev) (A : Nat → Prop) (x es ds h he hd ak nx : Nat) (st : XoS) (p0 : Int32)  (hok : k_X_needContext_T0 nx p0 st) :
    KtX l y_X_needContext b_X_needContext 2 none 6 E A [.ref x, .int p0] [(x, .inr (4, [.int (nI nx), .ref es, .ref ds, .ref h, .ref he, .ref hd, .ref ak, .int st.1, .int (bI st.2.1), .int st.2.2]))] "java/lang/IndexOutOfBoundsException" := by
  unfold k_X_needContext_T0 at hok
  refine KtX.of (by decide) (Nat.le_of_ble_eq_true rfl) ?_
  intro p e s m below meth c ls hx hb hml hown hts hr hlocks hex hin hA hZ hP hK hD hl
  have hS : va_S A s.heap s.heap [] := va_S.rf
  have hl : lv_has ls 2 [(0, .ref x), (1, .int p0)] := hl
  refine lv_iload_n hx hb d_X_needContext_0 rfl (lv_at hl 1 rfl) ?_
  refine lv_if_lt (tgt := 12) hx hb d_X_needContext_1 (by decide) (fun c1 => ?_) (fun c1 => ?_)
  · replace hok := hok.1 c1
    exact ar_throw (names := ["java/lang/RuntimeException", "java/lang/Exception"]) hx hb hlt hown (by decide +kernel) (by decide +kernel) (hts _ m_306) (hts _ m_11) (hZ.2.2.2.2.2.2.2.2.1 0 (by decide)) (hZ.own hts hS (k := 0) (by decide) own_a) hP hD hS (hl.1.trans hml.symm) d_X_needContext_12 d_X_needContext_15 d_X_needContext_16 d_X_needContext_18 d_X_needContext_21 hex (Nat.le_of_ble_eq_true rfl) (Nat.le_of_ble_eq_true rfl) (Nat.le_of_ble_eq_true rfl) (Nat.le_of_ble_eq_true rfl) rfl rfl hlocks
  · replace hok := hok.2 c1
    refine lv_iload_n hx hb d_X_needContext_4 rfl (lv_at hl 1 rfl) ?_
    refine lv_aload_n hx hb d_X_needContext_5 rfl (lv_at hl 0 rfl) ?_
    refine va_get (D := E.1) (ci := 4) (v := .int (nI nx)) (C := R_X) (T := T_X) (N := 10) hx hb hts in_X hown hK hP 0 rfl rfl 0 (by decide) (hts _ m_151) (fun _ h9 => h9) rfl d_X_needContext_6 ?_
    refine lv_icmp_lt (tgt := 22) hx hb d_X_needContext_9 (by decide) (fun c2 => ?_) (fun c2 => ?_)
    · replace hok := hok.1 c2
      exact hok.elim
    · replace hok := hok.2 c2
      exact ar_throw (names := ["java/lang/RuntimeException", "java/lang/Exception"]) hx hb hlt hown (by decide +kernel) (by decide +kernel) (hts _ m_306) (hts _ m_11) (hZ.2.2.2.2.2.2.2.2.1 0 (by decide)) (hZ.own hts hS (k := 0) (by decide) own_a) hP hD hS (hl.1.trans hml.symm) d_X_needContext_12 d_X_needContext_15 d_X_needContext_16 d_X_needContext_18 d_X_needContext_21 hex (Nat.le_of_ble_eq_true rfl) (Nat.le_of_ble_eq_true rfl) (Nat.le_of_ble_eq_true rfl) (Nat.le_of_ble_eq_true rfl) rfl rfl hlocks

def k_X_needSet_T0 (nx : Nat) (p0 : Int32) (st : XoS) : Prop := ((p0 < 0) → True) ∧ (¬ (p0 < 0) → ((p0 < 8) → False) ∧ (¬ (p0 < 8) → True))
set_option maxHeartbeats 4000000 in
set_option maxRecDepth 100000 in
theorem c_X_needSet_T0 (l : Launch) (hlt : l.stackTraces = false) (E : Ev) (A : Nat → Prop) (x es ds h he hd ak nx : Nat) (st : XoS) (p0 : Int32)  (hok : k_X_needSet_T0 nx p0 st) :
    KtX l y_X_needSet b_X_needSet 2 none 6 E A [.ref x, .int p0] [(x, .inr (4, [.int (nI nx), .ref es, .ref ds, .ref h, .ref he, .ref hd, .ref ak, .int st.1, .int (bI st.2.1), .int st.2.2]))] "java/lang/IndexOutOfBoundsException" := by
  unfold k_X_needSet_T0 at hok
  refine KtX.of (by decide) (Nat.le_of_ble_eq_true rfl) ?_
  intro p e s m below meth c ls hx hb hml hown hts hr hlocks hex hin hA hZ hP hK hD hl
  have hS : va_S A s.heap s.heap [] := va_S.rf
  have hl : lv_has ls 2 [(0, .ref x), (1, .int p0)] := hl
  refine lv_iload_n hx hb d_X_needSet_0 rfl (lv_at hl 1 rfl) ?_
  refine lv_if_lt (tgt := 10) hx hb d_X_needSet_1 (by decide) (fun c1 => ?_) (fun c1 => ?_)
  · replace hok := hok.1 c1
    exact ar_throw (names := ["java/lang/RuntimeException", "java/lang/Exception"]) hx hb hlt hown (by decide +kernel) (by decide +kernel) (hts _ m_306) (hts _ m_11) (hZ.2.2.2.2.2.2.2.2.1 8 (by decide)) (hZ.own hts hS (k := 0) (by decide) own_a) hP hD hS (hl.1.trans hml.symm) d_X_needSet_10 d_X_needSet_13 d_X_needSet_14 d_X_needSet_16 d_X_needSet_19 hex (Nat.le_of_ble_eq_true rfl) (Nat.le_of_ble_eq_true rfl) (Nat.le_of_ble_eq_true rfl) (Nat.le_of_ble_eq_true rfl) rfl rfl hlocks
  · replace hok := hok.2 c1
    refine lv_iload_n hx hb d_X_needSet_4 rfl (lv_at hl 1 rfl) ?_
    refine lv_bipush (v := 8) hx hb d_X_needSet_5 (by decide) ?_
    refine lv_icmp_lt (tgt := 20) hx hb d_X_needSet_7 (by decide) (fun c2 => ?_) (fun c2 => ?_)
    · replace hok := hok.1 c2
      exact hok.elim
    · replace hok := hok.2 c2
      exact ar_throw (names := ["java/lang/RuntimeException", "java/lang/Exception"]) hx hb hlt hown (by decide +kernel) (by decide +kernel) (hts _ m_306) (hts _ m_11) (hZ.2.2.2.2.2.2.2.2.1 8 (by decide)) (hZ.own hts hS (k := 0) (by decide) own_a) hP hD hS (hl.1.trans hml.symm) d_X_needSet_10 d_X_needSet_13 d_X_needSet_14 d_X_needSet_16 d_X_needSet_19 hex (Nat.le_of_ble_eq_true rfl) (Nat.le_of_ble_eq_true rfl) (Nat.le_of_ble_eq_true rfl) (Nat.le_of_ble_eq_true rfl) rfl rfl hlocks

def k_X_needEncoding_T1 (nx : Nat) (st : XoS) : Prop := ((bI st.2.1 = 0) → False) ∧ (¬ (bI st.2.1 = 0) → True)
set_option maxHeartbeats 4000000 in
set_option maxRecDepth 100000 in
theorem c_X_needEncoding_T1 (l : Launch) (hlt : l.stackTraces = false) (E : Ev) (A : Nat → Prop) (x es ds h he hd ak nx : Nat) (st : XoS)   (hok : k_X_needEncoding_T1 nx st) :
    KtX l y_X_needEncoding b_X_needEncoding 1 none 6 E A [.ref x] [(x, .inr (4, [.int (nI nx), .ref es, .ref ds, .ref h, .ref he, .ref hd, .ref ak, .int st.1, .int (bI st.2.1), .int st.2.2]))] "java/lang/IllegalStateException" := by
  unfold k_X_needEncoding_T1 at hok
  refine KtX.of (by decide) (Nat.le_of_ble_eq_true rfl) ?_
  intro p e s m below meth c ls hx hb hml hown hts hr hlocks hex hin hA hZ hP hK hD hl
  have hS : va_S A s.heap s.heap [] := va_S.rf
  have hl : lv_has ls 1 [(0, .ref x)] := hl
  refine lv_aload_n hx hb d_X_needEncoding_0 rfl (lv_at hl 0 rfl) ?_
  refine va_get (D := E.1) (ci := 4) (v := .int (bI st.2.1)) (C := R_X) (T := T_X) (N := 10) hx hb hts in_X hown hK hP 0 rfl rfl 8 (by decide) (hts _ m_159) (fun _ h9 => h9) rfl d_X_needEncoding_1 ?_
  refine lv_if_eq (tgt := 17) hx hb d_X_needEncoding_4 (by decide) (fun c1 => ?_) (fun c1 => ?_)
  · replace hok := hok.1 c1
    exact hok.elim
  · replace hok := hok.2 c1
    exact ar_throw (names := ["java/lang/RuntimeException", "java/lang/Exception"]) hx hb hlt hown (by decide +kernel) (by decide +kernel) (hts _ m_378) (hts _ m_12) (hZ.2.2.2.2.2.2.2.2.1 1 (by decide)) (hZ.own hts hS (k := 1) (by decide) own_b) hP hD hS (hl.1.trans hml.symm) d_X_needEncoding_7 d_X_needEncoding_10 d_X_needEncoding_11 d_X_needEncoding_13 d_X_needEncoding_16 hex (Nat.le_of_ble_eq_true rfl) (Nat.le_of_ble_eq_true rfl) (Nat.le_of_ble_eq_true rfl) (Nat.le_of_ble_eq_true rfl) rfl rfl hlocks

def k_X_needDecoding_T1 (nx : Nat) (st : XoS) : Prop := ((bI st.2.1 = 0) → True) ∧ (¬ (bI st.2.1 = 0) → False)
set_option maxHeartbeats 4000000 in
set_option maxRecDepth 100000 in
theorem c_X_needDecoding_T1 (l : Launch) (hlt : l.stackTraces = false) (E : Ev) (A : Nat → Prop) (x es ds h he hd ak nx : Nat) (st : XoS)   (hok : k_X_needDecoding_T1 nx st) :
    KtX l y_X_needDecoding b_X_needDecoding 1 none 6 E A [.ref x] [(x, .inr (4, [.int (nI nx), .ref es, .ref ds, .ref h, .ref he, .ref hd, .ref ak, .int st.1, .int (bI st.2.1), .int st.2.2]))] "java/lang/IllegalStateException" := by
  unfold k_X_needDecoding_T1 at hok
  refine KtX.of (by decide) (Nat.le_of_ble_eq_true rfl) ?_
  intro p e s m below meth c ls hx hb hml hown hts hr hlocks hex hin hA hZ hP hK hD hl
  have hS : va_S A s.heap s.heap [] := va_S.rf
  have hl : lv_has ls 1 [(0, .ref x)] := hl
  refine lv_aload_n hx hb d_X_needDecoding_0 rfl (lv_at hl 0 rfl) ?_
  refine va_get (D := E.1) (ci := 4) (v := .int (bI st.2.1)) (C := R_X) (T := T_X) (N := 10) hx hb hts in_X hown hK hP 0 rfl rfl 8 (by decide) (hts _ m_159) (fun _ h9 => h9) rfl d_X_needDecoding_1 ?_
  refine lv_if_ne (tgt := 17) hx hb d_X_needDecoding_4 (by decide) (fun c1 => ?_) (fun c1 => ?_)
  · replace hok := hok.2 c1
    exact hok.elim
  · replace hok := hok.1 c1
    exact ar_throw (names := ["java/lang/RuntimeException", "java/lang/Exception"]) hx hb hlt hown (by decide +kernel) (by decide +kernel) (hts _ m_378) (hts _ m_12) (hZ.2.2.2.2.2.2.2.2.1 6 (by decide)) (hZ.own hts hS (k := 1) (by decide) own_b) hP hD hS (hl.1.trans hml.symm) d_X_needDecoding_7 d_X_needDecoding_10 d_X_needDecoding_11 d_X_needDecoding_13 d_X_needDecoding_16 hex (Nat.le_of_ble_eq_true rfl) (Nat.le_of_ble_eq_true rfl) (Nat.le_of_ble_eq_true rfl) (Nat.le_of_ble_eq_true rfl) rfl rfl hlocks
