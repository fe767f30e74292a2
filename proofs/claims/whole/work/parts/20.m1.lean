/-! the reference: state -/
abbrev MoS : Type := Int32 × Int32 × Int32 × Int32 × Bool × Int32 × Int32 × Int32 × Int32 × Int32 × Int32 × Int32 × Int32 × Int64 × Int32 × Int32 × Int32 × Bool × Int32 × Int32
abbrev MS : Type := MoS × (Nat → Int32) × (Nat → Int32) × (Nat → Int32) × (Nat → Int32) × (Nat → Int32)

noncomputable def f_M_in (p0 : Int32) (p1 : Int32) (p2 : Int32)  : Bool :=
  if p0 < p1 then
    false
  else
    if p2 < p0 then
      false
    else
      true
theorem f_M_in_s (p0 : Int32) (p1 : Int32) (p2 : Int32)  : f_M_in p0 p1 p2  = ((
  if p0 < p1 then
    false
  else
    if p2 < p0 then
      false
    else
      true
  : Bool)) := rfl
set_option maxHeartbeats 4000000 in
set_option maxRecDepth 100000 in
theorem c_M_in (l : Launch) (E : Ev) (A : Nat → Prop)   (p0 : Int32) (p1 : Int32) (p2 : Int32)  :
    Kt l y_M_in b_M_in 3 (some .boolean) 0 0 0 E A [.int p0, .int p1, .int p2] [] (va_Qi (fun (r : Int32) (_ : Unit) => r = bI (f_M_in p0 p1 p2)) (ar_W E A (fun _ : Unit => [])) A) := by
  refine Kt.of (by decide) (Nat.le_of_ble_eq_true rfl) ?_
  intro p e s m below meth c ls hx hb hml hown hts hr hlocks hex hin hA hZ hP hK hD hl
  have hS : va_S A s.heap s.heap [] := va_S.rf
  have hl : lv_has ls 3 [(0, .int p0), (1, .int p1), (2, .int p2)] := hl
  refine lv_iload_n hx hb d_M_in_0 rfl (lv_at hl 0 rfl) ?_
  refine lv_iload_n hx hb d_M_in_1 rfl (lv_at hl 1 rfl) ?_
  refine lv_icmp_lt (tgt := 14) hx hb d_M_in_2 (by decide) (fun c1 => ?_) (fun c1 => ?_)
  · skip
    refine lv_iconst (v := 0) hx hb d_M_in_14 (by decide) ?_
    exact ar_zret hx hb hr hlocks hK hS () (by exact zr_of (b := false) (Eq.trans (f_M_in_s p0 p1 p2 ) (Eq.trans (if_pos c1) rfl)) rfl) hP hD rfl d_M_in_15
  · skip
    refine lv_iload_n hx hb d_M_in_5 rfl (lv_at hl 0 rfl) ?_
    refine lv_iload_n hx hb d_M_in_6 rfl (lv_at hl 2 rfl) ?_
    refine lv_icmp_gt (tgt := 14) hx hb d_M_in_7 (by decide) (fun c2 => ?_) (fun c2 => ?_)
    · skip
      refine lv_iconst (v := 0) hx hb d_M_in_14 (by decide) ?_
      exact ar_zret hx hb hr hlocks hK hS () (by exact zr_of (b := false) (Eq.trans (f_M_in_s p0 p1 p2 ) (Eq.trans (if_neg c1) (Eq.trans (if_pos c2) rfl))) rfl) hP hD rfl d_M_in_15
    · skip
      refine lv_iconst (v := 1) hx hb d_M_in_10 (by decide) ?_
      refine lv_goto (tgt := 15) hx hb d_M_in_11 (by decide) ?_
      exact ar_zret hx hb hr hlocks hK hS () (by exact zr_of (b := true) (Eq.trans (f_M_in_s p0 p1 p2 ) (Eq.trans (if_neg c1) (Eq.trans (if_neg c2) rfl))) rfl) hP hD rfl d_M_in_15

noncomputable def f_M_leastOf (p0 : Int32)  : Int32 :=
  if p0 = 0 then
    0
  else
    if p0 = 1 then
      4
    else
      if p0 = 2 then
        20
      else
        if p0 = 3 then
          84
        else
          if p0 = 4 then
            340
          else
            4436
theorem f_M_leastOf_s (p0 : Int32)  : f_M_leastOf p0  = ((
  if p0 = 0 then
    0
  else
    if p0 = 1 then
      4
    else
      if p0 = 2 then
        20
      else
        if p0 = 3 then
          84
        else
          if p0 = 4 then
            340
          else
            4436
  : Int32)) := rfl
set_option maxHeartbeats 4000000 in
set_option maxRecDepth 100000 in
theorem c_M_leastOf (l : Launch) (E : Ev) (A : Nat → Prop)   (p0 : Int32)  :
    Kt l y_M_leastOf b_M_leastOf 1 (some .int) 0 0 0 E A [.int p0] [] (va_Qi (fun (r : Int32) (_ : Unit) => r = f_M_leastOf p0) (ar_W E A (fun _ : Unit => [])) A) := by
  refine Kt.of (by decide) (Nat.le_of_ble_eq_true rfl) ?_
  intro p e s m below meth c ls hx hb hml hown hts hr hlocks hex hin hA hZ hP hK hD hl
  have hS : va_S A s.heap s.heap [] := va_S.rf
  have hl : lv_has ls 1 [(0, .int p0)] := hl
  refine lv_iload_n hx hb d_M_leastOf_0 rfl (lv_at hl 0 rfl) ?_
  refine lv_if_ne (tgt := 8) hx hb d_M_leastOf_1 (by decide) (fun c1 => ?_) (fun c1 => ?_)
  · skip
    refine lv_iload_n hx hb d_M_leastOf_8 rfl (lv_at hl 0 rfl) ?_
    refine lv_iconst (v := 1) hx hb d_M_leastOf_9 (by decide) ?_
    refine lv_icmp_ne (tgt := 17) hx hb d_M_leastOf_10 (by decide) (fun c2 => ?_) (fun c2 => ?_)
    · skip
      refine lv_iload_n hx hb d_M_leastOf_17 rfl (lv_at hl 0 rfl) ?_
      refine lv_iconst (v := 2) hx hb d_M_leastOf_18 (by decide) ?_
      refine lv_icmp_ne (tgt := 27) hx hb d_M_leastOf_19 (by decide) (fun c3 => ?_) (fun c3 => ?_)
      · skip
        refine lv_iload_n hx hb d_M_leastOf_27 rfl (lv_at hl 0 rfl) ?_
        refine lv_iconst (v := 3) hx hb d_M_leastOf_28 (by decide) ?_
        refine lv_icmp_ne (tgt := 37) hx hb d_M_leastOf_29 (by decide) (fun c4 => ?_) (fun c4 => ?_)
        · skip
          refine lv_iload_n hx hb d_M_leastOf_37 rfl (lv_at hl 0 rfl) ?_
          refine lv_iconst (v := 4) hx hb d_M_leastOf_38 (by decide) ?_
          refine lv_icmp_ne (tgt := 48) hx hb d_M_leastOf_39 (by decide) (fun c5 => ?_) (fun c5 => ?_)
          · skip
            refine lv_sipush (v := 4436) hx hb d_M_leastOf_48 (by decide) ?_
            exact ar_iret hx hb hr hlocks hK hS () (by exact Eq.symm (Eq.trans (f_M_leastOf_s p0 ) (Eq.trans (if_neg c1) (Eq.trans (if_neg c2) (Eq.trans (if_neg c3) (Eq.trans (if_neg c4) (Eq.trans (if_neg c5) rfl))))))) hP hD d_M_leastOf_51
          · skip
            refine lv_sipush (v := 340) hx hb d_M_leastOf_42 (by decide) ?_
            refine lv_goto (tgt := 51) hx hb d_M_leastOf_45 (by decide) ?_
            exact ar_iret hx hb hr hlocks hK hS () (by exact Eq.symm (Eq.trans (f_M_leastOf_s p0 ) (Eq.trans (if_neg c1) (Eq.trans (if_neg c2) (Eq.trans (if_neg c3) (Eq.trans (if_neg c4) (Eq.trans (if_pos c5) rfl))))))) hP hD d_M_leastOf_51
        · skip
          refine lv_bipush (v := 84) hx hb d_M_leastOf_32 (by decide) ?_
          refine lv_goto (tgt := 51) hx hb d_M_leastOf_34 (by decide) ?_
          exact ar_iret hx hb hr hlocks hK hS () (by exact Eq.symm (Eq.trans (f_M_leastOf_s p0 ) (Eq.trans (if_neg c1) (Eq.trans (if_neg c2) (Eq.trans (if_neg c3) (Eq.trans (if_pos c4) rfl)))))) hP hD d_M_leastOf_51
      · skip
        refine lv_bipush (v := 20) hx hb d_M_leastOf_22 (by decide) ?_
        refine lv_goto (tgt := 51) hx hb d_M_leastOf_24 (by decide) ?_
        exact ar_iret hx hb hr hlocks hK hS () (by exact Eq.symm (Eq.trans (f_M_leastOf_s p0 ) (Eq.trans (if_neg c1) (Eq.trans (if_neg c2) (Eq.trans (if_pos c3) rfl))))) hP hD d_M_leastOf_51
    · skip
      refine lv_iconst (v := 4) hx hb d_M_leastOf_13 (by decide) ?_
      refine lv_goto (tgt := 51) hx hb d_M_leastOf_14 (by decide) ?_
      exact ar_iret hx hb hr hlocks hK hS () (by exact Eq.symm (Eq.trans (f_M_leastOf_s p0 ) (Eq.trans (if_neg c1) (Eq.trans (if_pos c2) rfl)))) hP hD d_M_leastOf_51
  · skip
    refine lv_iconst (v := 0) hx hb d_M_leastOf_4 (by decide) ?_
    refine lv_goto (tgt := 51) hx hb d_M_leastOf_5 (by decide) ?_
    exact ar_iret hx hb hr hlocks hK hS () (by exact Eq.symm (Eq.trans (f_M_leastOf_s p0 ) (Eq.trans (if_pos c1) rfl))) hP hD d_M_leastOf_51

noncomputable def f_M_thrown (nx : Nat) (st : MS) : Int32 :=
  st.1.1
theorem f_M_thrown_s (nx : Nat) (st : MS) : f_M_thrown nx st = ((
  st.1.1
  : Int32)) := rfl
def k_M_thrown (nx : Nat) (st : MS) : Prop := True
set_option maxHeartbeats 4000000 in
set_option maxRecDepth 100000 in
theorem c_M_thrown (l : Launch) (E : Ev) (A : Nat → Prop) (mo mc sv sa wr bt s1 s2 s3 nx : Nat) (st : MS)   (hok : k_M_thrown nx st) :
    Kt l y_M_thrown b_M_thrown 1 (some .int) 0 0 0 E A [.ref mo] [(mo, .inr (5, [.ref s1, .ref s2, .ref s3, .int st.1.1, .int (nI nx), .ref mc, .int st.1.2.1, .ref sv, .int st.1.2.2.1, .ref sa, .ref wr, .int st.1.2.2.2.1, .ref bt, .int (bI st.1.2.2.2.2.1), .int st.1.2.2.2.2.2.1, .int st.1.2.2.2.2.2.2.1, .int st.1.2.2.2.2.2.2.2.1, .int st.1.2.2.2.2.2.2.2.2.1, .int st.1.2.2.2.2.2.2.2.2.2.1, .int st.1.2.2.2.2.2.2.2.2.2.2.1, .int st.1.2.2.2.2.2.2.2.2.2.2.2.1, .int st.1.2.2.2.2.2.2.2.2.2.2.2.2.1, .long st.1.2.2.2.2.2.2.2.2.2.2.2.2.2.1, .int st.1.2.2.2.2.2.2.2.2.2.2.2.2.2.2.1, .int st.1.2.2.2.2.2.2.2.2.2.2.2.2.2.2.2.1, .int st.1.2.2.2.2.2.2.2.2.2.2.2.2.2.2.2.2.1, .int (bI st.1.2.2.2.2.2.2.2.2.2.2.2.2.2.2.2.2.2.1), .int st.1.2.2.2.2.2.2.2.2.2.2.2.2.2.2.2.2.2.2.1, .int st.1.2.2.2.2.2.2.2.2.2.2.2.2.2.2.2.2.2.2.2])), (mc, .inl (E.2.1 0, 139264, .inl st.2.1)), (sv, .inl (E.2.1 0, 393216, .inl st.2.2.1)), (sa, .inl (E.2.1 0, 1100, .inl st.2.2.2.1)), (wr, .inl (E.2.1 1, 1100, .inl st.2.2.2.2.1)), (bt, .inl (E.2.1 0, 120000, .inl st.2.2.2.2.2)), (s1, .inl (E.2.1 0, 47, .inl (zF 0))), (s2, .inl (E.2.1 0, 47, .inl (zF 1))), (s3, .inl (E.2.1 0, 47, .inl (zF 2)))] (va_Qi (fun (r : Int32) (_ : Unit) => r = f_M_thrown nx st) (ar_W E A (fun _ : Unit => [(mo, .inr (5, [.ref s1, .ref s2, .ref s3, .int st.1.1, .int (nI nx), .ref mc, .int st.1.2.1, .ref sv, .int st.1.2.2.1, .ref sa, .ref wr, .int st.1.2.2.2.1, .ref bt, .int (bI st.1.2.2.2.2.1), .int st.1.2.2.2.2.2.1, .int st.1.2.2.2.2.2.2.1, .int st.1.2.2.2.2.2.2.2.1, .int st.1.2.2.2.2.2.2.2.2.1, .int st.1.2.2.2.2.2.2.2.2.2.1, .int st.1.2.2.2.2.2.2.2.2.2.2.1, .int st.1.2.2.2.2.2.2.2.2.2.2.2.1, .int st.1.2.2.2.2.2.2.2.2.2.2.2.2.1, .long st.1.2.2.2.2.2.2.2.2.2.2.2.2.2.1, .int st.1.2.2.2.2.2.2.2.2.2.2.2.2.2.2.1, .int st.1.2.2.2.2.2.2.2.2.2.2.2.2.2.2.2.1, .int st.1.2.2.2.2.2.2.2.2.2.2.2.2.2.2.2.2.1, .int (bI st.1.2.2.2.2.2.2.2.2.2.2.2.2.2.2.2.2.2.1), .int st.1.2.2.2.2.2.2.2.2.2.2.2.2.2.2.2.2.2.2.1, .int st.1.2.2.2.2.2.2.2.2.2.2.2.2.2.2.2.2.2.2.2])), (mc, .inl (E.2.1 0, 139264, .inl st.2.1)), (sv, .inl (E.2.1 0, 393216, .inl st.2.2.1)), (sa, .inl (E.2.1 0, 1100, .inl st.2.2.2.1)), (wr, .inl (E.2.1 1, 1100, .inl st.2.2.2.2.1)), (bt, .inl (E.2.1 0, 120000, .inl st.2.2.2.2.2)), (s1, .inl (E.2.1 0, 47, .inl (zF 0))), (s2, .inl (E.2.1 0, 47, .inl (zF 1))), (s3, .inl (E.2.1 0, 47, .inl (zF 2)))])) A) := by
  unfold k_M_thrown at hok
  refine Kt.of (by decide) (Nat.le_of_ble_eq_true rfl) ?_
  intro p e s m below meth c ls hx hb hml hown hts hr hlocks hex hin hA hZ hP hK hD hl
  have hS : va_S A s.heap s.heap [] := va_S.rf
  have hl : lv_has ls 1 [(0, .ref mo)] := hl
  refine lv_aload_n hx hb d_M_thrown_0 rfl (lv_at hl 0 rfl) ?_
  refine va_get (D := E.1) (ci := 5) (v := .int st.1.1) (C := R_M) (T := T_M) (N := 29) hx hb hts in_M hown hK hP 0 rfl rfl 3 (by decide) (hts _ m_613) (fun _ h9 => h9) rfl d_M_thrown_1 ?_
  exact ar_iret hx hb hr hlocks hK hS () (by exact Eq.symm (Eq.trans (f_M_thrown_s nx st) rfl)) hP hD d_M_thrown_4

noncomputable def f_M_side (nx : Nat) (st : MS) : Int32 :=
  if bI st.1.2.2.2.2.1 = 0 then
    0
  else
    1
theorem f_M_side_s (nx : Nat) (st : MS) : f_M_side nx st = ((
  if bI st.1.2.2.2.2.1 = 0 then
    0
  else
    1
  : Int32)) := rfl
def k_M_side (nx : Nat) (st : MS) : Prop := ((bI st.1.2.2.2.2.1 = 0) → True) ∧ (¬ (bI st.1.2.2.2.2.1 = 0) → True)
set_option maxHeartbeats 4000000 in
set_option maxRecDepth 100000 in
theorem c_M_side (l : Launch) (E : Ev) (A : Nat → Prop) (mo mc sv sa wr bt s1 s2 s3 nx : Nat) (st : MS)   (hok : k_M_side nx st) :
    Kt l y_M_side b_M_side 1 (some .int) 0 0 0 E A [.ref mo] [(mo, .inr (5, [.ref s1, .ref s2, .ref s3, .int st.1.1, .int (nI nx), .ref mc, .int st.1.2.1, .ref sv, .int st.1.2.2.1, .ref sa, .ref wr, .int st.1.2.2.2.1, .ref bt, .int (bI st.1.2.2.2.2.1), .int st.1.2.2.2.2.2.1, .int st.1.2.2.2.2.2.2.1, .int st.1.2.2.2.2.2.2.2.1, .int st.1.2.2.2.2.2.2.2.2.1, .int st.1.2.2.2.2.2.2.2.2.2.1, .int st.1.2.2.2.2.2.2.2.2.2.2.1, .int st.1.2.2.2.2.2.2.2.2.2.2.2.1, .int st.1.2.2.2.2.2.2.2.2.2.2.2.2.1, .long st.1.2.2.2.2.2.2.2.2.2.2.2.2.2.1, .int st.1.2.2.2.2.2.2.2.2.2.2.2.2.2.2.1, .int st.1.2.2.2.2.2.2.2.2.2.2.2.2.2.2.2.1, .int st.1.2.2.2.2.2.2.2.2.2.2.2.2.2.2.2.2.1, .int (bI st.1.2.2.2.2.2.2.2.2.2.2.2.2.2.2.2.2.2.1), .int st.1.2.2.2.2.2.2.2.2.2.2.2.2.2.2.2.2.2.2.1, .int st.1.2.2.2.2.2.2.2.2.2.2.2.2.2.2.2.2.2.2.2])), (mc, .inl (E.2.1 0, 139264, .inl st.2.1)), (sv, .inl (E.2.1 0, 393216, .inl st.2.2.1)), (sa, .inl (E.2.1 0, 1100, .inl st.2.2.2.1)), (wr, .inl (E.2.1 1, 1100, .inl st.2.2.2.2.1)), (bt, .inl (E.2.1 0, 120000, .inl st.2.2.2.2.2)), (s1, .inl (E.2.1 0, 47, .inl (zF 0))), (s2, .inl (E.2.1 0, 47, .inl (zF 1))), (s3, .inl (E.2.1 0, 47, .inl (zF 2)))] (va_Qi (fun (r : Int32) (_ : Unit) => r = f_M_side nx st) (ar_W E A (fun _ : Unit => [(mo, .inr (5, [.ref s1, .ref s2, .ref s3, .int st.1.1, .int (nI nx), .ref mc, .int st.1.2.1, .ref sv, .int st.1.2.2.1, .ref sa, .ref wr, .int st.1.2.2.2.1, .ref bt, .int (bI st.1.2.2.2.2.1), .int st.1.2.2.2.2.2.1, .int st.1.2.2.2.2.2.2.1, .int st.1.2.2.2.2.2.2.2.1, .int st.1.2.2.2.2.2.2.2.2.1, .int st.1.2.2.2.2.2.2.2.2.2.1, .int st.1.2.2.2.2.2.2.2.2.2.2.1, .int st.1.2.2.2.2.2.2.2.2.2.2.2.1, .int st.1.2.2.2.2.2.2.2.2.2.2.2.2.1, .long st.1.2.2.2.2.2.2.2.2.2.2.2.2.2.1, .int st.1.2.2.2.2.2.2.2.2.2.2.2.2.2.2.1, .int st.1.2.2.2.2.2.2.2.2.2.2.2.2.2.2.2.1, .int st.1.2.2.2.2.2.2.2.2.2.2.2.2.2.2.2.2.1, .int (bI st.1.2.2.2.2.2.2.2.2.2.2.2.2.2.2.2.2.2.1), .int st.1.2.2.2.2.2.2.2.2.2.2.2.2.2.2.2.2.2.2.1, .int st.1.2.2.2.2.2.2.2.2.2.2.2.2.2.2.2.2.2.2.2])), (mc, .inl (E.2.1 0, 139264, .inl st.2.1)), (sv, .inl (E.2.1 0, 393216, .inl st.2.2.1)), (sa, .inl (E.2.1 0, 1100, .inl st.2.2.2.1)), (wr, .inl (E.2.1 1, 1100, .inl st.2.2.2.2.1)), (bt, .inl (E.2.1 0, 120000, .inl st.2.2.2.2.2)), (s1, .inl (E.2.1 0, 47, .inl (zF 0))), (s2, .inl (E.2.1 0, 47, .inl (zF 1))), (s3, .inl (E.2.1 0, 47, .inl (zF 2)))])) A) := by
  unfold k_M_side at hok
  refine Kt.of (by decide) (Nat.le_of_ble_eq_true rfl) ?_
  intro p e s m below meth c ls hx hb hml hown hts hr hlocks hex hin hA hZ hP hK hD hl
  have hS : va_S A s.heap s.heap [] := va_S.rf
  have hl : lv_has ls 1 [(0, .ref mo)] := hl
  refine lv_aload_n hx hb d_M_side_0 rfl (lv_at hl 0 rfl) ?_
  refine va_get (D := E.1) (ci := 5) (v := .int (bI st.1.2.2.2.2.1)) (C := R_M) (T := T_M) (N := 29) hx hb hts in_M hown hK hP 0 rfl rfl 13 (by decide) (hts _ m_623) (fun _ h9 => h9) rfl d_M_side_1 ?_
  refine lv_if_eq (tgt := 11) hx hb d_M_side_4 (by decide) (fun c1 => ?_) (fun c1 => ?_)
  · replace hok := hok.1 c1
    refine lv_iconst (v := 0) hx hb d_M_side_11 (by decide) ?_
    exact ar_iret hx hb hr hlocks hK hS () (by exact Eq.symm (Eq.trans (f_M_side_s nx st) (Eq.trans (if_pos c1) rfl))) hP hD d_M_side_12
  · replace hok := hok.2 c1
    refine lv_iconst (v := 1) hx hb d_M_side_7 (by decide) ?_
    refine lv_goto (tgt := 12) hx hb d_M_side_8 (by decide) ?_
    exact ar_iret hx hb hr hlocks hK hS () (by exact Eq.symm (Eq.trans (f_M_side_s nx st) (Eq.trans (if_neg c1) rfl))) hP hD d_M_side_12

noncomputable def f_M_placeOf (nx : Nat) (p0 : Int32) (st : MS) : Int32 :=
  let r2 := f_M_side nx  st
  ((65536 * r2) + p0)
theorem f_M_placeOf_s (nx : Nat) (p0 : Int32) (st : MS) : f_M_placeOf nx p0 st = ((
  let r2 := f_M_side nx  st
  ((65536 * r2) + p0)
  : Int32)) := rfl
def k_M_placeOf (nx : Nat) (p0 : Int32) (st : MS) : Prop := (k_M_side nx  st) ∧ ((∀ r2, r2 = f_M_side nx  st → True))
set_option maxHeartbeats 4000000 in
set_option maxRecDepth 100000 in
theorem c_M_placeOf (l : Launch) (E : Ev) (A : Nat → Prop) (mo mc sv sa wr bt s1 s2 s3 nx : Nat) (st : MS) (p0 : Int32)  (hok : k_M_placeOf nx p0 st) :
    Kt l y_M_placeOf b_M_placeOf 2 (some .int) 1 0 0 E A [.ref mo, .int p0] [(mo, .inr (5, [.ref s1, .ref s2, .ref s3, .int st.1.1, .int (nI nx), .ref mc, .int st.1.2.1, .ref sv, .int st.1.2.2.1, .ref sa, .ref wr, .int st.1.2.2.2.1, .ref bt, .int (bI st.1.2.2.2.2.1), .int st.1.2.2.2.2.2.1, .int st.1.2.2.2.2.2.2.1, .int st.1.2.2.2.2.2.2.2.1, .int st.1.2.2.2.2.2.2.2.2.1, .int st.1.2.2.2.2.2.2.2.2.2.1, .int st.1.2.2.2.2.2.2.2.2.2.2.1, .int st.1.2.2.2.2.2.2.2.2.2.2.2.1, .int st.1.2.2.2.2.2.2.2.2.2.2.2.2.1, .long st.1.2.2.2.2.2.2.2.2.2.2.2.2.2.1, .int st.1.2.2.2.2.2.2.2.2.2.2.2.2.2.2.1, .int st.1.2.2.2.2.2.2.2.2.2.2.2.2.2.2.2.1, .int st.1.2.2.2.2.2.2.2.2.2.2.2.2.2.2.2.2.1, .int (bI st.1.2.2.2.2.2.2.2.2.2.2.2.2.2.2.2.2.2.1), .int st.1.2.2.2.2.2.2.2.2.2.2.2.2.2.2.2.2.2.2.1, .int st.1.2.2.2.2.2.2.2.2.2.2.2.2.2.2.2.2.2.2.2])), (mc, .inl (E.2.1 0, 139264, .inl st.2.1)), (sv, .inl (E.2.1 0, 393216, .inl st.2.2.1)), (sa, .inl (E.2.1 0, 1100, .inl st.2.2.2.1)), (wr, .inl (E.2.1 1, 1100, .inl st.2.2.2.2.1)), (bt, .inl (E.2.1 0, 120000, .inl st.2.2.2.2.2)), (s1, .inl (E.2.1 0, 47, .inl (zF 0))), (s2, .inl (E.2.1 0, 47, .inl (zF 1))), (s3, .inl (E.2.1 0, 47, .inl (zF 2)))] (va_Qi (fun (r : Int32) (_ : Unit) => r = f_M_placeOf nx p0 st) (ar_W E A (fun _ : Unit => [(mo, .inr (5, [.ref s1, .ref s2, .ref s3, .int st.1.1, .int (nI nx), .ref mc, .int st.1.2.1, .ref sv, .int st.1.2.2.1, .ref sa, .ref wr, .int st.1.2.2.2.1, .ref bt, .int (bI st.1.2.2.2.2.1), .int st.1.2.2.2.2.2.1, .int st.1.2.2.2.2.2.2.1, .int st.1.2.2.2.2.2.2.2.1, .int st.1.2.2.2.2.2.2.2.2.1, .int st.1.2.2.2.2.2.2.2.2.2.1, .int st.1.2.2.2.2.2.2.2.2.2.2.1, .int st.1.2.2.2.2.2.2.2.2.2.2.2.1, .int st.1.2.2.2.2.2.2.2.2.2.2.2.2.1, .long st.1.2.2.2.2.2.2.2.2.2.2.2.2.2.1, .int st.1.2.2.2.2.2.2.2.2.2.2.2.2.2.2.1, .int st.1.2.2.2.2.2.2.2.2.2.2.2.2.2.2.2.1, .int st.1.2.2.2.2.2.2.2.2.2.2.2.2.2.2.2.2.1, .int (bI st.1.2.2.2.2.2.2.2.2.2.2.2.2.2.2.2.2.2.1), .int st.1.2.2.2.2.2.2.2.2.2.2.2.2.2.2.2.2.2.2.1, .int st.1.2.2.2.2.2.2.2.2.2.2.2.2.2.2.2.2.2.2.2])), (mc, .inl (E.2.1 0, 139264, .inl st.2.1)), (sv, .inl (E.2.1 0, 393216, .inl st.2.2.1)), (sa, .inl (E.2.1 0, 1100, .inl st.2.2.2.1)), (wr, .inl (E.2.1 1, 1100, .inl st.2.2.2.2.1)), (bt, .inl (E.2.1 0, 120000, .inl st.2.2.2.2.2)), (s1, .inl (E.2.1 0, 47, .inl (zF 0))), (s2, .inl (E.2.1 0, 47, .inl (zF 1))), (s3, .inl (E.2.1 0, 47, .inl (zF 2)))])) A) := by
  unfold k_M_placeOf at hok
  refine Kt.of (by decide) (Nat.le_of_ble_eq_true rfl) ?_
  intro p e s m below meth c ls hx hb hml hown hts hr hlocks hex hin hA hZ hP hK hD hl
  have hS : va_S A s.heap s.heap [] := va_S.rf
  have hl : lv_has ls 2 [(0, .ref mo), (1, .int p0)] := hl
  refine lv_ldc (v := 65536) hx hb hown (hts _ m_604) d_M_placeOf_0 ?_
  refine lv_aload_n hx hb d_M_placeOf_2 rfl (lv_at hl 0 rfl) ?_
  obtain ⟨hk1, hok⟩ := hok
  refine ar_usei (wr := []) hP hD hS hA [0, 1, 2, 3, 4, 5, 6, 7, 8] [] rfl rfl rfl (by decide) (ar_runV (n := 0) (As := []) (rest := [.int 65536]) (ci := 5) (q0 := 0) hx hb hml hown hts hP hD hS hA hK hZ (c_M_side l E _ mo mc sv sa wr bt s1 s2 s3 nx st  hk1) m_713 m_715 ms_22 m_7 m_716 (by decide +kernel) ⟨Nat.le_of_ble_eq_true rfl, Nat.le_of_ble_eq_true rfl⟩ [0, 1, 2, 3, 4, 5, 6, 7, 8] rfl rfl rfl rfl rfl rfl rfl hl.1 rfl (Nat.le_of_ble_eq_true rfl) d_M_placeOf_3 ⟨Nat.le_of_ble_eq_true rfl, Nat.le_of_ble_eq_true rfl⟩) (fun r2 _ Hn locsn hw2 hPn hDn hSn => ?_)
  replace hok := hok r2 hw2
  clear hP hD hS
  have hP : va_P E.1 classes [(mo, .inr (5, [.ref s1, .ref s2, .ref s3, .int st.1.1, .int (nI nx), .ref mc, .int st.1.2.1, .ref sv, .int st.1.2.2.1, .ref sa, .ref wr, .int st.1.2.2.2.1, .ref bt, .int (bI st.1.2.2.2.2.1), .int st.1.2.2.2.2.2.1, .int st.1.2.2.2.2.2.2.1, .int st.1.2.2.2.2.2.2.2.1, .int st.1.2.2.2.2.2.2.2.2.1, .int st.1.2.2.2.2.2.2.2.2.2.1, .int st.1.2.2.2.2.2.2.2.2.2.2.1, .int st.1.2.2.2.2.2.2.2.2.2.2.2.1, .int st.1.2.2.2.2.2.2.2.2.2.2.2.2.1, .long st.1.2.2.2.2.2.2.2.2.2.2.2.2.2.1, .int st.1.2.2.2.2.2.2.2.2.2.2.2.2.2.2.1, .int st.1.2.2.2.2.2.2.2.2.2.2.2.2.2.2.2.1, .int st.1.2.2.2.2.2.2.2.2.2.2.2.2.2.2.2.2.1, .int (bI st.1.2.2.2.2.2.2.2.2.2.2.2.2.2.2.2.2.2.1), .int st.1.2.2.2.2.2.2.2.2.2.2.2.2.2.2.2.2.2.2.1, .int st.1.2.2.2.2.2.2.2.2.2.2.2.2.2.2.2.2.2.2.2])), (mc, .inl (E.2.1 0, 139264, .inl st.2.1)), (sv, .inl (E.2.1 0, 393216, .inl st.2.2.1)), (sa, .inl (E.2.1 0, 1100, .inl st.2.2.2.1)), (wr, .inl (E.2.1 1, 1100, .inl st.2.2.2.2.1)), (bt, .inl (E.2.1 0, 120000, .inl st.2.2.2.2.2)), (s1, .inl (E.2.1 0, 47, .inl (zF 0))), (s2, .inl (E.2.1 0, 47, .inl (zF 1))), (s3, .inl (E.2.1 0, 47, .inl (zF 2)))] Hn := hPn
  have hD : va_D A [(mo, .inr (5, [.ref s1, .ref s2, .ref s3, .int st.1.1, .int (nI nx), .ref mc, .int st.1.2.1, .ref sv, .int st.1.2.2.1, .ref sa, .ref wr, .int st.1.2.2.2.1, .ref bt, .int (bI st.1.2.2.2.2.1), .int st.1.2.2.2.2.2.1, .int st.1.2.2.2.2.2.2.1, .int st.1.2.2.2.2.2.2.2.1, .int st.1.2.2.2.2.2.2.2.2.1, .int st.1.2.2.2.2.2.2.2.2.2.1, .int st.1.2.2.2.2.2.2.2.2.2.2.1, .int st.1.2.2.2.2.2.2.2.2.2.2.2.1, .int st.1.2.2.2.2.2.2.2.2.2.2.2.2.1, .long st.1.2.2.2.2.2.2.2.2.2.2.2.2.2.1, .int st.1.2.2.2.2.2.2.2.2.2.2.2.2.2.2.1, .int st.1.2.2.2.2.2.2.2.2.2.2.2.2.2.2.2.1, .int st.1.2.2.2.2.2.2.2.2.2.2.2.2.2.2.2.2.1, .int (bI st.1.2.2.2.2.2.2.2.2.2.2.2.2.2.2.2.2.2.1), .int st.1.2.2.2.2.2.2.2.2.2.2.2.2.2.2.2.2.2.2.1, .int st.1.2.2.2.2.2.2.2.2.2.2.2.2.2.2.2.2.2.2.2])), (mc, .inl (E.2.1 0, 139264, .inl st.2.1)), (sv, .inl (E.2.1 0, 393216, .inl st.2.2.1)), (sa, .inl (E.2.1 0, 1100, .inl st.2.2.2.1)), (wr, .inl (E.2.1 1, 1100, .inl st.2.2.2.2.1)), (bt, .inl (E.2.1 0, 120000, .inl st.2.2.2.2.2)), (s1, .inl (E.2.1 0, 47, .inl (zF 0))), (s2, .inl (E.2.1 0, 47, .inl (zF 1))), (s3, .inl (E.2.1 0, 47, .inl (zF 2)))] := hDn
  have hS := hSn
  clear hPn hDn hSn
  refine lv_imul hx hb d_M_placeOf_6 ?_
  refine lv_iload_n hx hb d_M_placeOf_7 rfl (lv_at hl 1 rfl) ?_
  refine lv_iadd hx hb d_M_placeOf_8 ?_
  exact ar_iret hx hb hr hlocks hK hS () (by subst hw2; exact Eq.symm (Eq.trans (f_M_placeOf_s nx p0 st) rfl)) hP hD d_M_placeOf_9

noncomputable def f_M_placeIn (nx : Nat) (p0 : Int32) (p1 : Int32) (st : MS) : Int32 :=
  let r2 := f_M_side nx  st
  ((131072 + (512 * ((8 * r2) + p0))) + p1)
theorem f_M_placeIn_s (nx : Nat) (p0 : Int32) (p1 : Int32) (st : MS) : f_M_placeIn nx p0 p1 st = ((
  let r2 := f_M_side nx  st
  ((131072 + (512 * ((8 * r2) + p0))) + p1)
  : Int32)) := rfl
def k_M_placeIn (nx : Nat) (p0 : Int32) (p1 : Int32) (st : MS) : Prop := (k_M_side nx  st) ∧ ((∀ r2, r2 = f_M_side nx  st → True))
set_option maxHeartbeats 4000000 in
set_option maxRecDepth 100000 in
theorem c_M_placeIn (l : Launch) (E : Ev) (A : Nat → Prop) (mo mc sv sa wr bt s1 s2 s3 nx : Nat) (st : MS) (p0 : Int32) (p1 : Int32)  (hok : k_M_placeIn nx p0 p1 st) :
    Kt l y_M_placeIn b_M_placeIn 3 (some .int) 1 0 0 E A [.ref mo, .int p0, .int p1] [(mo, .inr (5, [.ref s1, .ref s2, .ref s3, .int st.1.1, .int (nI nx), .ref mc, .int st.1.2.1, .ref sv, .int st.1.2.2.1, .ref sa, .ref wr, .int st.1.2.2.2.1, .ref bt, .int (bI st.1.2.2.2.2.1), .int st.1.2.2.2.2.2.1, .int st.1.2.2.2.2.2.2.1, .int st.1.2.2.2.2.2.2.2.1, .int st.1.2.2.2.2.2.2.2.2.1, .int st.1.2.2.2.2.2.2.2.2.2.1, .int st.1.2.2.2.2.2.2.2.2.2.2.1, .int st.1.2.2.2.2.2.2.2.2.2.2.2.1, .int st.1.2.2.2.2.2.2.2.2.2.2.2.2.1, .long st.1.2.2.2.2.2.2.2.2.2.2.2.2.2.1, .int st.1.2.2.2.2.2.2.2.2.2.2.2.2.2.2.1, .int st.1.2.2.2.2.2.2.2.2.2.2.2.2.2.2.2.1, .int st.1.2.2.2.2.2.2.2.2.2.2.2.2.2.2.2.2.1, .int (bI st.1.2.2.2.2.2.2.2.2.2.2.2.2.2.2.2.2.2.1), .int st.1.2.2.2.2.2.2.2.2.2.2.2.2.2.2.2.2.2.2.1, .int st.1.2.2.2.2.2.2.2.2.2.2.2.2.2.2.2.2.2.2.2])), (mc, .inl (E.2.1 0, 139264, .inl st.2.1)), (sv, .inl (E.2.1 0, 393216, .inl st.2.2.1)), (sa, .inl (E.2.1 0, 1100, .inl st.2.2.2.1)), (wr, .inl (E.2.1 1, 1100, .inl st.2.2.2.2.1)), (bt, .inl (E.2.1 0, 120000, .inl st.2.2.2.2.2)), (s1, .inl (E.2.1 0, 47, .inl (zF 0))), (s2, .inl (E.2.1 0, 47, .inl (zF 1))), (s3, .inl (E.2.1 0, 47, .inl (zF 2)))] (va_Qi (fun (r : Int32) (_ : Unit) => r = f_M_placeIn nx p0 p1 st) (ar_W E A (fun _ : Unit => [(mo, .inr (5, [.ref s1, .ref s2, .ref s3, .int st.1.1, .int (nI nx), .ref mc, .int st.1.2.1, .ref sv, .int st.1.2.2.1, .ref sa, .ref wr, .int st.1.2.2.2.1, .ref bt, .int (bI st.1.2.2.2.2.1), .int st.1.2.2.2.2.2.1, .int st.1.2.2.2.2.2.2.1, .int st.1.2.2.2.2.2.2.2.1, .int st.1.2.2.2.2.2.2.2.2.1, .int st.1.2.2.2.2.2.2.2.2.2.1, .int st.1.2.2.2.2.2.2.2.2.2.2.1, .int st.1.2.2.2.2.2.2.2.2.2.2.2.1, .int st.1.2.2.2.2.2.2.2.2.2.2.2.2.1, .long st.1.2.2.2.2.2.2.2.2.2.2.2.2.2.1, .int st.1.2.2.2.2.2.2.2.2.2.2.2.2.2.2.1, .int st.1.2.2.2.2.2.2.2.2.2.2.2.2.2.2.2.1, .int st.1.2.2.2.2.2.2.2.2.2.2.2.2.2.2.2.2.1, .int (bI st.1.2.2.2.2.2.2.2.2.2.2.2.2.2.2.2.2.2.1), .int st.1.2.2.2.2.2.2.2.2.2.2.2.2.2.2.2.2.2.2.1, .int st.1.2.2.2.2.2.2.2.2.2.2.2.2.2.2.2.2.2.2.2])), (mc, .inl (E.2.1 0, 139264, .inl st.2.1)), (sv, .inl (E.2.1 0, 393216, .inl st.2.2.1)), (sa, .inl (E.2.1 0, 1100, .inl st.2.2.2.1)), (wr, .inl (E.2.1 1, 1100, .inl st.2.2.2.2.1)), (bt, .inl (E.2.1 0, 120000, .inl st.2.2.2.2.2)), (s1, .inl (E.2.1 0, 47, .inl (zF 0))), (s2, .inl (E.2.1 0, 47, .inl (zF 1))), (s3, .inl (E.2.1 0, 47, .inl (zF 2)))])) A) := by
  unfold k_M_placeIn at hok
  refine Kt.of (by decide) (Nat.le_of_ble_eq_true rfl) ?_
  intro p e s m below meth c ls hx hb hml hown hts hr hlocks hex hin hA hZ hP hK hD hl
  have hS : va_S A s.heap s.heap [] := va_S.rf
  have hl : lv_has ls 3 [(0, .ref mo), (1, .int p0), (2, .int p1)] := hl
  refine lv_ldc (v := 131072) hx hb hown (hts _ m_824) d_M_placeIn_0 ?_
  refine lv_sipush (v := 512) hx hb d_M_placeIn_2 (by decide) ?_
  refine lv_bipush (v := 8) hx hb d_M_placeIn_5 (by decide) ?_
  refine lv_aload_n hx hb d_M_placeIn_7 rfl (lv_at hl 0 rfl) ?_
  obtain ⟨hk1, hok⟩ := hok
  refine ar_usei (wr := []) hP hD hS hA [0, 1, 2, 3, 4, 5, 6, 7, 8] [] rfl rfl rfl (by decide) (ar_runV (n := 0) (As := []) (rest := [.int 8, .int 512, .int 131072]) (ci := 5) (q0 := 0) hx hb hml hown hts hP hD hS hA hK hZ (c_M_side l E _ mo mc sv sa wr bt s1 s2 s3 nx st  hk1) m_713 m_715 ms_22 m_7 m_716 (by decide +kernel) ⟨Nat.le_of_ble_eq_true rfl, Nat.le_of_ble_eq_true rfl⟩ [0, 1, 2, 3, 4, 5, 6, 7, 8] rfl rfl rfl rfl rfl rfl rfl hl.1 rfl (Nat.le_of_ble_eq_true rfl) d_M_placeIn_8 ⟨Nat.le_of_ble_eq_true rfl, Nat.le_of_ble_eq_true rfl⟩) (fun r2 _ Hn locsn hw2 hPn hDn hSn => ?_)
  replace hok := hok r2 hw2
  clear hP hD hS
  have hP : va_P E.1 classes [(mo, .inr (5, [.ref s1, .ref s2, .ref s3, .int st.1.1, .int (nI nx), .ref mc, .int st.1.2.1, .ref sv, .int st.1.2.2.1, .ref sa, .ref wr, .int st.1.2.2.2.1, .ref bt, .int (bI st.1.2.2.2.2.1), .int st.1.2.2.2.2.2.1, .int st.1.2.2.2.2.2.2.1, .int st.1.2.2.2.2.2.2.2.1, .int st.1.2.2.2.2.2.2.2.2.1, .int st.1.2.2.2.2.2.2.2.2.2.1, .int st.1.2.2.2.2.2.2.2.2.2.2.1, .int st.1.2.2.2.2.2.2.2.2.2.2.2.1, .int st.1.2.2.2.2.2.2.2.2.2.2.2.2.1, .long st.1.2.2.2.2.2.2.2.2.2.2.2.2.2.1, .int st.1.2.2.2.2.2.2.2.2.2.2.2.2.2.2.1, .int st.1.2.2.2.2.2.2.2.2.2.2.2.2.2.2.2.1, .int st.1.2.2.2.2.2.2.2.2.2.2.2.2.2.2.2.2.1, .int (bI st.1.2.2.2.2.2.2.2.2.2.2.2.2.2.2.2.2.2.1), .int st.1.2.2.2.2.2.2.2.2.2.2.2.2.2.2.2.2.2.2.1, .int st.1.2.2.2.2.2.2.2.2.2.2.2.2.2.2.2.2.2.2.2])), (mc, .inl (E.2.1 0, 139264, .inl st.2.1)), (sv, .inl (E.2.1 0, 393216, .inl st.2.2.1)), (sa, .inl (E.2.1 0, 1100, .inl st.2.2.2.1)), (wr, .inl (E.2.1 1, 1100, .inl st.2.2.2.2.1)), (bt, .inl (E.2.1 0, 120000, .inl st.2.2.2.2.2)), (s1, .inl (E.2.1 0, 47, .inl (zF 0))), (s2, .inl (E.2.1 0, 47, .inl (zF 1))), (s3, .inl (E.2.1 0, 47, .inl (zF 2)))] Hn := hPn
  have hD : va_D A [(mo, .inr (5, [.ref s1, .ref s2, .ref s3, .int st.1.1, .int (nI nx), .ref mc, .int st.1.2.1, .ref sv, .int st.1.2.2.1, .ref sa, .ref wr, .int st.1.2.2.2.1, .ref bt, .int (bI st.1.2.2.2.2.1), .int st.1.2.2.2.2.2.1, .int st.1.2.2.2.2.2.2.1, .int st.1.2.2.2.2.2.2.2.1, .int st.1.2.2.2.2.2.2.2.2.1, .int st.1.2.2.2.2.2.2.2.2.2.1, .int st.1.2.2.2.2.2.2.2.2.2.2.1, .int st.1.2.2.2.2.2.2.2.2.2.2.2.1, .int st.1.2.2.2.2.2.2.2.2.2.2.2.2.1, .long st.1.2.2.2.2.2.2.2.2.2.2.2.2.2.1, .int st.1.2.2.2.2.2.2.2.2.2.2.2.2.2.2.1, .int st.1.2.2.2.2.2.2.2.2.2.2.2.2.2.2.2.1, .int st.1.2.2.2.2.2.2.2.2.2.2.2.2.2.2.2.2.1, .int (bI st.1.2.2.2.2.2.2.2.2.2.2.2.2.2.2.2.2.2.1), .int st.1.2.2.2.2.2.2.2.2.2.2.2.2.2.2.2.2.2.2.1, .int st.1.2.2.2.2.2.2.2.2.2.2.2.2.2.2.2.2.2.2.2])), (mc, .inl (E.2.1 0, 139264, .inl st.2.1)), (sv, .inl (E.2.1 0, 393216, .inl st.2.2.1)), (sa, .inl (E.2.1 0, 1100, .inl st.2.2.2.1)), (wr, .inl (E.2.1 1, 1100, .inl st.2.2.2.2.1)), (bt, .inl (E.2.1 0, 120000, .inl st.2.2.2.2.2)), (s1, .inl (E.2.1 0, 47, .inl (zF 0))), (s2, .inl (E.2.1 0, 47, .inl (zF 1))), (s3, .inl (E.2.1 0, 47, .inl (zF 2)))] := hDn
  have hS := hSn
  clear hPn hDn hSn
  refine lv_imul hx hb d_M_placeIn_11 ?_
  refine lv_iload_n hx hb d_M_placeIn_12 rfl (lv_at hl 1 rfl) ?_
  refine lv_iadd hx hb d_M_placeIn_13 ?_
  refine lv_imul hx hb d_M_placeIn_14 ?_
  refine lv_iadd hx hb d_M_placeIn_15 ?_
  refine lv_iload_n hx hb d_M_placeIn_16 rfl (lv_at hl 2 rfl) ?_
  refine lv_iadd hx hb d_M_placeIn_17 ?_
  exact ar_iret hx hb hr hlocks hK hS () (by subst hw2; exact Eq.symm (Eq.trans (f_M_placeIn_s nx p0 p1 st) rfl)) hP hD d_M_placeIn_18

noncomputable def f_M_sizeOf (nx : Nat) (p0 : Int32) (st : MS) : Int32 :=
  ((zF 0) (Int32.toNatClampNeg ((st.2.1 (Int32.toNatClampNeg p0)) / 2)))
theorem f_M_sizeOf_s (nx : Nat) (p0 : Int32) (st : MS) : f_M_sizeOf nx p0 st = ((
  ((zF 0) (Int32.toNatClampNeg ((st.2.1 (Int32.toNatClampNeg p0)) / 2)))
  : Int32)) := rfl
def k_M_sizeOf (nx : Nat) (p0 : Int32) (st : MS) : Prop := (vp_in p0 139264) ∧ ((vp_in ((st.2.1 (Int32.toNatClampNeg p0)) / 2) 47) ∧ (True))
set_option maxHeartbeats 4000000 in
set_option maxRecDepth 100000 in
theorem c_M_sizeOf (l : Launch) (E : Ev) (A : Nat → Prop) (mo mc sv sa wr bt s1 s2 s3 nx : Nat) (st : MS) (p0 : Int32)  (hok : k_M_sizeOf nx p0 st) :
    Kt l y_M_sizeOf b_M_sizeOf 2 (some .int) 0 0 0 E A [.ref mo, .int p0] [(mo, .inr (5, [.ref s1, .ref s2, .ref s3, .int st.1.1, .int (nI nx), .ref mc, .int st.1.2.1, .ref sv, .int st.1.2.2.1, .ref sa, .ref wr, .int st.1.2.2.2.1, .ref bt, .int (bI st.1.2.2.2.2.1), .int st.1.2.2.2.2.2.1, .int st.1.2.2.2.2.2.2.1, .int st.1.2.2.2.2.2.2.2.1, .int st.1.2.2.2.2.2.2.2.2.1, .int st.1.2.2.2.2.2.2.2.2.2.1, .int st.1.2.2.2.2.2.2.2.2.2.2.1, .int st.1.2.2.2.2.2.2.2.2.2.2.2.1, .int st.1.2.2.2.2.2.2.2.2.2.2.2.2.1, .long st.1.2.2.2.2.2.2.2.2.2.2.2.2.2.1, .int st.1.2.2.2.2.2.2.2.2.2.2.2.2.2.2.1, .int st.1.2.2.2.2.2.2.2.2.2.2.2.2.2.2.2.1, .int st.1.2.2.2.2.2.2.2.2.2.2.2.2.2.2.2.2.1, .int (bI st.1.2.2.2.2.2.2.2.2.2.2.2.2.2.2.2.2.2.1), .int st.1.2.2.2.2.2.2.2.2.2.2.2.2.2.2.2.2.2.2.1, .int st.1.2.2.2.2.2.2.2.2.2.2.2.2.2.2.2.2.2.2.2])), (mc, .inl (E.2.1 0, 139264, .inl st.2.1)), (sv, .inl (E.2.1 0, 393216, .inl st.2.2.1)), (sa, .inl (E.2.1 0, 1100, .inl st.2.2.2.1)), (wr, .inl (E.2.1 1, 1100, .inl st.2.2.2.2.1)), (bt, .inl (E.2.1 0, 120000, .inl st.2.2.2.2.2)), (s1, .inl (E.2.1 0, 47, .inl (zF 0))), (s2, .inl (E.2.1 0, 47, .inl (zF 1))), (s3, .inl (E.2.1 0, 47, .inl (zF 2)))] (va_Qi (fun (r : Int32) (_ : Unit) => r = f_M_sizeOf nx p0 st) (ar_W E A (fun _ : Unit => [(mo, .inr (5, [.ref s1, .ref s2, .ref s3, .int st.1.1, .int (nI nx), .ref mc, .int st.1.2.1, .ref sv, .int st.1.2.2.1, .ref sa, .ref wr, .int st.1.2.2.2.1, .ref bt, .int (bI st.1.2.2.2.2.1), .int st.1.2.2.2.2.2.1, .int st.1.2.2.2.2.2.2.1, .int st.1.2.2.2.2.2.2.2.1, .int st.1.2.2.2.2.2.2.2.2.1, .int st.1.2.2.2.2.2.2.2.2.2.1, .int st.1.2.2.2.2.2.2.2.2.2.2.1, .int st.1.2.2.2.2.2.2.2.2.2.2.2.1, .int st.1.2.2.2.2.2.2.2.2.2.2.2.2.1, .long st.1.2.2.2.2.2.2.2.2.2.2.2.2.2.1, .int st.1.2.2.2.2.2.2.2.2.2.2.2.2.2.2.1, .int st.1.2.2.2.2.2.2.2.2.2.2.2.2.2.2.2.1, .int st.1.2.2.2.2.2.2.2.2.2.2.2.2.2.2.2.2.1, .int (bI st.1.2.2.2.2.2.2.2.2.2.2.2.2.2.2.2.2.2.1), .int st.1.2.2.2.2.2.2.2.2.2.2.2.2.2.2.2.2.2.2.1, .int st.1.2.2.2.2.2.2.2.2.2.2.2.2.2.2.2.2.2.2.2])), (mc, .inl (E.2.1 0, 139264, .inl st.2.1)), (sv, .inl (E.2.1 0, 393216, .inl st.2.2.1)), (sa, .inl (E.2.1 0, 1100, .inl st.2.2.2.1)), (wr, .inl (E.2.1 1, 1100, .inl st.2.2.2.2.1)), (bt, .inl (E.2.1 0, 120000, .inl st.2.2.2.2.2)), (s1, .inl (E.2.1 0, 47, .inl (zF 0))), (s2, .inl (E.2.1 0, 47, .inl (zF 1))), (s3, .inl (E.2.1 0, 47, .inl (zF 2)))])) A) := by
  unfold k_M_sizeOf at hok
  refine Kt.of (by decide) (Nat.le_of_ble_eq_true rfl) ?_
  intro p e s m below meth c ls hx hb hml hown hts hr hlocks hex hin hA hZ hP hK hD hl
  have hS : va_S A s.heap s.heap [] := va_S.rf
  have hl : lv_has ls 2 [(0, .ref mo), (1, .int p0)] := hl
  refine lv_aload_n hx hb d_M_sizeOf_0 rfl (lv_at hl 0 rfl) ?_
  refine va_get (D := E.1) (ci := 5) (v := .ref s1) (C := R_M) (T := T_M) (N := 29) hx hb hts in_M hown hK hP 0 rfl rfl 0 (by decide) (hts _ m_610) (fun _ h9 => h9) rfl d_M_sizeOf_1 ?_
  refine lv_aload_n hx hb d_M_sizeOf_4 rfl (lv_at hl 0 rfl) ?_
  refine va_get (D := E.1) (ci := 5) (v := .ref mc) (C := R_M) (T := T_M) (N := 29) hx hb hts in_M hown hK hP 0 rfl rfl 5 (by decide) (hts _ m_615) (fun _ h9 => h9) rfl d_M_sizeOf_5 ?_
  refine lv_iload_n hx hb d_M_sizeOf_8 rfl (lv_at hl 1 rfl) ?_
  obtain ⟨hk1, hok⟩ := hok
  refine va_iald (D := E.1) hx hb hK hP 1 0 rfl rfl hk1 d_M_sizeOf_9 ?_
  refine lv_iconst (v := 2) hx hb d_M_sizeOf_10 (by decide) ?_
  refine lv_idiv hx hb d_M_sizeOf_11 (by decide) ?_
  obtain ⟨hk2, hok⟩ := hok
  refine va_iald (D := E.1) hx hb hK hP 6 0 rfl rfl hk2 d_M_sizeOf_12 ?_
  exact ar_iret hx hb hr hlocks hK hS () (by exact Eq.symm (Eq.trans (f_M_sizeOf_s nx p0 st) rfl)) hP hD d_M_sizeOf_13

noncomputable def f_M_learn (nx : Nat) (p0 : Int32) (p1 : Bool) (st : MS) : MS :=
  let x2 := ((st.2.1 (Int32.toNatClampNeg p0)) / 2)
  let x4 := (irem (st.2.1 (Int32.toNatClampNeg p0)) 2)
  if bI p1 = 0 then
    if x2 = 0 then
      let x8 := ((2 * ((zF 2) (Int32.toNatClampNeg x2))) + (1 - x4))
      (st.1, (upd st.2.1 (Int32.toNatClampNeg p0) x8), st.2.2.1, st.2.2.2.1, st.2.2.2.2.1, st.2.2.2.2.2)
    else
      if x2 = 6 then
        let x13 := ((2 * ((zF 2) (Int32.toNatClampNeg x2))) + (1 - x4))
        (st.1, (upd st.2.1 (Int32.toNatClampNeg p0) x13), st.2.2.1, st.2.2.2.1, st.2.2.2.2.1, st.2.2.2.2.2)
      else
        if x2 = 14 then
          let x22 := ((2 * ((zF 2) (Int32.toNatClampNeg x2))) + (1 - x4))
          (st.1, (upd st.2.1 (Int32.toNatClampNeg p0) x22), st.2.2.1, st.2.2.2.1, st.2.2.2.2.1, st.2.2.2.2.2)
        else
          let x18 := ((2 * ((zF 2) (Int32.toNatClampNeg x2))) + x4)
          (st.1, (upd st.2.1 (Int32.toNatClampNeg p0) x18), st.2.2.1, st.2.2.2.1, st.2.2.2.2.1, st.2.2.2.2.2)
  else
    let x26 := ((2 * ((zF 1) (Int32.toNatClampNeg x2))) + x4)
    (st.1, (upd st.2.1 (Int32.toNatClampNeg p0) x26), st.2.2.1, st.2.2.2.1, st.2.2.2.2.1, st.2.2.2.2.2)
theorem f_M_learn_s (nx : Nat) (p0 : Int32) (p1 : Bool) (st : MS) : f_M_learn nx p0 p1 st = ((
  let x2 := ((st.2.1 (Int32.toNatClampNeg p0)) / 2)
  let x4 := (irem (st.2.1 (Int32.toNatClampNeg p0)) 2)
  if bI p1 = 0 then
    if x2 = 0 then
      let x8 := ((2 * ((zF 2) (Int32.toNatClampNeg x2))) + (1 - x4))
      (st.1, (upd st.2.1 (Int32.toNatClampNeg p0) x8), st.2.2.1, st.2.2.2.1, st.2.2.2.2.1, st.2.2.2.2.2)
    else
      if x2 = 6 then
        let x13 := ((2 * ((zF 2) (Int32.toNatClampNeg x2))) + (1 - x4))
        (st.1, (upd st.2.1 (Int32.toNatClampNeg p0) x13), st.2.2.1, st.2.2.2.1, st.2.2.2.2.1, st.2.2.2.2.2)
      else
        if x2 = 14 then
          let x22 := ((2 * ((zF 2) (Int32.toNatClampNeg x2))) + (1 - x4))
          (st.1, (upd st.2.1 (Int32.toNatClampNeg p0) x22), st.2.2.1, st.2.2.2.1, st.2.2.2.2.1, st.2.2.2.2.2)
        else
          let x18 := ((2 * ((zF 2) (Int32.toNatClampNeg x2))) + x4)
          (st.1, (upd st.2.1 (Int32.toNatClampNeg p0) x18), st.2.2.1, st.2.2.2.1, st.2.2.2.2.1, st.2.2.2.2.2)
  else
    let x26 := ((2 * ((zF 1) (Int32.toNatClampNeg x2))) + x4)
    (st.1, (upd st.2.1 (Int32.toNatClampNeg p0) x26), st.2.2.1, st.2.2.2.1, st.2.2.2.2.1, st.2.2.2.2.2)
  : MS)) := rfl
def k_M_learn (nx : Nat) (p0 : Int32) (p1 : Bool) (st : MS) : Prop := (vp_in p0 139264) ∧ ((∀ x2, x2 = ((st.2.1 (Int32.toNatClampNeg p0)) / 2) → (vp_in p0 139264) ∧ ((∀ x4, x4 = (irem (st.2.1 (Int32.toNatClampNeg p0)) 2) → ((bI p1 = 0) → ((x2 = 0) → (vp_in x2 47) ∧ ((∀ x8, x8 = ((2 * ((zF 2) (Int32.toNatClampNeg x2))) + (1 - x4)) → (vp_in p0 139264) ∧ (True)))) ∧ (¬ (x2 = 0) → ((x2 = 6) → (vp_in x2 47) ∧ ((∀ x13, x13 = ((2 * ((zF 2) (Int32.toNatClampNeg x2))) + (1 - x4)) → (vp_in p0 139264) ∧ (True)))) ∧ (¬ (x2 = 6) → ((x2 = 14) → (vp_in x2 47) ∧ ((∀ x22, x22 = ((2 * ((zF 2) (Int32.toNatClampNeg x2))) + (1 - x4)) → (vp_in p0 139264) ∧ (True)))) ∧ (¬ (x2 = 14) → (vp_in x2 47) ∧ ((∀ x18, x18 = ((2 * ((zF 2) (Int32.toNatClampNeg x2))) + x4) → (vp_in p0 139264) ∧ (True))))))) ∧ (¬ (bI p1 = 0) → (vp_in x2 47) ∧ ((∀ x26, x26 = ((2 * ((zF 1) (Int32.toNatClampNeg x2))) + x4) → (vp_in p0 139264) ∧ (True))))))))
set_option maxHeartbeats 4000000 in
set_option maxRecDepth 100000 in
theorem c_M_learn (l : Launch) (E : Ev) (A : Nat → Prop) (mo mc sv sa wr bt s1 s2 s3 nx : Nat) (st : MS) (p0 : Int32) (p1 : Bool)  (hok : k_M_learn nx p0 p1 st) :
    Kt l y_M_learn b_M_learn 6 none 0 0 0 E A [.ref mo, .int p0, .int (bI p1)] [(mo, .inr (5, [.ref s1, .ref s2, .ref s3, .int st.1.1, .int (nI nx), .ref mc, .int st.1.2.1, .ref sv, .int st.1.2.2.1, .ref sa, .ref wr, .int st.1.2.2.2.1, .ref bt, .int (bI st.1.2.2.2.2.1), .int st.1.2.2.2.2.2.1, .int st.1.2.2.2.2.2.2.1, .int st.1.2.2.2.2.2.2.2.1, .int st.1.2.2.2.2.2.2.2.2.1, .int st.1.2.2.2.2.2.2.2.2.2.1, .int st.1.2.2.2.2.2.2.2.2.2.2.1, .int st.1.2.2.2.2.2.2.2.2.2.2.2.1, .int st.1.2.2.2.2.2.2.2.2.2.2.2.2.1, .long st.1.2.2.2.2.2.2.2.2.2.2.2.2.2.1, .int st.1.2.2.2.2.2.2.2.2.2.2.2.2.2.2.1, .int st.1.2.2.2.2.2.2.2.2.2.2.2.2.2.2.2.1, .int st.1.2.2.2.2.2.2.2.2.2.2.2.2.2.2.2.2.1, .int (bI st.1.2.2.2.2.2.2.2.2.2.2.2.2.2.2.2.2.2.1), .int st.1.2.2.2.2.2.2.2.2.2.2.2.2.2.2.2.2.2.2.1, .int st.1.2.2.2.2.2.2.2.2.2.2.2.2.2.2.2.2.2.2.2])), (mc, .inl (E.2.1 0, 139264, .inl st.2.1)), (sv, .inl (E.2.1 0, 393216, .inl st.2.2.1)), (sa, .inl (E.2.1 0, 1100, .inl st.2.2.2.1)), (wr, .inl (E.2.1 1, 1100, .inl st.2.2.2.2.1)), (bt, .inl (E.2.1 0, 120000, .inl st.2.2.2.2.2)), (s1, .inl (E.2.1 0, 47, .inl (zF 0))), (s2, .inl (E.2.1 0, 47, .inl (zF 1))), (s3, .inl (E.2.1 0, 47, .inl (zF 2)))] (va_Qv (fun u : MS => u = f_M_learn nx p0 p1 st) (ar_W E A (fun u : MS => [(mo, .inr (5, [.ref s1, .ref s2, .ref s3, .int u.1.1, .int (nI nx), .ref mc, .int u.1.2.1, .ref sv, .int u.1.2.2.1, .ref sa, .ref wr, .int u.1.2.2.2.1, .ref bt, .int (bI u.1.2.2.2.2.1), .int u.1.2.2.2.2.2.1, .int u.1.2.2.2.2.2.2.1, .int u.1.2.2.2.2.2.2.2.1, .int u.1.2.2.2.2.2.2.2.2.1, .int u.1.2.2.2.2.2.2.2.2.2.1, .int u.1.2.2.2.2.2.2.2.2.2.2.1, .int u.1.2.2.2.2.2.2.2.2.2.2.2.1, .int u.1.2.2.2.2.2.2.2.2.2.2.2.2.1, .long u.1.2.2.2.2.2.2.2.2.2.2.2.2.2.1, .int u.1.2.2.2.2.2.2.2.2.2.2.2.2.2.2.1, .int u.1.2.2.2.2.2.2.2.2.2.2.2.2.2.2.2.1, .int u.1.2.2.2.2.2.2.2.2.2.2.2.2.2.2.2.2.1, .int (bI u.1.2.2.2.2.2.2.2.2.2.2.2.2.2.2.2.2.2.1), .int u.1.2.2.2.2.2.2.2.2.2.2.2.2.2.2.2.2.2.2.1, .int u.1.2.2.2.2.2.2.2.2.2.2.2.2.2.2.2.2.2.2.2])), (mc, .inl (E.2.1 0, 139264, .inl u.2.1)), (sv, .inl (E.2.1 0, 393216, .inl u.2.2.1)), (sa, .inl (E.2.1 0, 1100, .inl u.2.2.2.1)), (wr, .inl (E.2.1 1, 1100, .inl u.2.2.2.2.1)), (bt, .inl (E.2.1 0, 120000, .inl u.2.2.2.2.2)), (s1, .inl (E.2.1 0, 47, .inl (zF 0))), (s2, .inl (E.2.1 0, 47, .inl (zF 1))), (s3, .inl (E.2.1 0, 47, .inl (zF 2)))])) A) := by
  unfold k_M_learn at hok
  refine Kt.of (by decide) (Nat.le_of_ble_eq_true rfl) ?_
  intro p e s m below meth c ls hx hb hml hown hts hr hlocks hex hin hA hZ hP hK hD hl
  have hS : va_S A s.heap s.heap [] := va_S.rf
  have hl : lv_has ls 6 [(0, .ref mo), (1, .int p0), (2, .int (bI p1))] := hl
  refine lv_aload_n hx hb d_M_learn_0 rfl (lv_at hl 0 rfl) ?_
  refine va_get (D := E.1) (ci := 5) (v := .ref mc) (C := R_M) (T := T_M) (N := 29) hx hb hts in_M hown hK hP 0 rfl rfl 5 (by decide) (hts _ m_615) (fun _ h9 => h9) rfl d_M_learn_1 ?_
  refine lv_iload_n hx hb d_M_learn_4 rfl (lv_at hl 1 rfl) ?_
  obtain ⟨hk1, hok⟩ := hok
  refine va_iald (D := E.1) hx hb hK hP 1 0 rfl rfl hk1 d_M_learn_5 ?_
  refine lv_iconst (v := 2) hx hb d_M_learn_6 (by decide) ?_
  refine lv_idiv hx hb d_M_learn_7 (by decide) ?_
  refine lv_topi (fun x2 ex2 => ?_)
  replace hok := hok x2 ex2
  refine lv_istore_n (lv' := [(3, .int x2), (0, .ref mo), (1, .int p0), (2, .int (bI p1))]) hx hb d_M_learn_8 rfl hl (by decide) rfl (fun ls hl => ?_)
  refine lv_aload_n hx hb d_M_learn_9 rfl (lv_at hl 1 rfl) ?_
  refine va_get (D := E.1) (ci := 5) (v := .ref mc) (C := R_M) (T := T_M) (N := 29) hx hb hts in_M hown hK hP 0 rfl rfl 5 (by decide) (hts _ m_615) (fun _ h9 => h9) rfl d_M_learn_10 ?_
  refine lv_iload_n hx hb d_M_learn_13 rfl (lv_at hl 2 rfl) ?_
  obtain ⟨hk3, hok⟩ := hok
  refine va_iald (D := E.1) hx hb hK hP 1 0 rfl rfl hk3 d_M_learn_14 ?_
  refine lv_iconst (v := 2) hx hb d_M_learn_15 (by decide) ?_
  refine ar_irem hx hb d_M_learn_16 (by decide) ?_
  refine lv_topi (fun x4 ex4 => ?_)
  replace hok := hok x4 ex4
  refine lv_istore (lv' := [(4, .int x4), (3, .int x2), (0, .ref mo), (1, .int p0), (2, .int (bI p1))]) hx hb d_M_learn_17 hl (by decide) rfl (fun ls hl => ?_)
  refine lv_iload_n hx hb d_M_learn_19 rfl (lv_at hl 4 rfl) ?_
  refine lv_if_eq (tgt := 43) hx hb d_M_learn_20 (by decide) (fun c5 => ?_) (fun c5 => ?_)
  · replace hok := hok.1 c5
    refine lv_iload_n hx hb d_M_learn_43 rfl (lv_at hl 1 rfl) ?_
    refine lv_if_eq (tgt := 59) hx hb d_M_learn_44 (by decide) (fun c6 => ?_) (fun c6 => ?_)
    · replace hok := hok.1 c6
      refine lv_iconst (v := 1) hx hb d_M_learn_59 (by decide) ?_
      refine lv_goto (tgt := 64) hx hb d_M_learn_60 (by decide) ?_
      refine lv_istore (lv' := [(5, .int 1), (4, .int x4), (3, .int x2), (0, .ref mo), (1, .int p0), (2, .int (bI p1))]) hx hb d_M_learn_64 hl (by decide) rfl (fun ls hl => ?_)
      refine lv_aload_n hx hb d_M_learn_66 rfl (lv_at hl 3 rfl) ?_
      refine va_get (D := E.1) (ci := 5) (v := .ref mc) (C := R_M) (T := T_M) (N := 29) hx hb hts in_M hown hK hP 0 rfl rfl 5 (by decide) (hts _ m_615) (fun _ h9 => h9) rfl d_M_learn_67 ?_
      refine lv_iload_n hx hb d_M_learn_70 rfl (lv_at hl 4 rfl) ?_
      refine lv_iconst (v := 2) hx hb d_M_learn_71 (by decide) ?_
      refine lv_aload_n hx hb d_M_learn_72 rfl (lv_at hl 3 rfl) ?_
      refine va_get (D := E.1) (ci := 5) (v := .ref s3) (C := R_M) (T := T_M) (N := 29) hx hb hts in_M hown hK hP 0 rfl rfl 2 (by decide) (hts _ m_612) (fun _ h9 => h9) rfl d_M_learn_73 ?_
      refine lv_iload_n hx hb d_M_learn_76 rfl (lv_at hl 2 rfl) ?_
      obtain ⟨hk7, hok⟩ := hok
      refine va_iald (D := E.1) hx hb hK hP 8 0 rfl rfl hk7 d_M_learn_77 ?_
      refine lv_imul hx hb d_M_learn_78 ?_
      refine lv_iload hx hb d_M_learn_79 (lv_at hl 0 rfl) ?_
      refine lv_if_eq (tgt := 91) hx hb d_M_learn_81 (by decide) (fun cz => absurd cz (by decide)) (fun cz => ?_)
      refine lv_iconst (v := 1) hx hb d_M_learn_84 (by decide) ?_
      refine lv_iload hx hb d_M_learn_85 (lv_at hl 1 rfl) ?_
      refine lv_isub hx hb d_M_learn_87 ?_
      refine lv_goto (tgt := 93) hx hb d_M_learn_88 (by decide) ?_
      refine lv_iadd hx hb d_M_learn_93 ?_
      refine lv_topi (fun x8 ex8 => ?_)
      replace hok := hok x8 ex8
      obtain ⟨hk9, hok⟩ := hok
      refine va_iast (D := E.1) (x := x8) hx hb hK hP hD hS 1 0 rfl rfl hk9 d_M_learn_94 (fun Hn locsn hPn hDn hSn => ?_)
      clear hP hD hS
      have hP : va_P E.1 classes [(mo, .inr (5, [.ref s1, .ref s2, .ref s3, .int st.1.1, .int (nI nx), .ref mc, .int st.1.2.1, .ref sv, .int st.1.2.2.1, .ref sa, .ref wr, .int st.1.2.2.2.1, .ref bt, .int (bI st.1.2.2.2.2.1), .int st.1.2.2.2.2.2.1, .int st.1.2.2.2.2.2.2.1, .int st.1.2.2.2.2.2.2.2.1, .int st.1.2.2.2.2.2.2.2.2.1, .int st.1.2.2.2.2.2.2.2.2.2.1, .int st.1.2.2.2.2.2.2.2.2.2.2.1, .int st.1.2.2.2.2.2.2.2.2.2.2.2.1, .int st.1.2.2.2.2.2.2.2.2.2.2.2.2.1, .long st.1.2.2.2.2.2.2.2.2.2.2.2.2.2.1, .int st.1.2.2.2.2.2.2.2.2.2.2.2.2.2.2.1, .int st.1.2.2.2.2.2.2.2.2.2.2.2.2.2.2.2.1, .int st.1.2.2.2.2.2.2.2.2.2.2.2.2.2.2.2.2.1, .int (bI st.1.2.2.2.2.2.2.2.2.2.2.2.2.2.2.2.2.2.1), .int st.1.2.2.2.2.2.2.2.2.2.2.2.2.2.2.2.2.2.2.1, .int st.1.2.2.2.2.2.2.2.2.2.2.2.2.2.2.2.2.2.2.2])), (mc, .inl (E.2.1 0, 139264, .inl (upd st.2.1 (Int32.toNatClampNeg p0) x8))), (sv, .inl (E.2.1 0, 393216, .inl st.2.2.1)), (sa, .inl (E.2.1 0, 1100, .inl st.2.2.2.1)), (wr, .inl (E.2.1 1, 1100, .inl st.2.2.2.2.1)), (bt, .inl (E.2.1 0, 120000, .inl st.2.2.2.2.2)), (s1, .inl (E.2.1 0, 47, .inl (zF 0))), (s2, .inl (E.2.1 0, 47, .inl (zF 1))), (s3, .inl (E.2.1 0, 47, .inl (zF 2)))] Hn := hPn
      have hD : va_D A [(mo, .inr (5, [.ref s1, .ref s2, .ref s3, .int st.1.1, .int (nI nx), .ref mc, .int st.1.2.1, .ref sv, .int st.1.2.2.1, .ref sa, .ref wr, .int st.1.2.2.2.1, .ref bt, .int (bI st.1.2.2.2.2.1), .int st.1.2.2.2.2.2.1, .int st.1.2.2.2.2.2.2.1, .int st.1.2.2.2.2.2.2.2.1, .int st.1.2.2.2.2.2.2.2.2.1, .int st.1.2.2.2.2.2.2.2.2.2.1, .int st.1.2.2.2.2.2.2.2.2.2.2.1, .int st.1.2.2.2.2.2.2.2.2.2.2.2.1, .int st.1.2.2.2.2.2.2.2.2.2.2.2.2.1, .long st.1.2.2.2.2.2.2.2.2.2.2.2.2.2.1, .int st.1.2.2.2.2.2.2.2.2.2.2.2.2.2.2.1, .int st.1.2.2.2.2.2.2.2.2.2.2.2.2.2.2.2.1, .int st.1.2.2.2.2.2.2.2.2.2.2.2.2.2.2.2.2.1, .int (bI st.1.2.2.2.2.2.2.2.2.2.2.2.2.2.2.2.2.2.1), .int st.1.2.2.2.2.2.2.2.2.2.2.2.2.2.2.2.2.2.2.1, .int st.1.2.2.2.2.2.2.2.2.2.2.2.2.2.2.2.2.2.2.2])), (mc, .inl (E.2.1 0, 139264, .inl (upd st.2.1 (Int32.toNatClampNeg p0) x8))), (sv, .inl (E.2.1 0, 393216, .inl st.2.2.1)), (sa, .inl (E.2.1 0, 1100, .inl st.2.2.2.1)), (wr, .inl (E.2.1 1, 1100, .inl st.2.2.2.2.1)), (bt, .inl (E.2.1 0, 120000, .inl st.2.2.2.2.2)), (s1, .inl (E.2.1 0, 47, .inl (zF 0))), (s2, .inl (E.2.1 0, 47, .inl (zF 1))), (s3, .inl (E.2.1 0, 47, .inl (zF 2)))] := hDn
      have hS := hSn
      clear hPn hDn hSn
      exact ar_vret hx hb hr hlocks hK hS (st.1, (upd st.2.1 (Int32.toNatClampNeg p0) x8), st.2.2.1, st.2.2.2.1, st.2.2.2.2.1, st.2.2.2.2.2) (by subst ex8; subst ex4; subst ex2; exact Eq.symm (Eq.trans (f_M_learn_s nx p0 p1 st) (Eq.trans (if_pos c5) (Eq.trans (if_pos c6) rfl)))) hP hD d_M_learn_95
    · replace hok := hok.2 c6
      refine lv_iload_n hx hb d_M_learn_47 rfl (lv_at hl 1 rfl) ?_
      refine lv_bipush (v := 6) hx hb d_M_learn_48 (by decide) ?_
      refine lv_icmp_eq (tgt := 59) hx hb d_M_learn_50 (by decide) (fun c11 => ?_) (fun c11 => ?_)
      · replace hok := hok.1 c11
        refine lv_iconst (v := 1) hx hb d_M_learn_59 (by decide) ?_
        refine lv_goto (tgt := 64) hx hb d_M_learn_60 (by decide) ?_
        refine lv_istore (lv' := [(5, .int 1), (4, .int x4), (3, .int x2), (0, .ref mo), (1, .int p0), (2, .int (bI p1))]) hx hb d_M_learn_64 hl (by decide) rfl (fun ls hl => ?_)
        refine lv_aload_n hx hb d_M_learn_66 rfl (lv_at hl 3 rfl) ?_
        refine va_get (D := E.1) (ci := 5) (v := .ref mc) (C := R_M) (T := T_M) (N := 29) hx hb hts in_M hown hK hP 0 rfl rfl 5 (by decide) (hts _ m_615) (fun _ h9 => h9) rfl d_M_learn_67 ?_
        refine lv_iload_n hx hb d_M_learn_70 rfl (lv_at hl 4 rfl) ?_
        refine lv_iconst (v := 2) hx hb d_M_learn_71 (by decide) ?_
        refine lv_aload_n hx hb d_M_learn_72 rfl (lv_at hl 3 rfl) ?_
        refine va_get (D := E.1) (ci := 5) (v := .ref s3) (C := R_M) (T := T_M) (N := 29) hx hb hts in_M hown hK hP 0 rfl rfl 2 (by decide) (hts _ m_612) (fun _ h9 => h9) rfl d_M_learn_73 ?_
        refine lv_iload_n hx hb d_M_learn_76 rfl (lv_at hl 2 rfl) ?_
        obtain ⟨hk12, hok⟩ := hok
        refine va_iald (D := E.1) hx hb hK hP 8 0 rfl rfl hk12 d_M_learn_77 ?_
        refine lv_imul hx hb d_M_learn_78 ?_
        refine lv_iload hx hb d_M_learn_79 (lv_at hl 0 rfl) ?_
        refine lv_if_eq (tgt := 91) hx hb d_M_learn_81 (by decide) (fun cz => absurd cz (by decide)) (fun cz => ?_)
        refine lv_iconst (v := 1) hx hb d_M_learn_84 (by decide) ?_
        refine lv_iload hx hb d_M_learn_85 (lv_at hl 1 rfl) ?_
        refine lv_isub hx hb d_M_learn_87 ?_
        refine lv_goto (tgt := 93) hx hb d_M_learn_88 (by decide) ?_
        refine lv_iadd hx hb d_M_learn_93 ?_
        refine lv_topi (fun x13 ex13 => ?_)
        replace hok := hok x13 ex13
        obtain ⟨hk14, hok⟩ := hok
        refine va_iast (D := E.1) (x := x13) hx hb hK hP hD hS 1 0 rfl rfl hk14 d_M_learn_94 (fun Hn locsn hPn hDn hSn => ?_)
        clear hP hD hS
        have hP : va_P E.1 classes [(mo, .inr (5, [.ref s1, .ref s2, .ref s3, .int st.1.1, .int (nI nx), .ref mc, .int st.1.2.1, .ref sv, .int st.1.2.2.1, .ref sa, .ref wr, .int st.1.2.2.2.1, .ref bt, .int (bI st.1.2.2.2.2.1), .int st.1.2.2.2.2.2.1, .int st.1.2.2.2.2.2.2.1, .int st.1.2.2.2.2.2.2.2.1, .int st.1.2.2.2.2.2.2.2.2.1, .int st.1.2.2.2.2.2.2.2.2.2.1, .int st.1.2.2.2.2.2.2.2.2.2.2.1, .int st.1.2.2.2.2.2.2.2.2.2.2.2.1, .int st.1.2.2.2.2.2.2.2.2.2.2.2.2.1, .long st.1.2.2.2.2.2.2.2.2.2.2.2.2.2.1, .int st.1.2.2.2.2.2.2.2.2.2.2.2.2.2.2.1, .int st.1.2.2.2.2.2.2.2.2.2.2.2.2.2.2.2.1, .int st.1.2.2.2.2.2.2.2.2.2.2.2.2.2.2.2.2.1, .int (bI st.1.2.2.2.2.2.2.2.2.2.2.2.2.2.2.2.2.2.1), .int st.1.2.2.2.2.2.2.2.2.2.2.2.2.2.2.2.2.2.2.1, .int st.1.2.2.2.2.2.2.2.2.2.2.2.2.2.2.2.2.2.2.2])), (mc, .inl (E.2.1 0, 139264, .inl (upd st.2.1 (Int32.toNatClampNeg p0) x13))), (sv, .inl (E.2.1 0, 393216, .inl st.2.2.1)), (sa, .inl (E.2.1 0, 1100, .inl st.2.2.2.1)), (wr, .inl (E.2.1 1, 1100, .inl st.2.2.2.2.1)), (bt, .inl (E.2.1 0, 120000, .inl st.2.2.2.2.2)), (s1, .inl (E.2.1 0, 47, .inl (zF 0))), (s2, .inl (E.2.1 0, 47, .inl (zF 1))), (s3, .inl (E.2.1 0, 47, .inl (zF 2)))] Hn := hPn
        have hD : va_D A [(mo, .inr (5, [.ref s1, .ref s2, .ref s3, .int st.1.1, .int (nI nx), .ref mc, .int st.1.2.1, .ref sv, .int st.1.2.2.1, .ref sa, .ref wr, .int st.1.2.2.2.1, .ref bt, .int (bI st.1.2.2.2.2.1), .int st.1.2.2.2.2.2.1, .int st.1.2.2.2.2.2.2.1, .int st.1.2.2.2.2.2.2.2.1, .int st.1.2.2.2.2.2.2.2.2.1, .int st.1.2.2.2.2.2.2.2.2.2.1, .int st.1.2.2.2.2.2.2.2.2.2.2.1, .int st.1.2.2.2.2.2.2.2.2.2.2.2.1, .int st.1.2.2.2.2.2.2.2.2.2.2.2.2.1, .long st.1.2.2.2.2.2.2.2.2.2.2.2.2.2.1, .int st.1.2.2.2.2.2.2.2.2.2.2.2.2.2.2.1, .int st.1.2.2.2.2.2.2.2.2.2.2.2.2.2.2.2.1, .int st.1.2.2.2.2.2.2.2.2.2.2.2.2.2.2.2.2.1, .int (bI st.1.2.2.2.2.2.2.2.2.2.2.2.2.2.2.2.2.2.1), .int st.1.2.2.2.2.2.2.2.2.2.2.2.2.2.2.2.2.2.2.1, .int st.1.2.2.2.2.2.2.2.2.2.2.2.2.2.2.2.2.2.2.2])), (mc, .inl (E.2.1 0, 139264, .inl (upd st.2.1 (Int32.toNatClampNeg p0) x13))), (sv, .inl (E.2.1 0, 393216, .inl st.2.2.1)), (sa, .inl (E.2.1 0, 1100, .inl st.2.2.2.1)), (wr, .inl (E.2.1 1, 1100, .inl st.2.2.2.2.1)), (bt, .inl (E.2.1 0, 120000, .inl st.2.2.2.2.2)), (s1, .inl (E.2.1 0, 47, .inl (zF 0))), (s2, .inl (E.2.1 0, 47, .inl (zF 1))), (s3, .inl (E.2.1 0, 47, .inl (zF 2)))] := hDn
        have hS := hSn
        clear hPn hDn hSn
        exact ar_vret hx hb hr hlocks hK hS (st.1, (upd st.2.1 (Int32.toNatClampNeg p0) x13), st.2.2.1, st.2.2.2.1, st.2.2.2.2.1, st.2.2.2.2.2) (by subst ex13; subst ex4; subst ex2; exact Eq.symm (Eq.trans (f_M_learn_s nx p0 p1 st) (Eq.trans (if_pos c5) (Eq.trans (if_neg c6) (Eq.trans (if_pos c11) rfl))))) hP hD d_M_learn_95
      · replace hok := hok.2 c11
        refine lv_iload_n hx hb d_M_learn_53 rfl (lv_at hl 1 rfl) ?_
        refine lv_bipush (v := 14) hx hb d_M_learn_54 (by decide) ?_
        refine lv_icmp_ne (tgt := 63) hx hb d_M_learn_56 (by decide) (fun c16 => ?_) (fun c16 => ?_)
        · replace hok := hok.2 c16
          refine lv_iconst (v := 0) hx hb d_M_learn_63 (by decide) ?_
          refine lv_istore (lv' := [(5, .int 0), (4, .int x4), (3, .int x2), (0, .ref mo), (1, .int p0), (2, .int (bI p1))]) hx hb d_M_learn_64 hl (by decide) rfl (fun ls hl => ?_)
          refine lv_aload_n hx hb d_M_learn_66 rfl (lv_at hl 3 rfl) ?_
          refine va_get (D := E.1) (ci := 5) (v := .ref mc) (C := R_M) (T := T_M) (N := 29) hx hb hts in_M hown hK hP 0 rfl rfl 5 (by decide) (hts _ m_615) (fun _ h9 => h9) rfl d_M_learn_67 ?_
          refine lv_iload_n hx hb d_M_learn_70 rfl (lv_at hl 4 rfl) ?_
          refine lv_iconst (v := 2) hx hb d_M_learn_71 (by decide) ?_
          refine lv_aload_n hx hb d_M_learn_72 rfl (lv_at hl 3 rfl) ?_
          refine va_get (D := E.1) (ci := 5) (v := .ref s3) (C := R_M) (T := T_M) (N := 29) hx hb hts in_M hown hK hP 0 rfl rfl 2 (by decide) (hts _ m_612) (fun _ h9 => h9) rfl d_M_learn_73 ?_
          refine lv_iload_n hx hb d_M_learn_76 rfl (lv_at hl 2 rfl) ?_
          obtain ⟨hk17, hok⟩ := hok
          refine va_iald (D := E.1) hx hb hK hP 8 0 rfl rfl hk17 d_M_learn_77 ?_
          refine lv_imul hx hb d_M_learn_78 ?_
          refine lv_iload hx hb d_M_learn_79 (lv_at hl 0 rfl) ?_
          refine lv_if_eq (tgt := 91) hx hb d_M_learn_81 (by decide) (fun cz => ?_) (fun cz => absurd cz (by decide))
          refine lv_iload hx hb d_M_learn_91 (lv_at hl 1 rfl) ?_
          refine lv_iadd hx hb d_M_learn_93 ?_
          refine lv_topi (fun x18 ex18 => ?_)
          replace hok := hok x18 ex18
          obtain ⟨hk19, hok⟩ := hok
          refine va_iast (D := E.1) (x := x18) hx hb hK hP hD hS 1 0 rfl rfl hk19 d_M_learn_94 (fun Hn locsn hPn hDn hSn => ?_)
          clear hP hD hS
          have hP : va_P E.1 classes [(mo, .inr (5, [.ref s1, .ref s2, .ref s3, .int st.1.1, .int (nI nx), .ref mc, .int st.1.2.1, .ref sv, .int st.1.2.2.1, .ref sa, .ref wr, .int st.1.2.2.2.1, .ref bt, .int (bI st.1.2.2.2.2.1), .int st.1.2.2.2.2.2.1, .int st.1.2.2.2.2.2.2.1, .int st.1.2.2.2.2.2.2.2.1, .int st.1.2.2.2.2.2.2.2.2.1, .int st.1.2.2.2.2.2.2.2.2.2.1, .int st.1.2.2.2.2.2.2.2.2.2.2.1, .int st.1.2.2.2.2.2.2.2.2.2.2.2.1, .int st.1.2.2.2.2.2.2.2.2.2.2.2.2.1, .long st.1.2.2.2.2.2.2.2.2.2.2.2.2.2.1, .int st.1.2.2.2.2.2.2.2.2.2.2.2.2.2.2.1, .int st.1.2.2.2.2.2.2.2.2.2.2.2.2.2.2.2.1, .int st.1.2.2.2.2.2.2.2.2.2.2.2.2.2.2.2.2.1, .int (bI st.1.2.2.2.2.2.2.2.2.2.2.2.2.2.2.2.2.2.1), .int st.1.2.2.2.2.2.2.2.2.2.2.2.2.2.2.2.2.2.2.1, .int st.1.2.2.2.2.2.2.2.2.2.2.2.2.2.2.2.2.2.2.2])), (mc, .inl (E.2.1 0, 139264, .inl (upd st.2.1 (Int32.toNatClampNeg p0) x18))), (sv, .inl (E.2.1 0, 393216, .inl st.2.2.1)), (sa, .inl (E.2.1 0, 1100, .inl st.2.2.2.1)), (wr, .inl (E.2.1 1, 1100, .inl st.2.2.2.2.1)), (bt, .inl (E.2.1 0, 120000, .inl st.2.2.2.2.2)), (s1, .inl (E.2.1 0, 47, .inl (zF 0))), (s2, .inl (E.2.1 0, 47, .inl (zF 1))), (s3, .inl (E.2.1 0, 47, .inl (zF 2)))] Hn := hPn
          have hD : va_D A [(mo, .inr (5, [.ref s1, .ref s2, .ref s3, .int st.1.1, .int (nI nx), .ref mc, .int st.1.2.1, .ref sv, .int st.1.2.2.1, .ref sa, .ref wr, .int st.1.2.2.2.1, .ref bt, .int (bI st.1.2.2.2.2.1), .int st.1.2.2.2.2.2.1, .int st.1.2.2.2.2.2.2.1, .int st.1.2.2.2.2.2.2.2.1, .int st.1.2.2.2.2.2.2.2.2.1, .int st.1.2.2.2.2.2.2.2.2.2.1, .int st.1.2.2.2.2.2.2.2.2.2.2.1, .int st.1.2.2.2.2.2.2.2.2.2.2.2.1, .int st.1.2.2.2.2.2.2.2.2.2.2.2.2.1, .long st.1.2.2.2.2.2.2.2.2.2.2.2.2.2.1, .int st.1.2.2.2.2.2.2.2.2.2.2.2.2.2.2.1, .int st.1.2.2.2.2.2.2.2.2.2.2.2.2.2.2.2.1, .int st.1.2.2.2.2.2.2.2.2.2.2.2.2.2.2.2.2.1, .int (bI st.1.2.2.2.2.2.2.2.2.2.2.2.2.2.2.2.2.2.1), .int st.1.2.2.2.2.2.2.2.2.2.2.2.2.2.2.2.2.2.2.1, .int st.1.2.2.2.2.2.2.2.2.2.2.2.2.2.2.2.2.2.2.2])), (mc, .inl (E.2.1 0, 139264, .inl (upd st.2.1 (Int32.toNatClampNeg p0) x18))), (sv, .inl (E.2.1 0, 393216, .inl st.2.2.1)), (sa, .inl (E.2.1 0, 1100, .inl st.2.2.2.1)), (wr, .inl (E.2.1 1, 1100, .inl st.2.2.2.2.1)), (bt, .inl (E.2.1 0, 120000, .inl st.2.2.2.2.2)), (s1, .inl (E.2.1 0, 47, .inl (zF 0))), (s2, .inl (E.2.1 0, 47, .inl (zF 1))), (s3, .inl (E.2.1 0, 47, .inl (zF 2)))] := hDn
          have hS := hSn
          clear hPn hDn hSn
          exact ar_vret hx hb hr hlocks hK hS (st.1, (upd st.2.1 (Int32.toNatClampNeg p0) x18), st.2.2.1, st.2.2.2.1, st.2.2.2.2.1, st.2.2.2.2.2) (by subst ex18; subst ex4; subst ex2; exact Eq.symm (Eq.trans (f_M_learn_s nx p0 p1 st) (Eq.trans (if_pos c5) (Eq.trans (if_neg c6) (Eq.trans (if_neg c11) (Eq.trans (if_neg c16) rfl)))))) hP hD d_M_learn_95
        · replace hok := hok.1 c16
          refine lv_iconst (v := 1) hx hb d_M_learn_59 (by decide) ?_
          refine lv_goto (tgt := 64) hx hb d_M_learn_60 (by decide) ?_
          refine lv_istore (lv' := [(5, .int 1), (4, .int x4), (3, .int x2), (0, .ref mo), (1, .int p0), (2, .int (bI p1))]) hx hb d_M_learn_64 hl (by decide) rfl (fun ls hl => ?_)
          refine lv_aload_n hx hb d_M_learn_66 rfl (lv_at hl 3 rfl) ?_
          refine va_get (D := E.1) (ci := 5) (v := .ref mc) (C := R_M) (T := T_M) (N := 29) hx hb hts in_M hown hK hP 0 rfl rfl 5 (by decide) (hts _ m_615) (fun _ h9 => h9) rfl d_M_learn_67 ?_
          refine lv_iload_n hx hb d_M_learn_70 rfl (lv_at hl 4 rfl) ?_
          refine lv_iconst (v := 2) hx hb d_M_learn_71 (by decide) ?_
          refine lv_aload_n hx hb d_M_learn_72 rfl (lv_at hl 3 rfl) ?_
          refine va_get (D := E.1) (ci := 5) (v := .ref s3) (C := R_M) (T := T_M) (N := 29) hx hb hts in_M hown hK hP 0 rfl rfl 2 (by decide) (hts _ m_612) (fun _ h9 => h9) rfl d_M_learn_73 ?_
          refine lv_iload_n hx hb d_M_learn_76 rfl (lv_at hl 2 rfl) ?_
          obtain ⟨hk21, hok⟩ := hok
          refine va_iald (D := E.1) hx hb hK hP 8 0 rfl rfl hk21 d_M_learn_77 ?_
          refine lv_imul hx hb d_M_learn_78 ?_
          refine lv_iload hx hb d_M_learn_79 (lv_at hl 0 rfl) ?_
          refine lv_if_eq (tgt := 91) hx hb d_M_learn_81 (by decide) (fun cz => absurd cz (by decide)) (fun cz => ?_)
          refine lv_iconst (v := 1) hx hb d_M_learn_84 (by decide) ?_
          refine lv_iload hx hb d_M_learn_85 (lv_at hl 1 rfl) ?_
          refine lv_isub hx hb d_M_learn_87 ?_
          refine lv_goto (tgt := 93) hx hb d_M_learn_88 (by decide) ?_
          refine lv_iadd hx hb d_M_learn_93 ?_
          refine lv_topi (fun x22 ex22 => ?_)
          replace hok := hok x22 ex22
          obtain ⟨hk23, hok⟩ := hok
          refine va_iast (D := E.1) (x := x22) hx hb hK hP hD hS 1 0 rfl rfl hk23 d_M_learn_94 (fun Hn locsn hPn hDn hSn => ?_)
          clear hP hD hS
          have hP : va_P E.1 classes [(mo, .inr (5, [.ref s1, .ref s2, .ref s3, .int st.1.1, .int (nI nx), .ref mc, .int st.1.2.1, .ref sv, .int st.1.2.2.1, .ref sa, .ref wr, .int st.1.2.2.2.1, .ref bt, .int (bI st.1.2.2.2.2.1), .int st.1.2.2.2.2.2.1, .int st.1.2.2.2.2.2.2.1, .int st.1.2.2.2.2.2.2.2.1, .int st.1.2.2.2.2.2.2.2.2.1, .int st.1.2.2.2.2.2.2.2.2.2.1, .int st.1.2.2.2.2.2.2.2.2.2.2.1, .int st.1.2.2.2.2.2.2.2.2.2.2.2.1, .int st.1.2.2.2.2.2.2.2.2.2.2.2.2.1, .long st.1.2.2.2.2.2.2.2.2.2.2.2.2.2.1, .int st.1.2.2.2.2.2.2.2.2.2.2.2.2.2.2.1, .int st.1.2.2.2.2.2.2.2.2.2.2.2.2.2.2.2.1, .int st.1.2.2.2.2.2.2.2.2.2.2.2.2.2.2.2.2.1, .int (bI st.1.2.2.2.2.2.2.2.2.2.2.2.2.2.2.2.2.2.1), .int st.1.2.2.2.2.2.2.2.2.2.2.2.2.2.2.2.2.2.2.1, .int st.1.2.2.2.2.2.2.2.2.2.2.2.2.2.2.2.2.2.2.2])), (mc, .inl (E.2.1 0, 139264, .inl (upd st.2.1 (Int32.toNatClampNeg p0) x22))), (sv, .inl (E.2.1 0, 393216, .inl st.2.2.1)), (sa, .inl (E.2.1 0, 1100, .inl st.2.2.2.1)), (wr, .inl (E.2.1 1, 1100, .inl st.2.2.2.2.1)), (bt, .inl (E.2.1 0, 120000, .inl st.2.2.2.2.2)), (s1, .inl (E.2.1 0, 47, .inl (zF 0))), (s2, .inl (E.2.1 0, 47, .inl (zF 1))), (s3, .inl (E.2.1 0, 47, .inl (zF 2)))] Hn := hPn
          have hD : va_D A [(mo, .inr (5, [.ref s1, .ref s2, .ref s3, .int st.1.1, .int (nI nx), .ref mc, .int st.1.2.1, .ref sv, .int st.1.2.2.1, .ref sa, .ref wr, .int st.1.2.2.2.1, .ref bt, .int (bI st.1.2.2.2.2.1), .int st.1.2.2.2.2.2.1, .int st.1.2.2.2.2.2.2.1, .int st.1.2.2.2.2.2.2.2.1, .int st.1.2.2.2.2.2.2.2.2.1, .int st.1.2.2.2.2.2.2.2.2.2.1, .int st.1.2.2.2.2.2.2.2.2.2.2.1, .int st.1.2.2.2.2.2.2.2.2.2.2.2.1, .int st.1.2.2.2.2.2.2.2.2.2.2.2.2.1, .long st.1.2.2.2.2.2.2.2.2.2.2.2.2.2.1, .int st.1.2.2.2.2.2.2.2.2.2.2.2.2.2.2.1, .int st.1.2.2.2.2.2.2.2.2.2.2.2.2.2.2.2.1, .int st.1.2.2.2.2.2.2.2.2.2.2.2.2.2.2.2.2.1, .int (bI st.1.2.2.2.2.2.2.2.2.2.2.2.2.2.2.2.2.2.1), .int st.1.2.2.2.2.2.2.2.2.2.2.2.2.2.2.2.2.2.2.1, .int st.1.2.2.2.2.2.2.2.2.2.2.2.2.2.2.2.2.2.2.2])), (mc, .inl (E.2.1 0, 139264, .inl (upd st.2.1 (Int32.toNatClampNeg p0) x22))), (sv, .inl (E.2.1 0, 393216, .inl st.2.2.1)), (sa, .inl (E.2.1 0, 1100, .inl st.2.2.2.1)), (wr, .inl (E.2.1 1, 1100, .inl st.2.2.2.2.1)), (bt, .inl (E.2.1 0, 120000, .inl st.2.2.2.2.2)), (s1, .inl (E.2.1 0, 47, .inl (zF 0))), (s2, .inl (E.2.1 0, 47, .inl (zF 1))), (s3, .inl (E.2.1 0, 47, .inl (zF 2)))] := hDn
          have hS := hSn
          clear hPn hDn hSn
          exact ar_vret hx hb hr hlocks hK hS (st.1, (upd st.2.1 (Int32.toNatClampNeg p0) x22), st.2.2.1, st.2.2.2.1, st.2.2.2.2.1, st.2.2.2.2.2) (by subst ex22; subst ex4; subst ex2; exact Eq.symm (Eq.trans (f_M_learn_s nx p0 p1 st) (Eq.trans (if_pos c5) (Eq.trans (if_neg c6) (Eq.trans (if_neg c11) (Eq.trans (if_pos c16) rfl)))))) hP hD d_M_learn_95
  · replace hok := hok.2 c5
    refine lv_aload_n hx hb d_M_learn_23 rfl (lv_at hl 2 rfl) ?_
    refine va_get (D := E.1) (ci := 5) (v := .ref mc) (C := R_M) (T := T_M) (N := 29) hx hb hts in_M hown hK hP 0 rfl rfl 5 (by decide) (hts _ m_615) (fun _ h9 => h9) rfl d_M_learn_24 ?_
    refine lv_iload_n hx hb d_M_learn_27 rfl (lv_at hl 3 rfl) ?_
    refine lv_iconst (v := 2) hx hb d_M_learn_28 (by decide) ?_
    refine lv_aload_n hx hb d_M_learn_29 rfl (lv_at hl 2 rfl) ?_
    refine va_get (D := E.1) (ci := 5) (v := .ref s2) (C := R_M) (T := T_M) (N := 29) hx hb hts in_M hown hK hP 0 rfl rfl 1 (by decide) (hts _ m_611) (fun _ h9 => h9) rfl d_M_learn_30 ?_
    refine lv_iload_n hx hb d_M_learn_33 rfl (lv_at hl 1 rfl) ?_
    obtain ⟨hk25, hok⟩ := hok
    refine va_iald (D := E.1) hx hb hK hP 7 0 rfl rfl hk25 d_M_learn_34 ?_
    refine lv_imul hx hb d_M_learn_35 ?_
    refine lv_iload hx hb d_M_learn_36 (lv_at hl 0 rfl) ?_
    refine lv_iadd hx hb d_M_learn_38 ?_
    refine lv_topi (fun x26 ex26 => ?_)
    replace hok := hok x26 ex26
    obtain ⟨hk27, hok⟩ := hok
    refine va_iast (D := E.1) (x := x26) hx hb hK hP hD hS 1 0 rfl rfl hk27 d_M_learn_39 (fun Hn locsn hPn hDn hSn => ?_)
    clear hP hD hS
    have hP : va_P E.1 classes [(mo, .inr (5, [.ref s1, .ref s2, .ref s3, .int st.1.1, .int (nI nx), .ref mc, .int st.1.2.1, .ref sv, .int st.1.2.2.1, .ref sa, .ref wr, .int st.1.2.2.2.1, .ref bt, .int (bI st.1.2.2.2.2.1), .int st.1.2.2.2.2.2.1, .int st.1.2.2.2.2.2.2.1, .int st.1.2.2.2.2.2.2.2.1, .int st.1.2.2.2.2.2.2.2.2.1, .int st.1.2.2.2.2.2.2.2.2.2.1, .int st.1.2.2.2.2.2.2.2.2.2.2.1, .int st.1.2.2.2.2.2.2.2.2.2.2.2.1, .int st.1.2.2.2.2.2.2.2.2.2.2.2.2.1, .long st.1.2.2.2.2.2.2.2.2.2.2.2.2.2.1, .int st.1.2.2.2.2.2.2.2.2.2.2.2.2.2.2.1, .int st.1.2.2.2.2.2.2.2.2.2.2.2.2.2.2.2.1, .int st.1.2.2.2.2.2.2.2.2.2.2.2.2.2.2.2.2.1, .int (bI st.1.2.2.2.2.2.2.2.2.2.2.2.2.2.2.2.2.2.1), .int st.1.2.2.2.2.2.2.2.2.2.2.2.2.2.2.2.2.2.2.1, .int st.1.2.2.2.2.2.2.2.2.2.2.2.2.2.2.2.2.2.2.2])), (mc, .inl (E.2.1 0, 139264, .inl (upd st.2.1 (Int32.toNatClampNeg p0) x26))), (sv, .inl (E.2.1 0, 393216, .inl st.2.2.1)), (sa, .inl (E.2.1 0, 1100, .inl st.2.2.2.1)), (wr, .inl (E.2.1 1, 1100, .inl st.2.2.2.2.1)), (bt, .inl (E.2.1 0, 120000, .inl st.2.2.2.2.2)), (s1, .inl (E.2.1 0, 47, .inl (zF 0))), (s2, .inl (E.2.1 0, 47, .inl (zF 1))), (s3, .inl (E.2.1 0, 47, .inl (zF 2)))] Hn := hPn
    have hD : va_D A [(mo, .inr (5, [.ref s1, .ref s2, .ref s3, .int st.1.1, .int (nI nx), .ref mc, .int st.1.2.1, .ref sv, .int st.1.2.2.1, .ref sa, .ref wr, .int st.1.2.2.2.1, .ref bt, .int (bI st.1.2.2.2.2.1), .int st.1.2.2.2.2.2.1, .int st.1.2.2.2.2.2.2.1, .int st.1.2.2.2.2.2.2.2.1, .int st.1.2.2.2.2.2.2.2.2.1, .int st.1.2.2.2.2.2.2.2.2.2.1, .int st.1.2.2.2.2.2.2.2.2.2.2.1, .int st.1.2.2.2.2.2.2.2.2.2.2.2.1, .int st.1.2.2.2.2.2.2.2.2.2.2.2.2.1, .long st.1.2.2.2.2.2.2.2.2.2.2.2.2.2.1, .int st.1.2.2.2.2.2.2.2.2.2.2.2.2.2.2.1, .int st.1.2.2.2.2.2.2.2.2.2.2.2.2.2.2.2.1, .int st.1.2.2.2.2.2.2.2.2.2.2.2.2.2.2.2.2.1, .int (bI st.1.2.2.2.2.2.2.2.2.2.2.2.2.2.2.2.2.2.1), .int st.1.2.2.2.2.2.2.2.2.2.2.2.2.2.2.2.2.2.2.1, .int st.1.2.2.2.2.2.2.2.2.2.2.2.2.2.2.2.2.2.2.2])), (mc, .inl (E.2.1 0, 139264, .inl (upd st.2.1 (Int32.toNatClampNeg p0) x26))), (sv, .inl (E.2.1 0, 393216, .inl st.2.2.1)), (sa, .inl (E.2.1 0, 1100, .inl st.2.2.2.1)), (wr, .inl (E.2.1 1, 1100, .inl st.2.2.2.2.1)), (bt, .inl (E.2.1 0, 120000, .inl st.2.2.2.2.2)), (s1, .inl (E.2.1 0, 47, .inl (zF 0))), (s2, .inl (E.2.1 0, 47, .inl (zF 1))), (s3, .inl (E.2.1 0, 47, .inl (zF 2)))] := hDn
    have hS := hSn
    clear hPn hDn hSn
    refine lv_goto (tgt := 95) hx hb d_M_learn_40 (by decide) ?_
    exact ar_vret hx hb hr hlocks hK hS (st.1, (upd st.2.1 (Int32.toNatClampNeg p0) x26), st.2.2.1, st.2.2.2.1, st.2.2.2.2.1, st.2.2.2.2.2) (by subst ex26; subst ex4; subst ex2; exact Eq.symm (Eq.trans (f_M_learn_s nx p0 p1 st) (Eq.trans (if_neg c5) rfl))) hP hD d_M_learn_95

noncomputable def f_M_beginSegment (nx : Nat) (p0 : Bool) (st : MS) : MS :=
  let x5 := (st.1.2.2.1 + 1)
  ((st.1.1, st.1.2.1, x5, st.1.2.2.2.1, st.1.2.2.2.2.1, 32768, 0, 12, 0, 8, st.1.2.2.2.2.2.2.2.2.2.2.1, st.1.2.2.2.2.2.2.2.2.2.2.2.1, st.1.2.2.2.2.2.2.2.2.2.2.2.2.1, st.1.2.2.2.2.2.2.2.2.2.2.2.2.2.1, st.1.2.2.2.2.2.2.2.2.2.2.2.2.2.2.1, st.1.2.2.2.2.2.2.2.2.2.2.2.2.2.2.2.1, st.1.2.2.2.2.2.2.2.2.2.2.2.2.2.2.2.2.1, st.1.2.2.2.2.2.2.2.2.2.2.2.2.2.2.2.2.2.1, st.1.2.2.2.2.2.2.2.2.2.2.2.2.2.2.2.2.2.2.1, st.1.2.2.2.2.2.2.2.2.2.2.2.2.2.2.2.2.2.2.2), st.2.1, st.2.2.1, (upd (upd st.2.2.2.1 (Int32.toNatClampNeg st.1.2.2.1) st.1.2.2.2.1) (Int32.toNatClampNeg x5) st.1.2.2.2.1), (upd st.2.2.2.2.1 (Int32.toNatClampNeg st.1.2.2.1) (bI p0)), st.2.2.2.2.2)
theorem f_M_beginSegment_s (nx : Nat) (p0 : Bool) (st : MS) : f_M_beginSegment nx p0 st = ((
  let x5 := (st.1.2.2.1 + 1)
  ((st.1.1, st.1.2.1, x5, st.1.2.2.2.1, st.1.2.2.2.2.1, 32768, 0, 12, 0, 8, st.1.2.2.2.2.2.2.2.2.2.2.1, st.1.2.2.2.2.2.2.2.2.2.2.2.1, st.1.2.2.2.2.2.2.2.2.2.2.2.2.1, st.1.2.2.2.2.2.2.2.2.2.2.2.2.2.1, st.1.2.2.2.2.2.2.2.2.2.2.2.2.2.2.1, st.1.2.2.2.2.2.2.2.2.2.2.2.2.2.2.2.1, st.1.2.2.2.2.2.2.2.2.2.2.2.2.2.2.2.2.1, st.1.2.2.2.2.2.2.2.2.2.2.2.2.2.2.2.2.2.1, st.1.2.2.2.2.2.2.2.2.2.2.2.2.2.2.2.2.2.2.1, st.1.2.2.2.2.2.2.2.2.2.2.2.2.2.2.2.2.2.2.2), st.2.1, st.2.2.1, (upd (upd st.2.2.2.1 (Int32.toNatClampNeg st.1.2.2.1) st.1.2.2.2.1) (Int32.toNatClampNeg x5) st.1.2.2.2.1), (upd st.2.2.2.2.1 (Int32.toNatClampNeg st.1.2.2.1) (bI p0)), st.2.2.2.2.2)
  : MS)) := rfl
def k_M_beginSegment (nx : Nat) (p0 : Bool) (st : MS) : Prop := (vp_in st.1.2.2.1 1100) ∧ ((vp_in st.1.2.2.1 1100) ∧ ((∀ x5, x5 = (st.1.2.2.1 + 1) → (vp_in x5 1100) ∧ (True))))
set_option maxHeartbeats 4000000 in
set_option maxRecDepth 100000 in
theorem c_M_beginSegment (l : Launch) (E : Ev) (A : Nat → Prop) (mo mc sv sa wr bt s1 s2 s3 nx : Nat) (st : MS) (p0 : Bool)  (hok : k_M_beginSegment nx p0 st) :
    Kt l y_M_beginSegment b_M_beginSegment 2 none 0 0 0 E A [.ref mo, .int (bI p0)] [(mo, .inr (5, [.ref s1, .ref s2, .ref s3, .int st.1.1, .int (nI nx), .ref mc, .int st.1.2.1, .ref sv, .int st.1.2.2.1, .ref sa, .ref wr, .int st.1.2.2.2.1, .ref bt, .int (bI st.1.2.2.2.2.1), .int st.1.2.2.2.2.2.1, .int st.1.2.2.2.2.2.2.1, .int st.1.2.2.2.2.2.2.2.1, .int st.1.2.2.2.2.2.2.2.2.1, .int st.1.2.2.2.2.2.2.2.2.2.1, .int st.1.2.2.2.2.2.2.2.2.2.2.1, .int st.1.2.2.2.2.2.2.2.2.2.2.2.1, .int st.1.2.2.2.2.2.2.2.2.2.2.2.2.1, .long st.1.2.2.2.2.2.2.2.2.2.2.2.2.2.1, .int st.1.2.2.2.2.2.2.2.2.2.2.2.2.2.2.1, .int st.1.2.2.2.2.2.2.2.2.2.2.2.2.2.2.2.1, .int st.1.2.2.2.2.2.2.2.2.2.2.2.2.2.2.2.2.1, .int (bI st.1.2.2.2.2.2.2.2.2.2.2.2.2.2.2.2.2.2.1), .int st.1.2.2.2.2.2.2.2.2.2.2.2.2.2.2.2.2.2.2.1, .int st.1.2.2.2.2.2.2.2.2.2.2.2.2.2.2.2.2.2.2.2])), (mc, .inl (E.2.1 0, 139264, .inl st.2.1)), (sv, .inl (E.2.1 0, 393216, .inl st.2.2.1)), (sa, .inl (E.2.1 0, 1100, .inl st.2.2.2.1)), (wr, .inl (E.2.1 1, 1100, .inl st.2.2.2.2.1)), (bt, .inl (E.2.1 0, 120000, .inl st.2.2.2.2.2)), (s1, .inl (E.2.1 0, 47, .inl (zF 0))), (s2, .inl (E.2.1 0, 47, .inl (zF 1))), (s3, .inl (E.2.1 0, 47, .inl (zF 2)))] (va_Qv (fun u : MS => u = f_M_beginSegment nx p0 st) (ar_W E A (fun u : MS => [(mo, .inr (5, [.ref s1, .ref s2, .ref s3, .int u.1.1, .int (nI nx), .ref mc, .int u.1.2.1, .ref sv, .int u.1.2.2.1, .ref sa, .ref wr, .int u.1.2.2.2.1, .ref bt, .int (bI u.1.2.2.2.2.1), .int u.1.2.2.2.2.2.1, .int u.1.2.2.2.2.2.2.1, .int u.1.2.2.2.2.2.2.2.1, .int u.1.2.2.2.2.2.2.2.2.1, .int u.1.2.2.2.2.2.2.2.2.2.1, .int u.1.2.2.2.2.2.2.2.2.2.2.1, .int u.1.2.2.2.2.2.2.2.2.2.2.2.1, .int u.1.2.2.2.2.2.2.2.2.2.2.2.2.1, .long u.1.2.2.2.2.2.2.2.2.2.2.2.2.2.1, .int u.1.2.2.2.2.2.2.2.2.2.2.2.2.2.2.1, .int u.1.2.2.2.2.2.2.2.2.2.2.2.2.2.2.2.1, .int u.1.2.2.2.2.2.2.2.2.2.2.2.2.2.2.2.2.1, .int (bI u.1.2.2.2.2.2.2.2.2.2.2.2.2.2.2.2.2.2.1), .int u.1.2.2.2.2.2.2.2.2.2.2.2.2.2.2.2.2.2.2.1, .int u.1.2.2.2.2.2.2.2.2.2.2.2.2.2.2.2.2.2.2.2])), (mc, .inl (E.2.1 0, 139264, .inl u.2.1)), (sv, .inl (E.2.1 0, 393216, .inl u.2.2.1)), (sa, .inl (E.2.1 0, 1100, .inl u.2.2.2.1)), (wr, .inl (E.2.1 1, 1100, .inl u.2.2.2.2.1)), (bt, .inl (E.2.1 0, 120000, .inl u.2.2.2.2.2)), (s1, .inl (E.2.1 0, 47, .inl (zF 0))), (s2, .inl (E.2.1 0, 47, .inl (zF 1))), (s3, .inl (E.2.1 0, 47, .inl (zF 2)))])) A) := by
  unfold k_M_beginSegment at hok
  refine Kt.of (by decide) (Nat.le_of_ble_eq_true rfl) ?_
  intro p e s m below meth c ls hx hb hml hown hts hr hlocks hex hin hA hZ hP hK hD hl
  have hS : va_S A s.heap s.heap [] := va_S.rf
  have hl : lv_has ls 2 [(0, .ref mo), (1, .int (bI p0))] := hl
  refine lv_aload_n hx hb d_M_beginSegment_0 rfl (lv_at hl 0 rfl) ?_
  refine va_get (D := E.1) (ci := 5) (v := .ref sa) (C := R_M) (T := T_M) (N := 29) hx hb hts in_M hown hK hP 0 rfl rfl 9 (by decide) (hts _ m_619) (fun _ h9 => h9) rfl d_M_beginSegment_1 ?_
  refine lv_aload_n hx hb d_M_beginSegment_4 rfl (lv_at hl 0 rfl) ?_
  refine va_get (D := E.1) (ci := 5) (v := .int st.1.2.2.1) (C := R_M) (T := T_M) (N := 29) hx hb hts in_M hown hK hP 0 rfl rfl 8 (by decide) (hts _ m_618) (fun _ h9 => h9) rfl d_M_beginSegment_5 ?_
  refine lv_aload_n hx hb d_M_beginSegment_8 rfl (lv_at hl 0 rfl) ?_
  refine va_get (D := E.1) (ci := 5) (v := .int st.1.2.2.2.1) (C := R_M) (T := T_M) (N := 29) hx hb hts in_M hown hK hP 0 rfl rfl 11 (by decide) (hts _ m_621) (fun _ h9 => h9) rfl d_M_beginSegment_9 ?_
  obtain ⟨hk1, hok⟩ := hok
  refine va_iast (D := E.1) (x := st.1.2.2.2.1) hx hb hK hP hD hS 3 0 rfl rfl hk1 d_M_beginSegment_12 (fun Hn locsn hPn hDn hSn => ?_)
  clear hP hD hS
  have hP : va_P E.1 classes [(mo, .inr (5, [.ref s1, .ref s2, .ref s3, .int st.1.1, .int (nI nx), .ref mc, .int st.1.2.1, .ref sv, .int st.1.2.2.1, .ref sa, .ref wr, .int st.1.2.2.2.1, .ref bt, .int (bI st.1.2.2.2.2.1), .int st.1.2.2.2.2.2.1, .int st.1.2.2.2.2.2.2.1, .int st.1.2.2.2.2.2.2.2.1, .int st.1.2.2.2.2.2.2.2.2.1, .int st.1.2.2.2.2.2.2.2.2.2.1, .int st.1.2.2.2.2.2.2.2.2.2.2.1, .int st.1.2.2.2.2.2.2.2.2.2.2.2.1, .int st.1.2.2.2.2.2.2.2.2.2.2.2.2.1, .long st.1.2.2.2.2.2.2.2.2.2.2.2.2.2.1, .int st.1.2.2.2.2.2.2.2.2.2.2.2.2.2.2.1, .int st.1.2.2.2.2.2.2.2.2.2.2.2.2.2.2.2.1, .int st.1.2.2.2.2.2.2.2.2.2.2.2.2.2.2.2.2.1, .int (bI st.1.2.2.2.2.2.2.2.2.2.2.2.2.2.2.2.2.2.1), .int st.1.2.2.2.2.2.2.2.2.2.2.2.2.2.2.2.2.2.2.1, .int st.1.2.2.2.2.2.2.2.2.2.2.2.2.2.2.2.2.2.2.2])), (mc, .inl (E.2.1 0, 139264, .inl st.2.1)), (sv, .inl (E.2.1 0, 393216, .inl st.2.2.1)), (sa, .inl (E.2.1 0, 1100, .inl (upd st.2.2.2.1 (Int32.toNatClampNeg st.1.2.2.1) st.1.2.2.2.1))), (wr, .inl (E.2.1 1, 1100, .inl st.2.2.2.2.1)), (bt, .inl (E.2.1 0, 120000, .inl st.2.2.2.2.2)), (s1, .inl (E.2.1 0, 47, .inl (zF 0))), (s2, .inl (E.2.1 0, 47, .inl (zF 1))), (s3, .inl (E.2.1 0, 47, .inl (zF 2)))] Hn := hPn
  have hD : va_D A [(mo, .inr (5, [.ref s1, .ref s2, .ref s3, .int st.1.1, .int (nI nx), .ref mc, .int st.1.2.1, .ref sv, .int st.1.2.2.1, .ref sa, .ref wr, .int st.1.2.2.2.1, .ref bt, .int (bI st.1.2.2.2.2.1), .int st.1.2.2.2.2.2.1, .int st.1.2.2.2.2.2.2.1, .int st.1.2.2.2.2.2.2.2.1, .int st.1.2.2.2.2.2.2.2.2.1, .int st.1.2.2.2.2.2.2.2.2.2.1, .int st.1.2.2.2.2.2.2.2.2.2.2.1, .int st.1.2.2.2.2.2.2.2.2.2.2.2.1, .int st.1.2.2.2.2.2.2.2.2.2.2.2.2.1, .long st.1.2.2.2.2.2.2.2.2.2.2.2.2.2.1, .int st.1.2.2.2.2.2.2.2.2.2.2.2.2.2.2.1, .int st.1.2.2.2.2.2.2.2.2.2.2.2.2.2.2.2.1, .int st.1.2.2.2.2.2.2.2.2.2.2.2.2.2.2.2.2.1, .int (bI st.1.2.2.2.2.2.2.2.2.2.2.2.2.2.2.2.2.2.1), .int st.1.2.2.2.2.2.2.2.2.2.2.2.2.2.2.2.2.2.2.1, .int st.1.2.2.2.2.2.2.2.2.2.2.2.2.2.2.2.2.2.2.2])), (mc, .inl (E.2.1 0, 139264, .inl st.2.1)), (sv, .inl (E.2.1 0, 393216, .inl st.2.2.1)), (sa, .inl (E.2.1 0, 1100, .inl (upd st.2.2.2.1 (Int32.toNatClampNeg st.1.2.2.1) st.1.2.2.2.1))), (wr, .inl (E.2.1 1, 1100, .inl st.2.2.2.2.1)), (bt, .inl (E.2.1 0, 120000, .inl st.2.2.2.2.2)), (s1, .inl (E.2.1 0, 47, .inl (zF 0))), (s2, .inl (E.2.1 0, 47, .inl (zF 1))), (s3, .inl (E.2.1 0, 47, .inl (zF 2)))] := hDn
  have hS := hSn
  clear hPn hDn hSn
  refine lv_aload_n hx hb d_M_beginSegment_13 rfl (lv_at hl 0 rfl) ?_
  refine va_get (D := E.1) (ci := 5) (v := .ref wr) (C := R_M) (T := T_M) (N := 29) hx hb hts in_M hown hK hP 0 rfl rfl 10 (by decide) (hts _ m_620) (fun _ h9 => h9) rfl d_M_beginSegment_14 ?_
  refine lv_aload_n hx hb d_M_beginSegment_17 rfl (lv_at hl 0 rfl) ?_
  refine va_get (D := E.1) (ci := 5) (v := .int st.1.2.2.1) (C := R_M) (T := T_M) (N := 29) hx hb hts in_M hown hK hP 0 rfl rfl 8 (by decide) (hts _ m_618) (fun _ h9 => h9) rfl d_M_beginSegment_18 ?_
  refine lv_iload_n hx hb d_M_beginSegment_21 rfl (lv_at hl 1 rfl) ?_
  obtain ⟨hk3, hok⟩ := hok
  refine va_zast (D := E.1) (x := bI p0) hx hb hK hP hD hS 4 1 rfl rfl hk3 d_M_beginSegment_22 (fun Hn locsn hPn hDn hSn => ?_)
  rw [bI_vp] at hPn hDn
  clear hP hD hS
  have hP : va_P E.1 classes [(mo, .inr (5, [.ref s1, .ref s2, .ref s3, .int st.1.1, .int (nI nx), .ref mc, .int st.1.2.1, .ref sv, .int st.1.2.2.1, .ref sa, .ref wr, .int st.1.2.2.2.1, .ref bt, .int (bI st.1.2.2.2.2.1), .int st.1.2.2.2.2.2.1, .int st.1.2.2.2.2.2.2.1, .int st.1.2.2.2.2.2.2.2.1, .int st.1.2.2.2.2.2.2.2.2.1, .int st.1.2.2.2.2.2.2.2.2.2.1, .int st.1.2.2.2.2.2.2.2.2.2.2.1, .int st.1.2.2.2.2.2.2.2.2.2.2.2.1, .int st.1.2.2.2.2.2.2.2.2.2.2.2.2.1, .long st.1.2.2.2.2.2.2.2.2.2.2.2.2.2.1, .int st.1.2.2.2.2.2.2.2.2.2.2.2.2.2.2.1, .int st.1.2.2.2.2.2.2.2.2.2.2.2.2.2.2.2.1, .int st.1.2.2.2.2.2.2.2.2.2.2.2.2.2.2.2.2.1, .int (bI st.1.2.2.2.2.2.2.2.2.2.2.2.2.2.2.2.2.2.1), .int st.1.2.2.2.2.2.2.2.2.2.2.2.2.2.2.2.2.2.2.1, .int st.1.2.2.2.2.2.2.2.2.2.2.2.2.2.2.2.2.2.2.2])), (mc, .inl (E.2.1 0, 139264, .inl st.2.1)), (sv, .inl (E.2.1 0, 393216, .inl st.2.2.1)), (sa, .inl (E.2.1 0, 1100, .inl (upd st.2.2.2.1 (Int32.toNatClampNeg st.1.2.2.1) st.1.2.2.2.1))), (wr, .inl (E.2.1 1, 1100, .inl (upd st.2.2.2.2.1 (Int32.toNatClampNeg st.1.2.2.1) (bI p0)))), (bt, .inl (E.2.1 0, 120000, .inl st.2.2.2.2.2)), (s1, .inl (E.2.1 0, 47, .inl (zF 0))), (s2, .inl (E.2.1 0, 47, .inl (zF 1))), (s3, .inl (E.2.1 0, 47, .inl (zF 2)))] Hn := hPn
  have hD : va_D A [(mo, .inr (5, [.ref s1, .ref s2, .ref s3, .int st.1.1, .int (nI nx), .ref mc, .int st.1.2.1, .ref sv, .int st.1.2.2.1, .ref sa, .ref wr, .int st.1.2.2.2.1, .ref bt, .int (bI st.1.2.2.2.2.1), .int st.1.2.2.2.2.2.1, .int st.1.2.2.2.2.2.2.1, .int st.1.2.2.2.2.2.2.2.1, .int st.1.2.2.2.2.2.2.2.2.1, .int st.1.2.2.2.2.2.2.2.2.2.1, .int st.1.2.2.2.2.2.2.2.2.2.2.1, .int st.1.2.2.2.2.2.2.2.2.2.2.2.1, .int st.1.2.2.2.2.2.2.2.2.2.2.2.2.1, .long st.1.2.2.2.2.2.2.2.2.2.2.2.2.2.1, .int st.1.2.2.2.2.2.2.2.2.2.2.2.2.2.2.1, .int st.1.2.2.2.2.2.2.2.2.2.2.2.2.2.2.2.1, .int st.1.2.2.2.2.2.2.2.2.2.2.2.2.2.2.2.2.1, .int (bI st.1.2.2.2.2.2.2.2.2.2.2.2.2.2.2.2.2.2.1), .int st.1.2.2.2.2.2.2.2.2.2.2.2.2.2.2.2.2.2.2.1, .int st.1.2.2.2.2.2.2.2.2.2.2.2.2.2.2.2.2.2.2.2])), (mc, .inl (E.2.1 0, 139264, .inl st.2.1)), (sv, .inl (E.2.1 0, 393216, .inl st.2.2.1)), (sa, .inl (E.2.1 0, 1100, .inl (upd st.2.2.2.1 (Int32.toNatClampNeg st.1.2.2.1) st.1.2.2.2.1))), (wr, .inl (E.2.1 1, 1100, .inl (upd st.2.2.2.2.1 (Int32.toNatClampNeg st.1.2.2.1) (bI p0)))), (bt, .inl (E.2.1 0, 120000, .inl st.2.2.2.2.2)), (s1, .inl (E.2.1 0, 47, .inl (zF 0))), (s2, .inl (E.2.1 0, 47, .inl (zF 1))), (s3, .inl (E.2.1 0, 47, .inl (zF 2)))] := hDn
  have hS := hSn
  clear hPn hDn hSn
  refine lv_aload_n hx hb d_M_beginSegment_23 rfl (lv_at hl 0 rfl) ?_
  refine lv_dup hx hb d_M_beginSegment_24 rfl ?_
  refine va_get (D := E.1) (ci := 5) (v := .int st.1.2.2.1) (C := R_M) (T := T_M) (N := 29) hx hb hts in_M hown hK hP 0 rfl rfl 8 (by decide) (hts _ m_618) (fun _ h9 => h9) rfl d_M_beginSegment_25 ?_
  refine lv_iconst (v := 1) hx hb d_M_beginSegment_28 (by decide) ?_
  refine lv_iadd hx hb d_M_beginSegment_29 ?_
  refine lv_topi (fun x5 ex5 => ?_)
  replace hok := hok x5 ex5
  refine va_put (D := E.1) (ci := 5) (v := .int x5) (ty := .int) (C := R_M) (T := T_M) (N := 29) hx hb hts in_M t_M t_M_ok n_M hown hK hP hD hS 0 rfl rfl 8 (by decide) (hts _ m_618) (fun _ h9 => h9) rfl (by decide +kernel) rfl rfl (Nat.le_of_ble_eq_true rfl) d_M_beginSegment_30 (fun Hn locsn hPn hDn hSn => ?_)
  clear hP hD hS
  have hP : va_P E.1 classes [(mo, .inr (5, [.ref s1, .ref s2, .ref s3, .int st.1.1, .int (nI nx), .ref mc, .int st.1.2.1, .ref sv, .int x5, .ref sa, .ref wr, .int st.1.2.2.2.1, .ref bt, .int (bI st.1.2.2.2.2.1), .int st.1.2.2.2.2.2.1, .int st.1.2.2.2.2.2.2.1, .int st.1.2.2.2.2.2.2.2.1, .int st.1.2.2.2.2.2.2.2.2.1, .int st.1.2.2.2.2.2.2.2.2.2.1, .int st.1.2.2.2.2.2.2.2.2.2.2.1, .int st.1.2.2.2.2.2.2.2.2.2.2.2.1, .int st.1.2.2.2.2.2.2.2.2.2.2.2.2.1, .long st.1.2.2.2.2.2.2.2.2.2.2.2.2.2.1, .int st.1.2.2.2.2.2.2.2.2.2.2.2.2.2.2.1, .int st.1.2.2.2.2.2.2.2.2.2.2.2.2.2.2.2.1, .int st.1.2.2.2.2.2.2.2.2.2.2.2.2.2.2.2.2.1, .int (bI st.1.2.2.2.2.2.2.2.2.2.2.2.2.2.2.2.2.2.1), .int st.1.2.2.2.2.2.2.2.2.2.2.2.2.2.2.2.2.2.2.1, .int st.1.2.2.2.2.2.2.2.2.2.2.2.2.2.2.2.2.2.2.2])), (mc, .inl (E.2.1 0, 139264, .inl st.2.1)), (sv, .inl (E.2.1 0, 393216, .inl st.2.2.1)), (sa, .inl (E.2.1 0, 1100, .inl (upd st.2.2.2.1 (Int32.toNatClampNeg st.1.2.2.1) st.1.2.2.2.1))), (wr, .inl (E.2.1 1, 1100, .inl (upd st.2.2.2.2.1 (Int32.toNatClampNeg st.1.2.2.1) (bI p0)))), (bt, .inl (E.2.1 0, 120000, .inl st.2.2.2.2.2)), (s1, .inl (E.2.1 0, 47, .inl (zF 0))), (s2, .inl (E.2.1 0, 47, .inl (zF 1))), (s3, .inl (E.2.1 0, 47, .inl (zF 2)))] Hn := hPn
  have hD : va_D A [(mo, .inr (5, [.ref s1, .ref s2, .ref s3, .int st.1.1, .int (nI nx), .ref mc, .int st.1.2.1, .ref sv, .int x5, .ref sa, .ref wr, .int st.1.2.2.2.1, .ref bt, .int (bI st.1.2.2.2.2.1), .int st.1.2.2.2.2.2.1, .int st.1.2.2.2.2.2.2.1, .int st.1.2.2.2.2.2.2.2.1, .int st.1.2.2.2.2.2.2.2.2.1, .int st.1.2.2.2.2.2.2.2.2.2.1, .int st.1.2.2.2.2.2.2.2.2.2.2.1, .int st.1.2.2.2.2.2.2.2.2.2.2.2.1, .int st.1.2.2.2.2.2.2.2.2.2.2.2.2.1, .long st.1.2.2.2.2.2.2.2.2.2.2.2.2.2.1, .int st.1.2.2.2.2.2.2.2.2.2.2.2.2.2.2.1, .int st.1.2.2.2.2.2.2.2.2.2.2.2.2.2.2.2.1, .int st.1.2.2.2.2.2.2.2.2.2.2.2.2.2.2.2.2.1, .int (bI st.1.2.2.2.2.2.2.2.2.2.2.2.2.2.2.2.2.2.1), .int st.1.2.2.2.2.2.2.2.2.2.2.2.2.2.2.2.2.2.2.1, .int st.1.2.2.2.2.2.2.2.2.2.2.2.2.2.2.2.2.2.2.2])), (mc, .inl (E.2.1 0, 139264, .inl st.2.1)), (sv, .inl (E.2.1 0, 393216, .inl st.2.2.1)), (sa, .inl (E.2.1 0, 1100, .inl (upd st.2.2.2.1 (Int32.toNatClampNeg st.1.2.2.1) st.1.2.2.2.1))), (wr, .inl (E.2.1 1, 1100, .inl (upd st.2.2.2.2.1 (Int32.toNatClampNeg st.1.2.2.1) (bI p0)))), (bt, .inl (E.2.1 0, 120000, .inl st.2.2.2.2.2)), (s1, .inl (E.2.1 0, 47, .inl (zF 0))), (s2, .inl (E.2.1 0, 47, .inl (zF 1))), (s3, .inl (E.2.1 0, 47, .inl (zF 2)))] := hDn
  have hS := hSn
  clear hPn hDn hSn
  refine lv_aload_n hx hb d_M_beginSegment_33 rfl (lv_at hl 0 rfl) ?_
  refine va_get (D := E.1) (ci := 5) (v := .ref sa) (C := R_M) (T := T_M) (N := 29) hx hb hts in_M hown hK hP 0 rfl rfl 9 (by decide) (hts _ m_619) (fun _ h9 => h9) rfl d_M_beginSegment_34 ?_
  refine lv_aload_n hx hb d_M_beginSegment_37 rfl (lv_at hl 0 rfl) ?_
  refine va_get (D := E.1) (ci := 5) (v := .int x5) (C := R_M) (T := T_M) (N := 29) hx hb hts in_M hown hK hP 0 rfl rfl 8 (by decide) (hts _ m_618) (fun _ h9 => h9) rfl d_M_beginSegment_38 ?_
  refine lv_aload_n hx hb d_M_beginSegment_41 rfl (lv_at hl 0 rfl) ?_
  refine va_get (D := E.1) (ci := 5) (v := .int st.1.2.2.2.1) (C := R_M) (T := T_M) (N := 29) hx hb hts in_M hown hK hP 0 rfl rfl 11 (by decide) (hts _ m_621) (fun _ h9 => h9) rfl d_M_beginSegment_42 ?_
  obtain ⟨hk6, hok⟩ := hok
  refine va_iast (D := E.1) (x := st.1.2.2.2.1) hx hb hK hP hD hS 3 0 rfl rfl hk6 d_M_beginSegment_45 (fun Hn locsn hPn hDn hSn => ?_)
  clear hP hD hS
  have hP : va_P E.1 classes [(mo, .inr (5, [.ref s1, .ref s2, .ref s3, .int st.1.1, .int (nI nx), .ref mc, .int st.1.2.1, .ref sv, .int x5, .ref sa, .ref wr, .int st.1.2.2.2.1, .ref bt, .int (bI st.1.2.2.2.2.1), .int st.1.2.2.2.2.2.1, .int st.1.2.2.2.2.2.2.1, .int st.1.2.2.2.2.2.2.2.1, .int st.1.2.2.2.2.2.2.2.2.1, .int st.1.2.2.2.2.2.2.2.2.2.1, .int st.1.2.2.2.2.2.2.2.2.2.2.1, .int st.1.2.2.2.2.2.2.2.2.2.2.2.1, .int st.1.2.2.2.2.2.2.2.2.2.2.2.2.1, .long st.1.2.2.2.2.2.2.2.2.2.2.2.2.2.1, .int st.1.2.2.2.2.2.2.2.2.2.2.2.2.2.2.1, .int st.1.2.2.2.2.2.2.2.2.2.2.2.2.2.2.2.1, .int st.1.2.2.2.2.2.2.2.2.2.2.2.2.2.2.2.2.1, .int (bI st.1.2.2.2.2.2.2.2.2.2.2.2.2.2.2.2.2.2.1), .int st.1.2.2.2.2.2.2.2.2.2.2.2.2.2.2.2.2.2.2.1, .int st.1.2.2.2.2.2.2.2.2.2.2.2.2.2.2.2.2.2.2.2])), (mc, .inl (E.2.1 0, 139264, .inl st.2.1)), (sv, .inl (E.2.1 0, 393216, .inl st.2.2.1)), (sa, .inl (E.2.1 0, 1100, .inl (upd (upd st.2.2.2.1 (Int32.toNatClampNeg st.1.2.2.1) st.1.2.2.2.1) (Int32.toNatClampNeg x5) st.1.2.2.2.1))), (wr, .inl (E.2.1 1, 1100, .inl (upd st.2.2.2.2.1 (Int32.toNatClampNeg st.1.2.2.1) (bI p0)))), (bt, .inl (E.2.1 0, 120000, .inl st.2.2.2.2.2)), (s1, .inl (E.2.1 0, 47, .inl (zF 0))), (s2, .inl (E.2.1 0, 47, .inl (zF 1))), (s3, .inl (E.2.1 0, 47, .inl (zF 2)))] Hn := hPn
  have hD : va_D A [(mo, .inr (5, [.ref s1, .ref s2, .ref s3, .int st.1.1, .int (nI nx), .ref mc, .int st.1.2.1, .ref sv, .int x5, .ref sa, .ref wr, .int st.1.2.2.2.1, .ref bt, .int (bI st.1.2.2.2.2.1), .int st.1.2.2.2.2.2.1, .int st.1.2.2.2.2.2.2.1, .int st.1.2.2.2.2.2.2.2.1, .int st.1.2.2.2.2.2.2.2.2.1, .int st.1.2.2.2.2.2.2.2.2.2.1, .int st.1.2.2.2.2.2.2.2.2.2.2.1, .int st.1.2.2.2.2.2.2.2.2.2.2.2.1, .int st.1.2.2.2.2.2.2.2.2.2.2.2.2.1, .long st.1.2.2.2.2.2.2.2.2.2.2.2.2.2.1, .int st.1.2.2.2.2.2.2.2.2.2.2.2.2.2.2.1, .int st.1.2.2.2.2.2.2.2.2.2.2.2.2.2.2.2.1, .int st.1.2.2.2.2.2.2.2.2.2.2.2.2.2.2.2.2.1, .int (bI st.1.2.2.2.2.2.2.2.2.2.2.2.2.2.2.2.2.2.1), .int st.1.2.2.2.2.2.2.2.2.2.2.2.2.2.2.2.2.2.2.1, .int st.1.2.2.2.2.2.2.2.2.2.2.2.2.2.2.2.2.2.2.2])), (mc, .inl (E.2.1 0, 139264, .inl st.2.1)), (sv, .inl (E.2.1 0, 393216, .inl st.2.2.1)), (sa, .inl (E.2.1 0, 1100, .inl (upd (upd st.2.2.2.1 (Int32.toNatClampNeg st.1.2.2.1) st.1.2.2.2.1) (Int32.toNatClampNeg x5) st.1.2.2.2.1))), (wr, .inl (E.2.1 1, 1100, .inl (upd st.2.2.2.2.1 (Int32.toNatClampNeg st.1.2.2.1) (bI p0)))), (bt, .inl (E.2.1 0, 120000, .inl st.2.2.2.2.2)), (s1, .inl (E.2.1 0, 47, .inl (zF 0))), (s2, .inl (E.2.1 0, 47, .inl (zF 1))), (s3, .inl (E.2.1 0, 47, .inl (zF 2)))] := hDn
  have hS := hSn
  clear hPn hDn hSn
  refine lv_aload_n hx hb d_M_beginSegment_46 rfl (lv_at hl 0 rfl) ?_
  refine lv_ldc (v := 32768) hx hb hown (hts _ m_609) d_M_beginSegment_47 ?_
  refine va_put (D := E.1) (ci := 5) (v := .int 32768) (ty := .int) (C := R_M) (T := T_M) (N := 29) hx hb hts in_M t_M t_M_ok n_M hown hK hP hD hS 0 rfl rfl 14 (by decide) (hts _ m_624) (fun _ h9 => h9) rfl (by decide +kernel) rfl rfl (Nat.le_of_ble_eq_true rfl) d_M_beginSegment_49 (fun Hn locsn hPn hDn hSn => ?_)
  clear hP hD hS
  have hP : va_P E.1 classes [(mo, .inr (5, [.ref s1, .ref s2, .ref s3, .int st.1.1, .int (nI nx), .ref mc, .int st.1.2.1, .ref sv, .int x5, .ref sa, .ref wr, .int st.1.2.2.2.1, .ref bt, .int (bI st.1.2.2.2.2.1), .int 32768, .int st.1.2.2.2.2.2.2.1, .int st.1.2.2.2.2.2.2.2.1, .int st.1.2.2.2.2.2.2.2.2.1, .int st.1.2.2.2.2.2.2.2.2.2.1, .int st.1.2.2.2.2.2.2.2.2.2.2.1, .int st.1.2.2.2.2.2.2.2.2.2.2.2.1, .int st.1.2.2.2.2.2.2.2.2.2.2.2.2.1, .long st.1.2.2.2.2.2.2.2.2.2.2.2.2.2.1, .int st.1.2.2.2.2.2.2.2.2.2.2.2.2.2.2.1, .int st.1.2.2.2.2.2.2.2.2.2.2.2.2.2.2.2.1, .int st.1.2.2.2.2.2.2.2.2.2.2.2.2.2.2.2.2.1, .int (bI st.1.2.2.2.2.2.2.2.2.2.2.2.2.2.2.2.2.2.1), .int st.1.2.2.2.2.2.2.2.2.2.2.2.2.2.2.2.2.2.2.1, .int st.1.2.2.2.2.2.2.2.2.2.2.2.2.2.2.2.2.2.2.2])), (mc, .inl (E.2.1 0, 139264, .inl st.2.1)), (sv, .inl (E.2.1 0, 393216, .inl st.2.2.1)), (sa, .inl (E.2.1 0, 1100, .inl (upd (upd st.2.2.2.1 (Int32.toNatClampNeg st.1.2.2.1) st.1.2.2.2.1) (Int32.toNatClampNeg x5) st.1.2.2.2.1))), (wr, .inl (E.2.1 1, 1100, .inl (upd st.2.2.2.2.1 (Int32.toNatClampNeg st.1.2.2.1) (bI p0)))), (bt, .inl (E.2.1 0, 120000, .inl st.2.2.2.2.2)), (s1, .inl (E.2.1 0, 47, .inl (zF 0))), (s2, .inl (E.2.1 0, 47, .inl (zF 1))), (s3, .inl (E.2.1 0, 47, .inl (zF 2)))] Hn := hPn
  have hD : va_D A [(mo, .inr (5, [.ref s1, .ref s2, .ref s3, .int st.1.1, .int (nI nx), .ref mc, .int st.1.2.1, .ref sv, .int x5, .ref sa, .ref wr, .int st.1.2.2.2.1, .ref bt, .int (bI st.1.2.2.2.2.1), .int 32768, .int st.1.2.2.2.2.2.2.1, .int st.1.2.2.2.2.2.2.2.1, .int st.1.2.2.2.2.2.2.2.2.1, .int st.1.2.2.2.2.2.2.2.2.2.1, .int st.1.2.2.2.2.2.2.2.2.2.2.1, .int st.1.2.2.2.2.2.2.2.2.2.2.2.1, .int st.1.2.2.2.2.2.2.2.2.2.2.2.2.1, .long st.1.2.2.2.2.2.2.2.2.2.2.2.2.2.1, .int st.1.2.2.2.2.2.2.2.2.2.2.2.2.2.2.1, .int st.1.2.2.2.2.2.2.2.2.2.2.2.2.2.2.2.1, .int st.1.2.2.2.2.2.2.2.2.2.2.2.2.2.2.2.2.1, .int (bI st.1.2.2.2.2.2.2.2.2.2.2.2.2.2.2.2.2.2.1), .int st.1.2.2.2.2.2.2.2.2.2.2.2.2.2.2.2.2.2.2.1, .int st.1.2.2.2.2.2.2.2.2.2.2.2.2.2.2.2.2.2.2.2])), (mc, .inl (E.2.1 0, 139264, .inl st.2.1)), (sv, .inl (E.2.1 0, 393216, .inl st.2.2.1)), (sa, .inl (E.2.1 0, 1100, .inl (upd (upd st.2.2.2.1 (Int32.toNatClampNeg st.1.2.2.1) st.1.2.2.2.1) (Int32.toNatClampNeg x5) st.1.2.2.2.1))), (wr, .inl (E.2.1 1, 1100, .inl (upd st.2.2.2.2.1 (Int32.toNatClampNeg st.1.2.2.1) (bI p0)))), (bt, .inl (E.2.1 0, 120000, .inl st.2.2.2.2.2)), (s1, .inl (E.2.1 0, 47, .inl (zF 0))), (s2, .inl (E.2.1 0, 47, .inl (zF 1))), (s3, .inl (E.2.1 0, 47, .inl (zF 2)))] := hDn
  have hS := hSn
  clear hPn hDn hSn
  refine lv_aload_n hx hb d_M_beginSegment_52 rfl (lv_at hl 0 rfl) ?_
  refine lv_iconst (v := 0) hx hb d_M_beginSegment_53 (by decide) ?_
  refine va_put (D := E.1) (ci := 5) (v := .int 0) (ty := .int) (C := R_M) (T := T_M) (N := 29) hx hb hts in_M t_M t_M_ok n_M hown hK hP hD hS 0 rfl rfl 15 (by decide) (hts _ m_625) (fun _ h9 => h9) rfl (by decide +kernel) rfl rfl (Nat.le_of_ble_eq_true rfl) d_M_beginSegment_54 (fun Hn locsn hPn hDn hSn => ?_)
  clear hP hD hS
  have hP : va_P E.1 classes [(mo, .inr (5, [.ref s1, .ref s2, .ref s3, .int st.1.1, .int (nI nx), .ref mc, .int st.1.2.1, .ref sv, .int x5, .ref sa, .ref wr, .int st.1.2.2.2.1, .ref bt, .int (bI st.1.2.2.2.2.1), .int 32768, .int 0, .int st.1.2.2.2.2.2.2.2.1, .int st.1.2.2.2.2.2.2.2.2.1, .int st.1.2.2.2.2.2.2.2.2.2.1, .int st.1.2.2.2.2.2.2.2.2.2.2.1, .int st.1.2.2.2.2.2.2.2.2.2.2.2.1, .int st.1.2.2.2.2.2.2.2.2.2.2.2.2.1, .long st.1.2.2.2.2.2.2.2.2.2.2.2.2.2.1, .int st.1.2.2.2.2.2.2.2.2.2.2.2.2.2.2.1, .int st.1.2.2.2.2.2.2.2.2.2.2.2.2.2.2.2.1, .int st.1.2.2.2.2.2.2.2.2.2.2.2.2.2.2.2.2.1, .int (bI st.1.2.2.2.2.2.2.2.2.2.2.2.2.2.2.2.2.2.1), .int st.1.2.2.2.2.2.2.2.2.2.2.2.2.2.2.2.2.2.2.1, .int st.1.2.2.2.2.2.2.2.2.2.2.2.2.2.2.2.2.2.2.2])), (mc, .inl (E.2.1 0, 139264, .inl st.2.1)), (sv, .inl (E.2.1 0, 393216, .inl st.2.2.1)), (sa, .inl (E.2.1 0, 1100, .inl (upd (upd st.2.2.2.1 (Int32.toNatClampNeg st.1.2.2.1) st.1.2.2.2.1) (Int32.toNatClampNeg x5) st.1.2.2.2.1))), (wr, .inl (E.2.1 1, 1100, .inl (upd st.2.2.2.2.1 (Int32.toNatClampNeg st.1.2.2.1) (bI p0)))), (bt, .inl (E.2.1 0, 120000, .inl st.2.2.2.2.2)), (s1, .inl (E.2.1 0, 47, .inl (zF 0))), (s2, .inl (E.2.1 0, 47, .inl (zF 1))), (s3, .inl (E.2.1 0, 47, .inl (zF 2)))] Hn := hPn
  have hD : va_D A [(mo, .inr (5, [.ref s1, .ref s2, .ref s3, .int st.1.1, .int (nI nx), .ref mc, .int st.1.2.1, .ref sv, .int x5, .ref sa, .ref wr, .int st.1.2.2.2.1, .ref bt, .int (bI st.1.2.2.2.2.1), .int 32768, .int 0, .int st.1.2.2.2.2.2.2.2.1, .int st.1.2.2.2.2.2.2.2.2.1, .int st.1.2.2.2.2.2.2.2.2.2.1, .int st.1.2.2.2.2.2.2.2.2.2.2.1, .int st.1.2.2.2.2.2.2.2.2.2.2.2.1, .int st.1.2.2.2.2.2.2.2.2.2.2.2.2.1, .long st.1.2.2.2.2.2.2.2.2.2.2.2.2.2.1, .int st.1.2.2.2.2.2.2.2.2.2.2.2.2.2.2.1, .int st.1.2.2.2.2.2.2.2.2.2.2.2.2.2.2.2.1, .int st.1.2.2.2.2.2.2.2.2.2.2.2.2.2.2.2.2.1, .int (bI st.1.2.2.2.2.2.2.2.2.2.2.2.2.2.2.2.2.2.1), .int st.1.2.2.2.2.2.2.2.2.2.2.2.2.2.2.2.2.2.2.1, .int st.1.2.2.2.2.2.2.2.2.2.2.2.2.2.2.2.2.2.2.2])), (mc, .inl (E.2.1 0, 139264, .inl st.2.1)), (sv, .inl (E.2.1 0, 393216, .inl st.2.2.1)), (sa, .inl (E.2.1 0, 1100, .inl (upd (upd st.2.2.2.1 (Int32.toNatClampNeg st.1.2.2.1) st.1.2.2.2.1) (Int32.toNatClampNeg x5) st.1.2.2.2.1))), (wr, .inl (E.2.1 1, 1100, .inl (upd st.2.2.2.2.1 (Int32.toNatClampNeg st.1.2.2.1) (bI p0)))), (bt, .inl (E.2.1 0, 120000, .inl st.2.2.2.2.2)), (s1, .inl (E.2.1 0, 47, .inl (zF 0))), (s2, .inl (E.2.1 0, 47, .inl (zF 1))), (s3, .inl (E.2.1 0, 47, .inl (zF 2)))] := hDn
  have hS := hSn
  clear hPn hDn hSn
  refine lv_aload_n hx hb d_M_beginSegment_57 rfl (lv_at hl 0 rfl) ?_
  refine lv_bipush (v := 12) hx hb d_M_beginSegment_58 (by decide) ?_
  refine va_put (D := E.1) (ci := 5) (v := .int 12) (ty := .int) (C := R_M) (T := T_M) (N := 29) hx hb hts in_M t_M t_M_ok n_M hown hK hP hD hS 0 rfl rfl 16 (by decide) (hts _ m_626) (fun _ h9 => h9) rfl (by decide +kernel) rfl rfl (Nat.le_of_ble_eq_true rfl) d_M_beginSegment_60 (fun Hn locsn hPn hDn hSn => ?_)
  clear hP hD hS
  have hP : va_P E.1 classes [(mo, .inr (5, [.ref s1, .ref s2, .ref s3, .int st.1.1, .int (nI nx), .ref mc, .int st.1.2.1, .ref sv, .int x5, .ref sa, .ref wr, .int st.1.2.2.2.1, .ref bt, .int (bI st.1.2.2.2.2.1), .int 32768, .int 0, .int 12, .int st.1.2.2.2.2.2.2.2.2.1, .int st.1.2.2.2.2.2.2.2.2.2.1, .int st.1.2.2.2.2.2.2.2.2.2.2.1, .int st.1.2.2.2.2.2.2.2.2.2.2.2.1, .int st.1.2.2.2.2.2.2.2.2.2.2.2.2.1, .long st.1.2.2.2.2.2.2.2.2.2.2.2.2.2.1, .int st.1.2.2.2.2.2.2.2.2.2.2.2.2.2.2.1, .int st.1.2.2.2.2.2.2.2.2.2.2.2.2.2.2.2.1, .int st.1.2.2.2.2.2.2.2.2.2.2.2.2.2.2.2.2.1, .int (bI st.1.2.2.2.2.2.2.2.2.2.2.2.2.2.2.2.2.2.1), .int st.1.2.2.2.2.2.2.2.2.2.2.2.2.2.2.2.2.2.2.1, .int st.1.2.2.2.2.2.2.2.2.2.2.2.2.2.2.2.2.2.2.2])), (mc, .inl (E.2.1 0, 139264, .inl st.2.1)), (sv, .inl (E.2.1 0, 393216, .inl st.2.2.1)), (sa, .inl (E.2.1 0, 1100, .inl (upd (upd st.2.2.2.1 (Int32.toNatClampNeg st.1.2.2.1) st.1.2.2.2.1) (Int32.toNatClampNeg x5) st.1.2.2.2.1))), (wr, .inl (E.2.1 1, 1100, .inl (upd st.2.2.2.2.1 (Int32.toNatClampNeg st.1.2.2.1) (bI p0)))), (bt, .inl (E.2.1 0, 120000, .inl st.2.2.2.2.2)), (s1, .inl (E.2.1 0, 47, .inl (zF 0))), (s2, .inl (E.2.1 0, 47, .inl (zF 1))), (s3, .inl (E.2.1 0, 47, .inl (zF 2)))] Hn := hPn
  have hD : va_D A [(mo, .inr (5, [.ref s1, .ref s2, .ref s3, .int st.1.1, .int (nI nx), .ref mc, .int st.1.2.1, .ref sv, .int x5, .ref sa, .ref wr, .int st.1.2.2.2.1, .ref bt, .int (bI st.1.2.2.2.2.1), .int 32768, .int 0, .int 12, .int st.1.2.2.2.2.2.2.2.2.1, .int st.1.2.2.2.2.2.2.2.2.2.1, .int st.1.2.2.2.2.2.2.2.2.2.2.1, .int st.1.2.2.2.2.2.2.2.2.2.2.2.1, .int st.1.2.2.2.2.2.2.2.2.2.2.2.2.1, .long st.1.2.2.2.2.2.2.2.2.2.2.2.2.2.1, .int st.1.2.2.2.2.2.2.2.2.2.2.2.2.2.2.1, .int st.1.2.2.2.2.2.2.2.2.2.2.2.2.2.2.2.1, .int st.1.2.2.2.2.2.2.2.2.2.2.2.2.2.2.2.2.1, .int (bI st.1.2.2.2.2.2.2.2.2.2.2.2.2.2.2.2.2.2.1), .int st.1.2.2.2.2.2.2.2.2.2.2.2.2.2.2.2.2.2.2.1, .int st.1.2.2.2.2.2.2.2.2.2.2.2.2.2.2.2.2.2.2.2])), (mc, .inl (E.2.1 0, 139264, .inl st.2.1)), (sv, .inl (E.2.1 0, 393216, .inl st.2.2.1)), (sa, .inl (E.2.1 0, 1100, .inl (upd (upd st.2.2.2.1 (Int32.toNatClampNeg st.1.2.2.1) st.1.2.2.2.1) (Int32.toNatClampNeg x5) st.1.2.2.2.1))), (wr, .inl (E.2.1 1, 1100, .inl (upd st.2.2.2.2.1 (Int32.toNatClampNeg st.1.2.2.1) (bI p0)))), (bt, .inl (E.2.1 0, 120000, .inl st.2.2.2.2.2)), (s1, .inl (E.2.1 0, 47, .inl (zF 0))), (s2, .inl (E.2.1 0, 47, .inl (zF 1))), (s3, .inl (E.2.1 0, 47, .inl (zF 2)))] := hDn
  have hS := hSn
  clear hPn hDn hSn
  refine lv_aload_n hx hb d_M_beginSegment_63 rfl (lv_at hl 0 rfl) ?_
  refine lv_iconst (v := 0) hx hb d_M_beginSegment_64 (by decide) ?_
  refine va_put (D := E.1) (ci := 5) (v := .int 0) (ty := .int) (C := R_M) (T := T_M) (N := 29) hx hb hts in_M t_M t_M_ok n_M hown hK hP hD hS 0 rfl rfl 17 (by decide) (hts _ m_627) (fun _ h9 => h9) rfl (by decide +kernel) rfl rfl (Nat.le_of_ble_eq_true rfl) d_M_beginSegment_65 (fun Hn locsn hPn hDn hSn => ?_)
  clear hP hD hS
  have hP : va_P E.1 classes [(mo, .inr (5, [.ref s1, .ref s2, .ref s3, .int st.1.1, .int (nI nx), .ref mc, .int st.1.2.1, .ref sv, .int x5, .ref sa, .ref wr, .int st.1.2.2.2.1, .ref bt, .int (bI st.1.2.2.2.2.1), .int 32768, .int 0, .int 12, .int 0, .int st.1.2.2.2.2.2.2.2.2.2.1, .int st.1.2.2.2.2.2.2.2.2.2.2.1, .int st.1.2.2.2.2.2.2.2.2.2.2.2.1, .int st.1.2.2.2.2.2.2.2.2.2.2.2.2.1, .long st.1.2.2.2.2.2.2.2.2.2.2.2.2.2.1, .int st.1.2.2.2.2.2.2.2.2.2.2.2.2.2.2.1, .int st.1.2.2.2.2.2.2.2.2.2.2.2.2.2.2.2.1, .int st.1.2.2.2.2.2.2.2.2.2.2.2.2.2.2.2.2.1, .int (bI st.1.2.2.2.2.2.2.2.2.2.2.2.2.2.2.2.2.2.1), .int st.1.2.2.2.2.2.2.2.2.2.2.2.2.2.2.2.2.2.2.1, .int st.1.2.2.2.2.2.2.2.2.2.2.2.2.2.2.2.2.2.2.2])), (mc, .inl (E.2.1 0, 139264, .inl st.2.1)), (sv, .inl (E.2.1 0, 393216, .inl st.2.2.1)), (sa, .inl (E.2.1 0, 1100, .inl (upd (upd st.2.2.2.1 (Int32.toNatClampNeg st.1.2.2.1) st.1.2.2.2.1) (Int32.toNatClampNeg x5) st.1.2.2.2.1))), (wr, .inl (E.2.1 1, 1100, .inl (upd st.2.2.2.2.1 (Int32.toNatClampNeg st.1.2.2.1) (bI p0)))), (bt, .inl (E.2.1 0, 120000, .inl st.2.2.2.2.2)), (s1, .inl (E.2.1 0, 47, .inl (zF 0))), (s2, .inl (E.2.1 0, 47, .inl (zF 1))), (s3, .inl (E.2.1 0, 47, .inl (zF 2)))] Hn := hPn
  have hD : va_D A [(mo, .inr (5, [.ref s1, .ref s2, .ref s3, .int st.1.1, .int (nI nx), .ref mc, .int st.1.2.1, .ref sv, .int x5, .ref sa, .ref wr, .int st.1.2.2.2.1, .ref bt, .int (bI st.1.2.2.2.2.1), .int 32768, .int 0, .int 12, .int 0, .int st.1.2.2.2.2.2.2.2.2.2.1, .int st.1.2.2.2.2.2.2.2.2.2.2.1, .int st.1.2.2.2.2.2.2.2.2.2.2.2.1, .int st.1.2.2.2.2.2.2.2.2.2.2.2.2.1, .long st.1.2.2.2.2.2.2.2.2.2.2.2.2.2.1, .int st.1.2.2.2.2.2.2.2.2.2.2.2.2.2.2.1, .int st.1.2.2.2.2.2.2.2.2.2.2.2.2.2.2.2.1, .int st.1.2.2.2.2.2.2.2.2.2.2.2.2.2.2.2.2.1, .int (bI st.1.2.2.2.2.2.2.2.2.2.2.2.2.2.2.2.2.2.1), .int st.1.2.2.2.2.2.2.2.2.2.2.2.2.2.2.2.2.2.2.1, .int st.1.2.2.2.2.2.2.2.2.2.2.2.2.2.2.2.2.2.2.2])), (mc, .inl (E.2.1 0, 139264, .inl st.2.1)), (sv, .inl (E.2.1 0, 393216, .inl st.2.2.1)), (sa, .inl (E.2.1 0, 1100, .inl (upd (upd st.2.2.2.1 (Int32.toNatClampNeg st.1.2.2.1) st.1.2.2.2.1) (Int32.toNatClampNeg x5) st.1.2.2.2.1))), (wr, .inl (E.2.1 1, 1100, .inl (upd st.2.2.2.2.1 (Int32.toNatClampNeg st.1.2.2.1) (bI p0)))), (bt, .inl (E.2.1 0, 120000, .inl st.2.2.2.2.2)), (s1, .inl (E.2.1 0, 47, .inl (zF 0))), (s2, .inl (E.2.1 0, 47, .inl (zF 1))), (s3, .inl (E.2.1 0, 47, .inl (zF 2)))] := hDn
  have hS := hSn
  clear hPn hDn hSn
  refine lv_aload_n hx hb d_M_beginSegment_68 rfl (lv_at hl 0 rfl) ?_
  refine lv_bipush (v := 8) hx hb d_M_beginSegment_69 (by decide) ?_
  refine va_put (D := E.1) (ci := 5) (v := .int 8) (ty := .int) (C := R_M) (T := T_M) (N := 29) hx hb hts in_M t_M t_M_ok n_M hown hK hP hD hS 0 rfl rfl 18 (by decide) (hts _ m_628) (fun _ h9 => h9) rfl (by decide +kernel) rfl rfl (Nat.le_of_ble_eq_true rfl) d_M_beginSegment_71 (fun Hn locsn hPn hDn hSn => ?_)
  clear hP hD hS
  have hP : va_P E.1 classes [(mo, .inr (5, [.ref s1, .ref s2, .ref s3, .int st.1.1, .int (nI nx), .ref mc, .int st.1.2.1, .ref sv, .int x5, .ref sa, .ref wr, .int st.1.2.2.2.1, .ref bt, .int (bI st.1.2.2.2.2.1), .int 32768, .int 0, .int 12, .int 0, .int 8, .int st.1.2.2.2.2.2.2.2.2.2.2.1, .int st.1.2.2.2.2.2.2.2.2.2.2.2.1, .int st.1.2.2.2.2.2.2.2.2.2.2.2.2.1, .long st.1.2.2.2.2.2.2.2.2.2.2.2.2.2.1, .int st.1.2.2.2.2.2.2.2.2.2.2.2.2.2.2.1, .int st.1.2.2.2.2.2.2.2.2.2.2.2.2.2.2.2.1, .int st.1.2.2.2.2.2.2.2.2.2.2.2.2.2.2.2.2.1, .int (bI st.1.2.2.2.2.2.2.2.2.2.2.2.2.2.2.2.2.2.1), .int st.1.2.2.2.2.2.2.2.2.2.2.2.2.2.2.2.2.2.2.1, .int st.1.2.2.2.2.2.2.2.2.2.2.2.2.2.2.2.2.2.2.2])), (mc, .inl (E.2.1 0, 139264, .inl st.2.1)), (sv, .inl (E.2.1 0, 393216, .inl st.2.2.1)), (sa, .inl (E.2.1 0, 1100, .inl (upd (upd st.2.2.2.1 (Int32.toNatClampNeg st.1.2.2.1) st.1.2.2.2.1) (Int32.toNatClampNeg x5) st.1.2.2.2.1))), (wr, .inl (E.2.1 1, 1100, .inl (upd st.2.2.2.2.1 (Int32.toNatClampNeg st.1.2.2.1) (bI p0)))), (bt, .inl (E.2.1 0, 120000, .inl st.2.2.2.2.2)), (s1, .inl (E.2.1 0, 47, .inl (zF 0))), (s2, .inl (E.2.1 0, 47, .inl (zF 1))), (s3, .inl (E.2.1 0, 47, .inl (zF 2)))] Hn := hPn
  have hD : va_D A [(mo, .inr (5, [.ref s1, .ref s2, .ref s3, .int st.1.1, .int (nI nx), .ref mc, .int st.1.2.1, .ref sv, .int x5, .ref sa, .ref wr, .int st.1.2.2.2.1, .ref bt, .int (bI st.1.2.2.2.2.1), .int 32768, .int 0, .int 12, .int 0, .int 8, .int st.1.2.2.2.2.2.2.2.2.2.2.1, .int st.1.2.2.2.2.2.2.2.2.2.2.2.1, .int st.1.2.2.2.2.2.2.2.2.2.2.2.2.1, .long st.1.2.2.2.2.2.2.2.2.2.2.2.2.2.1, .int st.1.2.2.2.2.2.2.2.2.2.2.2.2.2.2.1, .int st.1.2.2.2.2.2.2.2.2.2.2.2.2.2.2.2.1, .int st.1.2.2.2.2.2.2.2.2.2.2.2.2.2.2.2.2.1, .int (bI st.1.2.2.2.2.2.2.2.2.2.2.2.2.2.2.2.2.2.1), .int st.1.2.2.2.2.2.2.2.2.2.2.2.2.2.2.2.2.2.2.1, .int st.1.2.2.2.2.2.2.2.2.2.2.2.2.2.2.2.2.2.2.2])), (mc, .inl (E.2.1 0, 139264, .inl st.2.1)), (sv, .inl (E.2.1 0, 393216, .inl st.2.2.1)), (sa, .inl (E.2.1 0, 1100, .inl (upd (upd st.2.2.2.1 (Int32.toNatClampNeg st.1.2.2.1) st.1.2.2.2.1) (Int32.toNatClampNeg x5) st.1.2.2.2.1))), (wr, .inl (E.2.1 1, 1100, .inl (upd st.2.2.2.2.1 (Int32.toNatClampNeg st.1.2.2.1) (bI p0)))), (bt, .inl (E.2.1 0, 120000, .inl st.2.2.2.2.2)), (s1, .inl (E.2.1 0, 47, .inl (zF 0))), (s2, .inl (E.2.1 0, 47, .inl (zF 1))), (s3, .inl (E.2.1 0, 47, .inl (zF 2)))] := hDn
  have hS := hSn
  clear hPn hDn hSn
  exact ar_vret hx hb hr hlocks hK hS ((st.1.1, st.1.2.1, x5, st.1.2.2.2.1, st.1.2.2.2.2.1, 32768, 0, 12, 0, 8, st.1.2.2.2.2.2.2.2.2.2.2.1, st.1.2.2.2.2.2.2.2.2.2.2.2.1, st.1.2.2.2.2.2.2.2.2.2.2.2.2.1, st.1.2.2.2.2.2.2.2.2.2.2.2.2.2.1, st.1.2.2.2.2.2.2.2.2.2.2.2.2.2.2.1, st.1.2.2.2.2.2.2.2.2.2.2.2.2.2.2.2.1, st.1.2.2.2.2.2.2.2.2.2.2.2.2.2.2.2.2.1, st.1.2.2.2.2.2.2.2.2.2.2.2.2.2.2.2.2.2.1, st.1.2.2.2.2.2.2.2.2.2.2.2.2.2.2.2.2.2.2.1, st.1.2.2.2.2.2.2.2.2.2.2.2.2.2.2.2.2.2.2.2), st.2.1, st.2.2.1, (upd (upd st.2.2.2.1 (Int32.toNatClampNeg st.1.2.2.1) st.1.2.2.2.1) (Int32.toNatClampNeg x5) st.1.2.2.2.1), (upd st.2.2.2.2.1 (Int32.toNatClampNeg st.1.2.2.1) (bI p0)), st.2.2.2.2.2) (by subst ex5; exact Eq.symm (Eq.trans (f_M_beginSegment_s nx p0 st) rfl)) hP hD d_M_beginSegment_74

noncomputable def f_M_put (nx : Nat) (p0 : Int32) (st : MS) : MS :=
  let x1 := (irem p0 256)
  let x4 := (st.1.2.2.2.1 + 1)
  ((st.1.1, st.1.2.1, st.1.2.2.1, x4, st.1.2.2.2.2.1, st.1.2.2.2.2.2.1, st.1.2.2.2.2.2.2.1, st.1.2.2.2.2.2.2.2.1, st.1.2.2.2.2.2.2.2.2.1, st.1.2.2.2.2.2.2.2.2.2.1, st.1.2.2.2.2.2.2.2.2.2.2.1, st.1.2.2.2.2.2.2.2.2.2.2.2.1, st.1.2.2.2.2.2.2.2.2.2.2.2.2.1, st.1.2.2.2.2.2.2.2.2.2.2.2.2.2.1, st.1.2.2.2.2.2.2.2.2.2.2.2.2.2.2.1, st.1.2.2.2.2.2.2.2.2.2.2.2.2.2.2.2.1, st.1.2.2.2.2.2.2.2.2.2.2.2.2.2.2.2.2.1, st.1.2.2.2.2.2.2.2.2.2.2.2.2.2.2.2.2.2.1, st.1.2.2.2.2.2.2.2.2.2.2.2.2.2.2.2.2.2.2.1, st.1.2.2.2.2.2.2.2.2.2.2.2.2.2.2.2.2.2.2.2), st.2.1, st.2.2.1, (upd st.2.2.2.1 (Int32.toNatClampNeg st.1.2.2.1) x4), st.2.2.2.2.1, (upd st.2.2.2.2.2 (Int32.toNatClampNeg st.1.2.2.2.1) x1))
theorem f_M_put_s (nx : Nat) (p0 : Int32) (st : MS) : f_M_put nx p0 st = ((
  let x1 := (irem p0 256)
  let x4 := (st.1.2.2.2.1 + 1)
  ((st.1.1, st.1.2.1, st.1.2.2.1, x4, st.1.2.2.2.2.1, st.1.2.2.2.2.2.1, st.1.2.2.2.2.2.2.1, st.1.2.2.2.2.2.2.2.1, st.1.2.2.2.2.2.2.2.2.1, st.1.2.2.2.2.2.2.2.2.2.1, st.1.2.2.2.2.2.2.2.2.2.2.1, st.1.2.2.2.2.2.2.2.2.2.2.2.1, st.1.2.2.2.2.2.2.2.2.2.2.2.2.1, st.1.2.2.2.2.2.2.2.2.2.2.2.2.2.1, st.1.2.2.2.2.2.2.2.2.2.2.2.2.2.2.1, st.1.2.2.2.2.2.2.2.2.2.2.2.2.2.2.2.1, st.1.2.2.2.2.2.2.2.2.2.2.2.2.2.2.2.2.1, st.1.2.2.2.2.2.2.2.2.2.2.2.2.2.2.2.2.2.1, st.1.2.2.2.2.2.2.2.2.2.2.2.2.2.2.2.2.2.2.1, st.1.2.2.2.2.2.2.2.2.2.2.2.2.2.2.2.2.2.2.2), st.2.1, st.2.2.1, (upd st.2.2.2.1 (Int32.toNatClampNeg st.1.2.2.1) x4), st.2.2.2.2.1, (upd st.2.2.2.2.2 (Int32.toNatClampNeg st.1.2.2.2.1) x1))
  : MS)) := rfl
def k_M_put (nx : Nat) (p0 : Int32) (st : MS) : Prop := (∀ x1, x1 = (irem p0 256) → (vp_in st.1.2.2.2.1 120000) ∧ ((∀ x4, x4 = (st.1.2.2.2.1 + 1) → (vp_in st.1.2.2.1 1100) ∧ (True))))
set_option maxHeartbeats 4000000 in
set_option maxRecDepth 100000 in
theorem c_M_put (l : Launch) (E : Ev) (A : Nat → Prop) (mo mc sv sa wr bt s1 s2 s3 nx : Nat) (st : MS) (p0 : Int32)  (hok : k_M_put nx p0 st) :
    Kt l y_M_put b_M_put 2 none 0 0 0 E A [.ref mo, .int p0] [(mo, .inr (5, [.ref s1, .ref s2, .ref s3, .int st.1.1, .int (nI nx), .ref mc, .int st.1.2.1, .ref sv, .int st.1.2.2.1, .ref sa, .ref wr, .int st.1.2.2.2.1, .ref bt, .int (bI st.1.2.2.2.2.1), .int st.1.2.2.2.2.2.1, .int st.1.2.2.2.2.2.2.1, .int st.1.2.2.2.2.2.2.2.1, .int st.1.2.2.2.2.2.2.2.2.1, .int st.1.2.2.2.2.2.2.2.2.2.1, .int st.1.2.2.2.2.2.2.2.2.2.2.1, .int st.1.2.2.2.2.2.2.2.2.2.2.2.1, .int st.1.2.2.2.2.2.2.2.2.2.2.2.2.1, .long st.1.2.2.2.2.2.2.2.2.2.2.2.2.2.1, .int st.1.2.2.2.2.2.2.2.2.2.2.2.2.2.2.1, .int st.1.2.2.2.2.2.2.2.2.2.2.2.2.2.2.2.1, .int st.1.2.2.2.2.2.2.2.2.2.2.2.2.2.2.2.2.1, .int (bI st.1.2.2.2.2.2.2.2.2.2.2.2.2.2.2.2.2.2.1), .int st.1.2.2.2.2.2.2.2.2.2.2.2.2.2.2.2.2.2.2.1, .int st.1.2.2.2.2.2.2.2.2.2.2.2.2.2.2.2.2.2.2.2])), (mc, .inl (E.2.1 0, 139264, .inl st.2.1)), (sv, .inl (E.2.1 0, 393216, .inl st.2.2.1)), (sa, .inl (E.2.1 0, 1100, .inl st.2.2.2.1)), (wr, .inl (E.2.1 1, 1100, .inl st.2.2.2.2.1)), (bt, .inl (E.2.1 0, 120000, .inl st.2.2.2.2.2)), (s1, .inl (E.2.1 0, 47, .inl (zF 0))), (s2, .inl (E.2.1 0, 47, .inl (zF 1))), (s3, .inl (E.2.1 0, 47, .inl (zF 2)))] (va_Qv (fun u : MS => u = f_M_put nx p0 st) (ar_W E A (fun u : MS => [(mo, .inr (5, [.ref s1, .ref s2, .ref s3, .int u.1.1, .int (nI nx), .ref mc, .int u.1.2.1, .ref sv, .int u.1.2.2.1, .ref sa, .ref wr, .int u.1.2.2.2.1, .ref bt, .int (bI u.1.2.2.2.2.1), .int u.1.2.2.2.2.2.1, .int u.1.2.2.2.2.2.2.1, .int u.1.2.2.2.2.2.2.2.1, .int u.1.2.2.2.2.2.2.2.2.1, .int u.1.2.2.2.2.2.2.2.2.2.1, .int u.1.2.2.2.2.2.2.2.2.2.2.1, .int u.1.2.2.2.2.2.2.2.2.2.2.2.1, .int u.1.2.2.2.2.2.2.2.2.2.2.2.2.1, .long u.1.2.2.2.2.2.2.2.2.2.2.2.2.2.1, .int u.1.2.2.2.2.2.2.2.2.2.2.2.2.2.2.1, .int u.1.2.2.2.2.2.2.2.2.2.2.2.2.2.2.2.1, .int u.1.2.2.2.2.2.2.2.2.2.2.2.2.2.2.2.2.1, .int (bI u.1.2.2.2.2.2.2.2.2.2.2.2.2.2.2.2.2.2.1), .int u.1.2.2.2.2.2.2.2.2.2.2.2.2.2.2.2.2.2.2.1, .int u.1.2.2.2.2.2.2.2.2.2.2.2.2.2.2.2.2.2.2.2])), (mc, .inl (E.2.1 0, 139264, .inl u.2.1)), (sv, .inl (E.2.1 0, 393216, .inl u.2.2.1)), (sa, .inl (E.2.1 0, 1100, .inl u.2.2.2.1)), (wr, .inl (E.2.1 1, 1100, .inl u.2.2.2.2.1)), (bt, .inl (E.2.1 0, 120000, .inl u.2.2.2.2.2)), (s1, .inl (E.2.1 0, 47, .inl (zF 0))), (s2, .inl (E.2.1 0, 47, .inl (zF 1))), (s3, .inl (E.2.1 0, 47, .inl (zF 2)))])) A) := by
  unfold k_M_put at hok
  refine Kt.of (by decide) (Nat.le_of_ble_eq_true rfl) ?_
  intro p e s m below meth c ls hx hb hml hown hts hr hlocks hex hin hA hZ hP hK hD hl
  have hS : va_S A s.heap s.heap [] := va_S.rf
  have hl : lv_has ls 2 [(0, .ref mo), (1, .int p0)] := hl
  refine lv_aload_n hx hb d_M_put_0 rfl (lv_at hl 0 rfl) ?_
  refine va_get (D := E.1) (ci := 5) (v := .ref bt) (C := R_M) (T := T_M) (N := 29) hx hb hts in_M hown hK hP 0 rfl rfl 12 (by decide) (hts _ m_622) (fun _ h9 => h9) rfl d_M_put_1 ?_
  refine lv_aload_n hx hb d_M_put_4 rfl (lv_at hl 0 rfl) ?_
  refine va_get (D := E.1) (ci := 5) (v := .int st.1.2.2.2.1) (C := R_M) (T := T_M) (N := 29) hx hb hts in_M hown hK hP 0 rfl rfl 11 (by decide) (hts _ m_621) (fun _ h9 => h9) rfl d_M_put_5 ?_
  refine lv_iload_n hx hb d_M_put_8 rfl (lv_at hl 1 rfl) ?_
  refine lv_sipush (v := 256) hx hb d_M_put_9 (by decide) ?_
  refine ar_irem hx hb d_M_put_12 (by decide) ?_
  refine lv_topi (fun x1 ex1 => ?_)
  replace hok := hok x1 ex1
  obtain ⟨hk2, hok⟩ := hok
  refine va_iast (D := E.1) (x := x1) hx hb hK hP hD hS 5 0 rfl rfl hk2 d_M_put_13 (fun Hn locsn hPn hDn hSn => ?_)
  clear hP hD hS
  have hP : va_P E.1 classes [(mo, .inr (5, [.ref s1, .ref s2, .ref s3, .int st.1.1, .int (nI nx), .ref mc, .int st.1.2.1, .ref sv, .int st.1.2.2.1, .ref sa, .ref wr, .int st.1.2.2.2.1, .ref bt, .int (bI st.1.2.2.2.2.1), .int st.1.2.2.2.2.2.1, .int st.1.2.2.2.2.2.2.1, .int st.1.2.2.2.2.2.2.2.1, .int st.1.2.2.2.2.2.2.2.2.1, .int st.1.2.2.2.2.2.2.2.2.2.1, .int st.1.2.2.2.2.2.2.2.2.2.2.1, .int st.1.2.2.2.2.2.2.2.2.2.2.2.1, .int st.1.2.2.2.2.2.2.2.2.2.2.2.2.1, .long st.1.2.2.2.2.2.2.2.2.2.2.2.2.2.1, .int st.1.2.2.2.2.2.2.2.2.2.2.2.2.2.2.1, .int st.1.2.2.2.2.2.2.2.2.2.2.2.2.2.2.2.1, .int st.1.2.2.2.2.2.2.2.2.2.2.2.2.2.2.2.2.1, .int (bI st.1.2.2.2.2.2.2.2.2.2.2.2.2.2.2.2.2.2.1), .int st.1.2.2.2.2.2.2.2.2.2.2.2.2.2.2.2.2.2.2.1, .int st.1.2.2.2.2.2.2.2.2.2.2.2.2.2.2.2.2.2.2.2])), (mc, .inl (E.2.1 0, 139264, .inl st.2.1)), (sv, .inl (E.2.1 0, 393216, .inl st.2.2.1)), (sa, .inl (E.2.1 0, 1100, .inl st.2.2.2.1)), (wr, .inl (E.2.1 1, 1100, .inl st.2.2.2.2.1)), (bt, .inl (E.2.1 0, 120000, .inl (upd st.2.2.2.2.2 (Int32.toNatClampNeg st.1.2.2.2.1) x1))), (s1, .inl (E.2.1 0, 47, .inl (zF 0))), (s2, .inl (E.2.1 0, 47, .inl (zF 1))), (s3, .inl (E.2.1 0, 47, .inl (zF 2)))] Hn := hPn
  have hD : va_D A [(mo, .inr (5, [.ref s1, .ref s2, .ref s3, .int st.1.1, .int (nI nx), .ref mc, .int st.1.2.1, .ref sv, .int st.1.2.2.1, .ref sa, .ref wr, .int st.1.2.2.2.1, .ref bt, .int (bI st.1.2.2.2.2.1), .int st.1.2.2.2.2.2.1, .int st.1.2.2.2.2.2.2.1, .int st.1.2.2.2.2.2.2.2.1, .int st.1.2.2.2.2.2.2.2.2.1, .int st.1.2.2.2.2.2.2.2.2.2.1, .int st.1.2.2.2.2.2.2.2.2.2.2.1, .int st.1.2.2.2.2.2.2.2.2.2.2.2.1, .int st.1.2.2.2.2.2.2.2.2.2.2.2.2.1, .long st.1.2.2.2.2.2.2.2.2.2.2.2.2.2.1, .int st.1.2.2.2.2.2.2.2.2.2.2.2.2.2.2.1, .int st.1.2.2.2.2.2.2.2.2.2.2.2.2.2.2.2.1, .int st.1.2.2.2.2.2.2.2.2.2.2.2.2.2.2.2.2.1, .int (bI st.1.2.2.2.2.2.2.2.2.2.2.2.2.2.2.2.2.2.1), .int st.1.2.2.2.2.2.2.2.2.2.2.2.2.2.2.2.2.2.2.1, .int st.1.2.2.2.2.2.2.2.2.2.2.2.2.2.2.2.2.2.2.2])), (mc, .inl (E.2.1 0, 139264, .inl st.2.1)), (sv, .inl (E.2.1 0, 393216, .inl st.2.2.1)), (sa, .inl (E.2.1 0, 1100, .inl st.2.2.2.1)), (wr, .inl (E.2.1 1, 1100, .inl st.2.2.2.2.1)), (bt, .inl (E.2.1 0, 120000, .inl (upd st.2.2.2.2.2 (Int32.toNatClampNeg st.1.2.2.2.1) x1))), (s1, .inl (E.2.1 0, 47, .inl (zF 0))), (s2, .inl (E.2.1 0, 47, .inl (zF 1))), (s3, .inl (E.2.1 0, 47, .inl (zF 2)))] := hDn
  have hS := hSn
  clear hPn hDn hSn
  refine lv_aload_n hx hb d_M_put_14 rfl (lv_at hl 0 rfl) ?_
  refine lv_dup hx hb d_M_put_15 rfl ?_
  refine va_get (D := E.1) (ci := 5) (v := .int st.1.2.2.2.1) (C := R_M) (T := T_M) (N := 29) hx hb hts in_M hown hK hP 0 rfl rfl 11 (by decide) (hts _ m_621) (fun _ h9 => h9) rfl d_M_put_16 ?_
  refine lv_iconst (v := 1) hx hb d_M_put_19 (by decide) ?_
  refine lv_iadd hx hb d_M_put_20 ?_
  refine lv_topi (fun x4 ex4 => ?_)
  replace hok := hok x4 ex4
  refine va_put (D := E.1) (ci := 5) (v := .int x4) (ty := .int) (C := R_M) (T := T_M) (N := 29) hx hb hts in_M t_M t_M_ok n_M hown hK hP hD hS 0 rfl rfl 11 (by decide) (hts _ m_621) (fun _ h9 => h9) rfl (by decide +kernel) rfl rfl (Nat.le_of_ble_eq_true rfl) d_M_put_21 (fun Hn locsn hPn hDn hSn => ?_)
  clear hP hD hS
  have hP : va_P E.1 classes [(mo, .inr (5, [.ref s1, .ref s2, .ref s3, .int st.1.1, .int (nI nx), .ref mc, .int st.1.2.1, .ref sv, .int st.1.2.2.1, .ref sa, .ref wr, .int x4, .ref bt, .int (bI st.1.2.2.2.2.1), .int st.1.2.2.2.2.2.1, .int st.1.2.2.2.2.2.2.1, .int st.1.2.2.2.2.2.2.2.1, .int st.1.2.2.2.2.2.2.2.2.1, .int st.1.2.2.2.2.2.2.2.2.2.1, .int st.1.2.2.2.2.2.2.2.2.2.2.1, .int st.1.2.2.2.2.2.2.2.2.2.2.2.1, .int st.1.2.2.2.2.2.2.2.2.2.2.2.2.1, .long st.1.2.2.2.2.2.2.2.2.2.2.2.2.2.1, .int st.1.2.2.2.2.2.2.2.2.2.2.2.2.2.2.1, .int st.1.2.2.2.2.2.2.2.2.2.2.2.2.2.2.2.1, .int st.1.2.2.2.2.2.2.2.2.2.2.2.2.2.2.2.2.1, .int (bI st.1.2.2.2.2.2.2.2.2.2.2.2.2.2.2.2.2.2.1), .int st.1.2.2.2.2.2.2.2.2.2.2.2.2.2.2.2.2.2.2.1, .int st.1.2.2.2.2.2.2.2.2.2.2.2.2.2.2.2.2.2.2.2])), (mc, .inl (E.2.1 0, 139264, .inl st.2.1)), (sv, .inl (E.2.1 0, 393216, .inl st.2.2.1)), (sa, .inl (E.2.1 0, 1100, .inl st.2.2.2.1)), (wr, .inl (E.2.1 1, 1100, .inl st.2.2.2.2.1)), (bt, .inl (E.2.1 0, 120000, .inl (upd st.2.2.2.2.2 (Int32.toNatClampNeg st.1.2.2.2.1) x1))), (s1, .inl (E.2.1 0, 47, .inl (zF 0))), (s2, .inl (E.2.1 0, 47, .inl (zF 1))), (s3, .inl (E.2.1 0, 47, .inl (zF 2)))] Hn := hPn
  have hD : va_D A [(mo, .inr (5, [.ref s1, .ref s2, .ref s3, .int st.1.1, .int (nI nx), .ref mc, .int st.1.2.1, .ref sv, .int st.1.2.2.1, .ref sa, .ref wr, .int x4, .ref bt, .int (bI st.1.2.2.2.2.1), .int st.1.2.2.2.2.2.1, .int st.1.2.2.2.2.2.2.1, .int st.1.2.2.2.2.2.2.2.1, .int st.1.2.2.2.2.2.2.2.2.1, .int st.1.2.2.2.2.2.2.2.2.2.1, .int st.1.2.2.2.2.2.2.2.2.2.2.1, .int st.1.2.2.2.2.2.2.2.2.2.2.2.1, .int st.1.2.2.2.2.2.2.2.2.2.2.2.2.1, .long st.1.2.2.2.2.2.2.2.2.2.2.2.2.2.1, .int st.1.2.2.2.2.2.2.2.2.2.2.2.2.2.2.1, .int st.1.2.2.2.2.2.2.2.2.2.2.2.2.2.2.2.1, .int st.1.2.2.2.2.2.2.2.2.2.2.2.2.2.2.2.2.1, .int (bI st.1.2.2.2.2.2.2.2.2.2.2.2.2.2.2.2.2.2.1), .int st.1.2.2.2.2.2.2.2.2.2.2.2.2.2.2.2.2.2.2.1, .int st.1.2.2.2.2.2.2.2.2.2.2.2.2.2.2.2.2.2.2.2])), (mc, .inl (E.2.1 0, 139264, .inl st.2.1)), (sv, .inl (E.2.1 0, 393216, .inl st.2.2.1)), (sa, .inl (E.2.1 0, 1100, .inl st.2.2.2.1)), (wr, .inl (E.2.1 1, 1100, .inl st.2.2.2.2.1)), (bt, .inl (E.2.1 0, 120000, .inl (upd st.2.2.2.2.2 (Int32.toNatClampNeg st.1.2.2.2.1) x1))), (s1, .inl (E.2.1 0, 47, .inl (zF 0))), (s2, .inl (E.2.1 0, 47, .inl (zF 1))), (s3, .inl (E.2.1 0, 47, .inl (zF 2)))] := hDn
  have hS := hSn
  clear hPn hDn hSn
  refine lv_aload_n hx hb d_M_put_24 rfl (lv_at hl 0 rfl) ?_
  refine va_get (D := E.1) (ci := 5) (v := .ref sa) (C := R_M) (T := T_M) (N := 29) hx hb hts in_M hown hK hP 0 rfl rfl 9 (by decide) (hts _ m_619) (fun _ h9 => h9) rfl d_M_put_25 ?_
  refine lv_aload_n hx hb d_M_put_28 rfl (lv_at hl 0 rfl) ?_
  refine va_get (D := E.1) (ci := 5) (v := .int st.1.2.2.1) (C := R_M) (T := T_M) (N := 29) hx hb hts in_M hown hK hP 0 rfl rfl 8 (by decide) (hts _ m_618) (fun _ h9 => h9) rfl d_M_put_29 ?_
  refine lv_aload_n hx hb d_M_put_32 rfl (lv_at hl 0 rfl) ?_
  refine va_get (D := E.1) (ci := 5) (v := .int x4) (C := R_M) (T := T_M) (N := 29) hx hb hts in_M hown hK hP 0 rfl rfl 11 (by decide) (hts _ m_621) (fun _ h9 => h9) rfl d_M_put_33 ?_
  obtain ⟨hk5, hok⟩ := hok
  refine va_iast (D := E.1) (x := x4) hx hb hK hP hD hS 3 0 rfl rfl hk5 d_M_put_36 (fun Hn locsn hPn hDn hSn => ?_)
  clear hP hD hS
  have hP : va_P E.1 classes [(mo, .inr (5, [.ref s1, .ref s2, .ref s3, .int st.1.1, .int (nI nx), .ref mc, .int st.1.2.1, .ref sv, .int st.1.2.2.1, .ref sa, .ref wr, .int x4, .ref bt, .int (bI st.1.2.2.2.2.1), .int st.1.2.2.2.2.2.1, .int st.1.2.2.2.2.2.2.1, .int st.1.2.2.2.2.2.2.2.1, .int st.1.2.2.2.2.2.2.2.2.1, .int st.1.2.2.2.2.2.2.2.2.2.1, .int st.1.2.2.2.2.2.2.2.2.2.2.1, .int st.1.2.2.2.2.2.2.2.2.2.2.2.1, .int st.1.2.2.2.2.2.2.2.2.2.2.2.2.1, .long st.1.2.2.2.2.2.2.2.2.2.2.2.2.2.1, .int st.1.2.2.2.2.2.2.2.2.2.2.2.2.2.2.1, .int st.1.2.2.2.2.2.2.2.2.2.2.2.2.2.2.2.1, .int st.1.2.2.2.2.2.2.2.2.2.2.2.2.2.2.2.2.1, .int (bI st.1.2.2.2.2.2.2.2.2.2.2.2.2.2.2.2.2.2.1), .int st.1.2.2.2.2.2.2.2.2.2.2.2.2.2.2.2.2.2.2.1, .int st.1.2.2.2.2.2.2.2.2.2.2.2.2.2.2.2.2.2.2.2])), (mc, .inl (E.2.1 0, 139264, .inl st.2.1)), (sv, .inl (E.2.1 0, 393216, .inl st.2.2.1)), (sa, .inl (E.2.1 0, 1100, .inl (upd st.2.2.2.1 (Int32.toNatClampNeg st.1.2.2.1) x4))), (wr, .inl (E.2.1 1, 1100, .inl st.2.2.2.2.1)), (bt, .inl (E.2.1 0, 120000, .inl (upd st.2.2.2.2.2 (Int32.toNatClampNeg st.1.2.2.2.1) x1))), (s1, .inl (E.2.1 0, 47, .inl (zF 0))), (s2, .inl (E.2.1 0, 47, .inl (zF 1))), (s3, .inl (E.2.1 0, 47, .inl (zF 2)))] Hn := hPn
  have hD : va_D A [(mo, .inr (5, [.ref s1, .ref s2, .ref s3, .int st.1.1, .int (nI nx), .ref mc, .int st.1.2.1, .ref sv, .int st.1.2.2.1, .ref sa, .ref wr, .int x4, .ref bt, .int (bI st.1.2.2.2.2.1), .int st.1.2.2.2.2.2.1, .int st.1.2.2.2.2.2.2.1, .int st.1.2.2.2.2.2.2.2.1, .int st.1.2.2.2.2.2.2.2.2.1, .int st.1.2.2.2.2.2.2.2.2.2.1, .int st.1.2.2.2.2.2.2.2.2.2.2.1, .int st.1.2.2.2.2.2.2.2.2.2.2.2.1, .int st.1.2.2.2.2.2.2.2.2.2.2.2.2.1, .long st.1.2.2.2.2.2.2.2.2.2.2.2.2.2.1, .int st.1.2.2.2.2.2.2.2.2.2.2.2.2.2.2.1, .int st.1.2.2.2.2.2.2.2.2.2.2.2.2.2.2.2.1, .int st.1.2.2.2.2.2.2.2.2.2.2.2.2.2.2.2.2.1, .int (bI st.1.2.2.2.2.2.2.2.2.2.2.2.2.2.2.2.2.2.1), .int st.1.2.2.2.2.2.2.2.2.2.2.2.2.2.2.2.2.2.2.1, .int st.1.2.2.2.2.2.2.2.2.2.2.2.2.2.2.2.2.2.2.2])), (mc, .inl (E.2.1 0, 139264, .inl st.2.1)), (sv, .inl (E.2.1 0, 393216, .inl st.2.2.1)), (sa, .inl (E.2.1 0, 1100, .inl (upd st.2.2.2.1 (Int32.toNatClampNeg st.1.2.2.1) x4))), (wr, .inl (E.2.1 1, 1100, .inl st.2.2.2.2.1)), (bt, .inl (E.2.1 0, 120000, .inl (upd st.2.2.2.2.2 (Int32.toNatClampNeg st.1.2.2.2.1) x1))), (s1, .inl (E.2.1 0, 47, .inl (zF 0))), (s2, .inl (E.2.1 0, 47, .inl (zF 1))), (s3, .inl (E.2.1 0, 47, .inl (zF 2)))] := hDn
  have hS := hSn
  clear hPn hDn hSn
  exact ar_vret hx hb hr hlocks hK hS ((st.1.1, st.1.2.1, st.1.2.2.1, x4, st.1.2.2.2.2.1, st.1.2.2.2.2.2.1, st.1.2.2.2.2.2.2.1, st.1.2.2.2.2.2.2.2.1, st.1.2.2.2.2.2.2.2.2.1, st.1.2.2.2.2.2.2.2.2.2.1, st.1.2.2.2.2.2.2.2.2.2.2.1, st.1.2.2.2.2.2.2.2.2.2.2.2.1, st.1.2.2.2.2.2.2.2.2.2.2.2.2.1, st.1.2.2.2.2.2.2.2.2.2.2.2.2.2.1, st.1.2.2.2.2.2.2.2.2.2.2.2.2.2.2.1, st.1.2.2.2.2.2.2.2.2.2.2.2.2.2.2.2.1, st.1.2.2.2.2.2.2.2.2.2.2.2.2.2.2.2.2.1, st.1.2.2.2.2.2.2.2.2.2.2.2.2.2.2.2.2.2.1, st.1.2.2.2.2.2.2.2.2.2.2.2.2.2.2.2.2.2.2.1, st.1.2.2.2.2.2.2.2.2.2.2.2.2.2.2.2.2.2.2.2), st.2.1, st.2.2.1, (upd st.2.2.2.1 (Int32.toNatClampNeg st.1.2.2.1) x4), st.2.2.2.2.1, (upd st.2.2.2.2.2 (Int32.toNatClampNeg st.1.2.2.2.1) x1)) (by subst ex4; subst ex1; exact Eq.symm (Eq.trans (f_M_put_s nx p0 st) rfl)) hP hD d_M_put_37

noncomputable def f_M_isFull (nx : Nat) (st : MS) : Bool :=
  if st.1.2.2.2.1 ≤ (st.2.2.2.1 (Int32.toNatClampNeg (st.1.2.2.1 - 1))) then
    false
  else
    if (st.2.2.2.2.2 (Int32.toNatClampNeg (st.1.2.2.2.1 - 1))) = 255 then
      true
    else
      false
theorem f_M_isFull_s (nx : Nat) (st : MS) : f_M_isFull nx st = ((
  if st.1.2.2.2.1 ≤ (st.2.2.2.1 (Int32.toNatClampNeg (st.1.2.2.1 - 1))) then
    false
  else
    if (st.2.2.2.2.2 (Int32.toNatClampNeg (st.1.2.2.2.1 - 1))) = 255 then
      true
    else
      false
  : Bool)) := rfl
def k_M_isFull (nx : Nat) (st : MS) : Prop := (vp_in (st.1.2.2.1 - 1) 1100) ∧ (((st.1.2.2.2.1 ≤ (st.2.2.2.1 (Int32.toNatClampNeg (st.1.2.2.1 - 1)))) → True) ∧ (¬ (st.1.2.2.2.1 ≤ (st.2.2.2.1 (Int32.toNatClampNeg (st.1.2.2.1 - 1)))) → (vp_in (st.1.2.2.2.1 - 1) 120000) ∧ ((((st.2.2.2.2.2 (Int32.toNatClampNeg (st.1.2.2.2.1 - 1))) = 255) → True) ∧ (¬ ((st.2.2.2.2.2 (Int32.toNatClampNeg (st.1.2.2.2.1 - 1))) = 255) → True))))
set_option maxHeartbeats 4000000 in
set_option maxRecDepth 100000 in
theorem c_M_isFull (l : Launch) (E : Ev) (A : Nat → Prop) (mo mc sv sa wr bt s1 s2 s3 nx : Nat) (st : MS)   (hok : k_M_isFull nx st) :
    Kt l y_M_isFull b_M_isFull 1 (some .boolean) 0 0 0 E A [.ref mo] [(mo, .inr (5, [.ref s1, .ref s2, .ref s3, .int st.1.1, .int (nI nx), .ref mc, .int st.1.2.1, .ref sv, .int st.1.2.2.1, .ref sa, .ref wr, .int st.1.2.2.2.1, .ref bt, .int (bI st.1.2.2.2.2.1), .int st.1.2.2.2.2.2.1, .int st.1.2.2.2.2.2.2.1, .int st.1.2.2.2.2.2.2.2.1, .int st.1.2.2.2.2.2.2.2.2.1, .int st.1.2.2.2.2.2.2.2.2.2.1, .int st.1.2.2.2.2.2.2.2.2.2.2.1, .int st.1.2.2.2.2.2.2.2.2.2.2.2.1, .int st.1.2.2.2.2.2.2.2.2.2.2.2.2.1, .long st.1.2.2.2.2.2.2.2.2.2.2.2.2.2.1, .int st.1.2.2.2.2.2.2.2.2.2.2.2.2.2.2.1, .int st.1.2.2.2.2.2.2.2.2.2.2.2.2.2.2.2.1, .int st.1.2.2.2.2.2.2.2.2.2.2.2.2.2.2.2.2.1, .int (bI st.1.2.2.2.2.2.2.2.2.2.2.2.2.2.2.2.2.2.1), .int st.1.2.2.2.2.2.2.2.2.2.2.2.2.2.2.2.2.2.2.1, .int st.1.2.2.2.2.2.2.2.2.2.2.2.2.2.2.2.2.2.2.2])), (mc, .inl (E.2.1 0, 139264, .inl st.2.1)), (sv, .inl (E.2.1 0, 393216, .inl st.2.2.1)), (sa, .inl (E.2.1 0, 1100, .inl st.2.2.2.1)), (wr, .inl (E.2.1 1, 1100, .inl st.2.2.2.2.1)), (bt, .inl (E.2.1 0, 120000, .inl st.2.2.2.2.2)), (s1, .inl (E.2.1 0, 47, .inl (zF 0))), (s2, .inl (E.2.1 0, 47, .inl (zF 1))), (s3, .inl (E.2.1 0, 47, .inl (zF 2)))] (va_Qi (fun (r : Int32) (_ : Unit) => r = bI (f_M_isFull nx st)) (ar_W E A (fun _ : Unit => [(mo, .inr (5, [.ref s1, .ref s2, .ref s3, .int st.1.1, .int (nI nx), .ref mc, .int st.1.2.1, .ref sv, .int st.1.2.2.1, .ref sa, .ref wr, .int st.1.2.2.2.1, .ref bt, .int (bI st.1.2.2.2.2.1), .int st.1.2.2.2.2.2.1, .int st.1.2.2.2.2.2.2.1, .int st.1.2.2.2.2.2.2.2.1, .int st.1.2.2.2.2.2.2.2.2.1, .int st.1.2.2.2.2.2.2.2.2.2.1, .int st.1.2.2.2.2.2.2.2.2.2.2.1, .int st.1.2.2.2.2.2.2.2.2.2.2.2.1, .int st.1.2.2.2.2.2.2.2.2.2.2.2.2.1, .long st.1.2.2.2.2.2.2.2.2.2.2.2.2.2.1, .int st.1.2.2.2.2.2.2.2.2.2.2.2.2.2.2.1, .int st.1.2.2.2.2.2.2.2.2.2.2.2.2.2.2.2.1, .int st.1.2.2.2.2.2.2.2.2.2.2.2.2.2.2.2.2.1, .int (bI st.1.2.2.2.2.2.2.2.2.2.2.2.2.2.2.2.2.2.1), .int st.1.2.2.2.2.2.2.2.2.2.2.2.2.2.2.2.2.2.2.1, .int st.1.2.2.2.2.2.2.2.2.2.2.2.2.2.2.2.2.2.2.2])), (mc, .inl (E.2.1 0, 139264, .inl st.2.1)), (sv, .inl (E.2.1 0, 393216, .inl st.2.2.1)), (sa, .inl (E.2.1 0, 1100, .inl st.2.2.2.1)), (wr, .inl (E.2.1 1, 1100, .inl st.2.2.2.2.1)), (bt, .inl (E.2.1 0, 120000, .inl st.2.2.2.2.2)), (s1, .inl (E.2.1 0, 47, .inl (zF 0))), (s2, .inl (E.2.1 0, 47, .inl (zF 1))), (s3, .inl (E.2.1 0, 47, .inl (zF 2)))])) A) := by
  unfold k_M_isFull at hok
  refine Kt.of (by decide) (Nat.le_of_ble_eq_true rfl) ?_
  intro p e s m below meth c ls hx hb hml hown hts hr hlocks hex hin hA hZ hP hK hD hl
  have hS : va_S A s.heap s.heap [] := va_S.rf
  have hl : lv_has ls 1 [(0, .ref mo)] := hl
  refine lv_aload_n hx hb d_M_isFull_0 rfl (lv_at hl 0 rfl) ?_
  refine va_get (D := E.1) (ci := 5) (v := .int st.1.2.2.2.1) (C := R_M) (T := T_M) (N := 29) hx hb hts in_M hown hK hP 0 rfl rfl 11 (by decide) (hts _ m_621) (fun _ h9 => h9) rfl d_M_isFull_1 ?_
  refine lv_aload_n hx hb d_M_isFull_4 rfl (lv_at hl 0 rfl) ?_
  refine va_get (D := E.1) (ci := 5) (v := .ref sa) (C := R_M) (T := T_M) (N := 29) hx hb hts in_M hown hK hP 0 rfl rfl 9 (by decide) (hts _ m_619) (fun _ h9 => h9) rfl d_M_isFull_5 ?_
  refine lv_aload_n hx hb d_M_isFull_8 rfl (lv_at hl 0 rfl) ?_
  refine va_get (D := E.1) (ci := 5) (v := .int st.1.2.2.1) (C := R_M) (T := T_M) (N := 29) hx hb hts in_M hown hK hP 0 rfl rfl 8 (by decide) (hts _ m_618) (fun _ h9 => h9) rfl d_M_isFull_9 ?_
  refine lv_iconst (v := 1) hx hb d_M_isFull_12 (by decide) ?_
  refine lv_isub hx hb d_M_isFull_13 ?_
  obtain ⟨hk1, hok⟩ := hok
  refine va_iald (D := E.1) hx hb hK hP 3 0 rfl rfl hk1 d_M_isFull_14 ?_
  refine lv_icmp_le (tgt := 39) hx hb d_M_isFull_15 (by decide) (fun c2 => ?_) (fun c2 => ?_)
  · replace hok := hok.1 c2
    refine lv_iconst (v := 0) hx hb d_M_isFull_39 (by decide) ?_
    exact ar_zret hx hb hr hlocks hK hS () (by exact zr_of (b := false) (Eq.trans (f_M_isFull_s nx st) (Eq.trans (if_pos c2) rfl)) rfl) hP hD rfl d_M_isFull_40
  · replace hok := hok.2 c2
    refine lv_aload_n hx hb d_M_isFull_18 rfl (lv_at hl 0 rfl) ?_
    refine va_get (D := E.1) (ci := 5) (v := .ref bt) (C := R_M) (T := T_M) (N := 29) hx hb hts in_M hown hK hP 0 rfl rfl 12 (by decide) (hts _ m_622) (fun _ h9 => h9) rfl d_M_isFull_19 ?_
    refine lv_aload_n hx hb d_M_isFull_22 rfl (lv_at hl 0 rfl) ?_
    refine va_get (D := E.1) (ci := 5) (v := .int st.1.2.2.2.1) (C := R_M) (T := T_M) (N := 29) hx hb hts in_M hown hK hP 0 rfl rfl 11 (by decide) (hts _ m_621) (fun _ h9 => h9) rfl d_M_isFull_23 ?_
    refine lv_iconst (v := 1) hx hb d_M_isFull_26 (by decide) ?_
    refine lv_isub hx hb d_M_isFull_27 ?_
    obtain ⟨hk3, hok⟩ := hok
    refine va_iald (D := E.1) hx hb hK hP 5 0 rfl rfl hk3 d_M_isFull_28 ?_
    refine lv_sipush (v := 255) hx hb d_M_isFull_29 (by decide) ?_
    refine lv_icmp_ne (tgt := 39) hx hb d_M_isFull_32 (by decide) (fun c4 => ?_) (fun c4 => ?_)
    · replace hok := hok.2 c4
      refine lv_iconst (v := 0) hx hb d_M_isFull_39 (by decide) ?_
      exact ar_zret hx hb hr hlocks hK hS () (by exact zr_of (b := false) (Eq.trans (f_M_isFull_s nx st) (Eq.trans (if_neg c2) (Eq.trans (if_neg c4) rfl))) rfl) hP hD rfl d_M_isFull_40
    · replace hok := hok.1 c4
      refine lv_iconst (v := 1) hx hb d_M_isFull_35 (by decide) ?_
      refine lv_goto (tgt := 40) hx hb d_M_isFull_36 (by decide) ?_
      exact ar_zret hx hb hr hlocks hK hS () (by exact zr_of (b := true) (Eq.trans (f_M_isFull_s nx st) (Eq.trans (if_neg c2) (Eq.trans (if_pos c4) rfl))) rfl) hP hD rfl d_M_isFull_40

noncomputable def f_M_putOut (nx : Nat) (st : MS) : MS :=
  let b2 := f_M_isFull nx  st
  if bI b2 = 0 then
    if (st.1.2.2.2.2.2.2.1 / 134217728) ≤ 0 then
      let u13 := f_M_put nx (st.1.2.2.2.2.2.2.1 / 524288) st
      let x14 := (irem u13.1.2.2.2.2.2.2.1 524288)
      ((u13.1.1, u13.1.2.1, u13.1.2.2.1, u13.1.2.2.2.1, u13.1.2.2.2.2.1, u13.1.2.2.2.2.2.1, x14, 8, u13.1.2.2.2.2.2.2.2.2.1, u13.1.2.2.2.2.2.2.2.2.2.1, u13.1.2.2.2.2.2.2.2.2.2.2.1, u13.1.2.2.2.2.2.2.2.2.2.2.2.1, u13.1.2.2.2.2.2.2.2.2.2.2.2.2.1, u13.1.2.2.2.2.2.2.2.2.2.2.2.2.2.1, u13.1.2.2.2.2.2.2.2.2.2.2.2.2.2.2.1, u13.1.2.2.2.2.2.2.2.2.2.2.2.2.2.2.2.1, u13.1.2.2.2.2.2.2.2.2.2.2.2.2.2.2.2.2.1, u13.1.2.2.2.2.2.2.2.2.2.2.2.2.2.2.2.2.2.1, u13.1.2.2.2.2.2.2.2.2.2.2.2.2.2.2.2.2.2.2.1, u13.1.2.2.2.2.2.2.2.2.2.2.2.2.2.2.2.2.2.2.2), u13.2.1, u13.2.2.1, u13.2.2.2.1, u13.2.2.2.2.1, u13.2.2.2.2.2)
    else
      let x16 := ((st.2.2.2.2.2 (Int32.toNatClampNeg (st.1.2.2.2.1 - 1))) + 1)
      let b20 := f_M_isFull nx  (st.1, st.2.1, st.2.2.1, st.2.2.2.1, st.2.2.2.2.1, (upd st.2.2.2.2.2 (Int32.toNatClampNeg (st.1.2.2.2.1 - 1)) x16))
      if bI b20 = 0 then
        let u25 := f_M_put nx (st.1.2.2.2.2.2.2.1 / 524288) (st.1, st.2.1, st.2.2.1, st.2.2.2.1, st.2.2.2.2.1, (upd st.2.2.2.2.2 (Int32.toNatClampNeg (st.1.2.2.2.1 - 1)) x16))
        let x26 := (irem u25.1.2.2.2.2.2.2.1 524288)
        ((u25.1.1, u25.1.2.1, u25.1.2.2.1, u25.1.2.2.2.1, u25.1.2.2.2.2.1, u25.1.2.2.2.2.2.1, x26, 8, u25.1.2.2.2.2.2.2.2.2.1, u25.1.2.2.2.2.2.2.2.2.2.1, u25.1.2.2.2.2.2.2.2.2.2.2.1, u25.1.2.2.2.2.2.2.2.2.2.2.2.1, u25.1.2.2.2.2.2.2.2.2.2.2.2.2.1, u25.1.2.2.2.2.2.2.2.2.2.2.2.2.2.1, u25.1.2.2.2.2.2.2.2.2.2.2.2.2.2.2.1, u25.1.2.2.2.2.2.2.2.2.2.2.2.2.2.2.2.1, u25.1.2.2.2.2.2.2.2.2.2.2.2.2.2.2.2.2.1, u25.1.2.2.2.2.2.2.2.2.2.2.2.2.2.2.2.2.2.1, u25.1.2.2.2.2.2.2.2.2.2.2.2.2.2.2.2.2.2.2.1, u25.1.2.2.2.2.2.2.2.2.2.2.2.2.2.2.2.2.2.2.2), u25.2.1, u25.2.2.1, u25.2.2.2.1, u25.2.2.2.2.1, u25.2.2.2.2.2)
      else
        let x27 := (irem st.1.2.2.2.2.2.2.1 134217728)
        let b29 := f_M_isFull nx  ((st.1.1, st.1.2.1, st.1.2.2.1, st.1.2.2.2.1, st.1.2.2.2.2.1, st.1.2.2.2.2.2.1, x27, st.1.2.2.2.2.2.2.2.1, st.1.2.2.2.2.2.2.2.2.1, st.1.2.2.2.2.2.2.2.2.2.1, st.1.2.2.2.2.2.2.2.2.2.2.1, st.1.2.2.2.2.2.2.2.2.2.2.2.1, st.1.2.2.2.2.2.2.2.2.2.2.2.2.1, st.1.2.2.2.2.2.2.2.2.2.2.2.2.2.1, st.1.2.2.2.2.2.2.2.2.2.2.2.2.2.2.1, st.1.2.2.2.2.2.2.2.2.2.2.2.2.2.2.2.1, st.1.2.2.2.2.2.2.2.2.2.2.2.2.2.2.2.2.1, st.1.2.2.2.2.2.2.2.2.2.2.2.2.2.2.2.2.2.1, st.1.2.2.2.2.2.2.2.2.2.2.2.2.2.2.2.2.2.2.1, st.1.2.2.2.2.2.2.2.2.2.2.2.2.2.2.2.2.2.2.2), st.2.1, st.2.2.1, st.2.2.2.1, st.2.2.2.2.1, (upd st.2.2.2.2.2 (Int32.toNatClampNeg (st.1.2.2.2.1 - 1)) x16))
        if bI b29 = 0 then
          let u32 := f_M_put nx (x27 / 524288) ((st.1.1, st.1.2.1, st.1.2.2.1, st.1.2.2.2.1, st.1.2.2.2.2.1, st.1.2.2.2.2.2.1, x27, st.1.2.2.2.2.2.2.2.1, st.1.2.2.2.2.2.2.2.2.1, st.1.2.2.2.2.2.2.2.2.2.1, st.1.2.2.2.2.2.2.2.2.2.2.1, st.1.2.2.2.2.2.2.2.2.2.2.2.1, st.1.2.2.2.2.2.2.2.2.2.2.2.2.1, st.1.2.2.2.2.2.2.2.2.2.2.2.2.2.1, st.1.2.2.2.2.2.2.2.2.2.2.2.2.2.2.1, st.1.2.2.2.2.2.2.2.2.2.2.2.2.2.2.2.1, st.1.2.2.2.2.2.2.2.2.2.2.2.2.2.2.2.2.1, st.1.2.2.2.2.2.2.2.2.2.2.2.2.2.2.2.2.2.1, st.1.2.2.2.2.2.2.2.2.2.2.2.2.2.2.2.2.2.2.1, st.1.2.2.2.2.2.2.2.2.2.2.2.2.2.2.2.2.2.2.2), st.2.1, st.2.2.1, st.2.2.2.1, st.2.2.2.2.1, (upd st.2.2.2.2.2 (Int32.toNatClampNeg (st.1.2.2.2.1 - 1)) x16))
          let x33 := (irem u32.1.2.2.2.2.2.2.1 524288)
          ((u32.1.1, u32.1.2.1, u32.1.2.2.1, u32.1.2.2.2.1, u32.1.2.2.2.2.1, u32.1.2.2.2.2.2.1, x33, 8, u32.1.2.2.2.2.2.2.2.2.1, u32.1.2.2.2.2.2.2.2.2.2.1, u32.1.2.2.2.2.2.2.2.2.2.2.1, u32.1.2.2.2.2.2.2.2.2.2.2.2.1, u32.1.2.2.2.2.2.2.2.2.2.2.2.2.1, u32.1.2.2.2.2.2.2.2.2.2.2.2.2.2.1, u32.1.2.2.2.2.2.2.2.2.2.2.2.2.2.2.1, u32.1.2.2.2.2.2.2.2.2.2.2.2.2.2.2.2.1, u32.1.2.2.2.2.2.2.2.2.2.2.2.2.2.2.2.2.1, u32.1.2.2.2.2.2.2.2.2.2.2.2.2.2.2.2.2.2.1, u32.1.2.2.2.2.2.2.2.2.2.2.2.2.2.2.2.2.2.2.1, u32.1.2.2.2.2.2.2.2.2.2.2.2.2.2.2.2.2.2.2.2), u32.2.1, u32.2.2.1, u32.2.2.2.1, u32.2.2.2.2.1, u32.2.2.2.2.2)
        else
          let u35 := f_M_put nx (x27 / 1048576) ((st.1.1, st.1.2.1, st.1.2.2.1, st.1.2.2.2.1, st.1.2.2.2.2.1, st.1.2.2.2.2.2.1, x27, st.1.2.2.2.2.2.2.2.1, st.1.2.2.2.2.2.2.2.2.1, st.1.2.2.2.2.2.2.2.2.2.1, st.1.2.2.2.2.2.2.2.2.2.2.1, st.1.2.2.2.2.2.2.2.2.2.2.2.1, st.1.2.2.2.2.2.2.2.2.2.2.2.2.1, st.1.2.2.2.2.2.2.2.2.2.2.2.2.2.1, st.1.2.2.2.2.2.2.2.2.2.2.2.2.2.2.1, st.1.2.2.2.2.2.2.2.2.2.2.2.2.2.2.2.1, st.1.2.2.2.2.2.2.2.2.2.2.2.2.2.2.2.2.1, st.1.2.2.2.2.2.2.2.2.2.2.2.2.2.2.2.2.2.1, st.1.2.2.2.2.2.2.2.2.2.2.2.2.2.2.2.2.2.2.1, st.1.2.2.2.2.2.2.2.2.2.2.2.2.2.2.2.2.2.2.2), st.2.1, st.2.2.1, st.2.2.2.1, st.2.2.2.2.1, (upd st.2.2.2.2.2 (Int32.toNatClampNeg (st.1.2.2.2.1 - 1)) x16))
          let x36 := (irem u35.1.2.2.2.2.2.2.1 1048576)
          ((u35.1.1, u35.1.2.1, u35.1.2.2.1, u35.1.2.2.2.1, u35.1.2.2.2.2.1, u35.1.2.2.2.2.2.1, x36, 7, u35.1.2.2.2.2.2.2.2.2.1, u35.1.2.2.2.2.2.2.2.2.2.1, u35.1.2.2.2.2.2.2.2.2.2.2.1, u35.1.2.2.2.2.2.2.2.2.2.2.2.1, u35.1.2.2.2.2.2.2.2.2.2.2.2.2.1, u35.1.2.2.2.2.2.2.2.2.2.2.2.2.2.1, u35.1.2.2.2.2.2.2.2.2.2.2.2.2.2.2.1, u35.1.2.2.2.2.2.2.2.2.2.2.2.2.2.2.2.1, u35.1.2.2.2.2.2.2.2.2.2.2.2.2.2.2.2.2.1, u35.1.2.2.2.2.2.2.2.2.2.2.2.2.2.2.2.2.2.1, u35.1.2.2.2.2.2.2.2.2.2.2.2.2.2.2.2.2.2.2.1, u35.1.2.2.2.2.2.2.2.2.2.2.2.2.2.2.2.2.2.2.2), u35.2.1, u35.2.2.1, u35.2.2.2.1, u35.2.2.2.2.1, u35.2.2.2.2.2)
  else
    let u7 := f_M_put nx (st.1.2.2.2.2.2.2.1 / 1048576) st
    let x8 := (irem u7.1.2.2.2.2.2.2.1 1048576)
    ((u7.1.1, u7.1.2.1, u7.1.2.2.1, u7.1.2.2.2.1, u7.1.2.2.2.2.1, u7.1.2.2.2.2.2.1, x8, 7, u7.1.2.2.2.2.2.2.2.2.1, u7.1.2.2.2.2.2.2.2.2.2.1, u7.1.2.2.2.2.2.2.2.2.2.2.1, u7.1.2.2.2.2.2.2.2.2.2.2.2.1, u7.1.2.2.2.2.2.2.2.2.2.2.2.2.1, u7.1.2.2.2.2.2.2.2.2.2.2.2.2.2.1, u7.1.2.2.2.2.2.2.2.2.2.2.2.2.2.2.1, u7.1.2.2.2.2.2.2.2.2.2.2.2.2.2.2.2.1, u7.1.2.2.2.2.2.2.2.2.2.2.2.2.2.2.2.2.1, u7.1.2.2.2.2.2.2.2.2.2.2.2.2.2.2.2.2.2.1, u7.1.2.2.2.2.2.2.2.2.2.2.2.2.2.2.2.2.2.2.1, u7.1.2.2.2.2.2.2.2.2.2.2.2.2.2.2.2.2.2.2.2), u7.2.1, u7.2.2.1, u7.2.2.2.1, u7.2.2.2.2.1, u7.2.2.2.2.2)
theorem f_M_putOut_s (nx : Nat) (st : MS) : f_M_putOut nx st = ((
  let b2 := f_M_isFull nx  st
  if bI b2 = 0 then
    if (st.1.2.2.2.2.2.2.1 / 134217728) ≤ 0 then
      let u13 := f_M_put nx (st.1.2.2.2.2.2.2.1 / 524288) st
      let x14 := (irem u13.1.2.2.2.2.2.2.1 524288)
      ((u13.1.1, u13.1.2.1, u13.1.2.2.1, u13.1.2.2.2.1, u13.1.2.2.2.2.1, u13.1.2.2.2.2.2.1, x14, 8, u13.1.2.2.2.2.2.2.2.2.1, u13.1.2.2.2.2.2.2.2.2.2.1, u13.1.2.2.2.2.2.2.2.2.2.2.1, u13.1.2.2.2.2.2.2.2.2.2.2.2.1, u13.1.2.2.2.2.2.2.2.2.2.2.2.2.1, u13.1.2.2.2.2.2.2.2.2.2.2.2.2.2.1, u13.1.2.2.2.2.2.2.2.2.2.2.2.2.2.2.1, u13.1.2.2.2.2.2.2.2.2.2.2.2.2.2.2.2.1, u13.1.2.2.2.2.2.2.2.2.2.2.2.2.2.2.2.2.1, u13.1.2.2.2.2.2.2.2.2.2.2.2.2.2.2.2.2.2.1, u13.1.2.2.2.2.2.2.2.2.2.2.2.2.2.2.2.2.2.2.1, u13.1.2.2.2.2.2.2.2.2.2.2.2.2.2.2.2.2.2.2.2), u13.2.1, u13.2.2.1, u13.2.2.2.1, u13.2.2.2.2.1, u13.2.2.2.2.2)
    else
      let x16 := ((st.2.2.2.2.2 (Int32.toNatClampNeg (st.1.2.2.2.1 - 1))) + 1)
      let b20 := f_M_isFull nx  (st.1, st.2.1, st.2.2.1, st.2.2.2.1, st.2.2.2.2.1, (upd st.2.2.2.2.2 (Int32.toNatClampNeg (st.1.2.2.2.1 - 1)) x16))
      if bI b20 = 0 then
        let u25 := f_M_put nx (st.1.2.2.2.2.2.2.1 / 524288) (st.1, st.2.1, st.2.2.1, st.2.2.2.1, st.2.2.2.2.1, (upd st.2.2.2.2.2 (Int32.toNatClampNeg (st.1.2.2.2.1 - 1)) x16))
        let x26 := (irem u25.1.2.2.2.2.2.2.1 524288)
        ((u25.1.1, u25.1.2.1, u25.1.2.2.1, u25.1.2.2.2.1, u25.1.2.2.2.2.1, u25.1.2.2.2.2.2.1, x26, 8, u25.1.2.2.2.2.2.2.2.2.1, u25.1.2.2.2.2.2.2.2.2.2.1, u25.1.2.2.2.2.2.2.2.2.2.2.1, u25.1.2.2.2.2.2.2.2.2.2.2.2.1, u25.1.2.2.2.2.2.2.2.2.2.2.2.2.1, u25.1.2.2.2.2.2.2.2.2.2.2.2.2.2.1, u25.1.2.2.2.2.2.2.2.2.2.2.2.2.2.2.1, u25.1.2.2.2.2.2.2.2.2.2.2.2.2.2.2.2.1, u25.1.2.2.2.2.2.2.2.2.2.2.2.2.2.2.2.2.1, u25.1.2.2.2.2.2.2.2.2.2.2.2.2.2.2.2.2.2.1, u25.1.2.2.2.2.2.2.2.2.2.2.2.2.2.2.2.2.2.2.1, u25.1.2.2.2.2.2.2.2.2.2.2.2.2.2.2.2.2.2.2.2), u25.2.1, u25.2.2.1, u25.2.2.2.1, u25.2.2.2.2.1, u25.2.2.2.2.2)
      else
        let x27 := (irem st.1.2.2.2.2.2.2.1 134217728)
        let b29 := f_M_isFull nx  ((st.1.1, st.1.2.1, st.1.2.2.1, st.1.2.2.2.1, st.1.2.2.2.2.1, st.1.2.2.2.2.2.1, x27, st.1.2.2.2.2.2.2.2.1, st.1.2.2.2.2.2.2.2.2.1, st.1.2.2.2.2.2.2.2.2.2.1, st.1.2.2.2.2.2.2.2.2.2.2.1, st.1.2.2.2.2.2.2.2.2.2.2.2.1, st.1.2.2.2.2.2.2.2.2.2.2.2.2.1, st.1.2.2.2.2.2.2.2.2.2.2.2.2.2.1, st.1.2.2.2.2.2.2.2.2.2.2.2.2.2.2.1, st.1.2.2.2.2.2.2.2.2.2.2.2.2.2.2.2.1, st.1.2.2.2.2.2.2.2.2.2.2.2.2.2.2.2.2.1, st.1.2.2.2.2.2.2.2.2.2.2.2.2.2.2.2.2.2.1, st.1.2.2.2.2.2.2.2.2.2.2.2.2.2.2.2.2.2.2.1, st.1.2.2.2.2.2.2.2.2.2.2.2.2.2.2.2.2.2.2.2), st.2.1, st.2.2.1, st.2.2.2.1, st.2.2.2.2.1, (upd st.2.2.2.2.2 (Int32.toNatClampNeg (st.1.2.2.2.1 - 1)) x16))
        if bI b29 = 0 then
          let u32 := f_M_put nx (x27 / 524288) ((st.1.1, st.1.2.1, st.1.2.2.1, st.1.2.2.2.1, st.1.2.2.2.2.1, st.1.2.2.2.2.2.1, x27, st.1.2.2.2.2.2.2.2.1, st.1.2.2.2.2.2.2.2.2.1, st.1.2.2.2.2.2.2.2.2.2.1, st.1.2.2.2.2.2.2.2.2.2.2.1, st.1.2.2.2.2.2.2.2.2.2.2.2.1, st.1.2.2.2.2.2.2.2.2.2.2.2.2.1, st.1.2.2.2.2.2.2.2.2.2.2.2.2.2.1, st.1.2.2.2.2.2.2.2.2.2.2.2.2.2.2.1, st.1.2.2.2.2.2.2.2.2.2.2.2.2.2.2.2.1, st.1.2.2.2.2.2.2.2.2.2.2.2.2.2.2.2.2.1, st.1.2.2.2.2.2.2.2.2.2.2.2.2.2.2.2.2.2.1, st.1.2.2.2.2.2.2.2.2.2.2.2.2.2.2.2.2.2.2.1, st.1.2.2.2.2.2.2.2.2.2.2.2.2.2.2.2.2.2.2.2), st.2.1, st.2.2.1, st.2.2.2.1, st.2.2.2.2.1, (upd st.2.2.2.2.2 (Int32.toNatClampNeg (st.1.2.2.2.1 - 1)) x16))
          let x33 := (irem u32.1.2.2.2.2.2.2.1 524288)
          ((u32.1.1, u32.1.2.1, u32.1.2.2.1, u32.1.2.2.2.1, u32.1.2.2.2.2.1, u32.1.2.2.2.2.2.1, x33, 8, u32.1.2.2.2.2.2.2.2.2.1, u32.1.2.2.2.2.2.2.2.2.2.1, u32.1.2.2.2.2.2.2.2.2.2.2.1, u32.1.2.2.2.2.2.2.2.2.2.2.2.1, u32.1.2.2.2.2.2.2.2.2.2.2.2.2.1, u32.1.2.2.2.2.2.2.2.2.2.2.2.2.2.1, u32.1.2.2.2.2.2.2.2.2.2.2.2.2.2.2.1, u32.1.2.2.2.2.2.2.2.2.2.2.2.2.2.2.2.1, u32.1.2.2.2.2.2.2.2.2.2.2.2.2.2.2.2.2.1, u32.1.2.2.2.2.2.2.2.2.2.2.2.2.2.2.2.2.2.1, u32.1.2.2.2.2.2.2.2.2.2.2.2.2.2.2.2.2.2.2.1, u32.1.2.2.2.2.2.2.2.2.2.2.2.2.2.2.2.2.2.2.2), u32.2.1, u32.2.2.1, u32.2.2.2.1, u32.2.2.2.2.1, u32.2.2.2.2.2)
        else
          let u35 := f_M_put nx (x27 / 1048576) ((st.1.1, st.1.2.1, st.1.2.2.1, st.1.2.2.2.1, st.1.2.2.2.2.1, st.1.2.2.2.2.2.1, x27, st.1.2.2.2.2.2.2.2.1, st.1.2.2.2.2.2.2.2.2.1, st.1.2.2.2.2.2.2.2.2.2.1, st.1.2.2.2.2.2.2.2.2.2.2.1, st.1.2.2.2.2.2.2.2.2.2.2.2.1, st.1.2.2.2.2.2.2.2.2.2.2.2.2.1, st.1.2.2.2.2.2.2.2.2.2.2.2.2.2.1, st.1.2.2.2.2.2.2.2.2.2.2.2.2.2.2.1, st.1.2.2.2.2.2.2.2.2.2.2.2.2.2.2.2.1, st.1.2.2.2.2.2.2.2.2.2.2.2.2.2.2.2.2.1, st.1.2.2.2.2.2.2.2.2.2.2.2.2.2.2.2.2.2.1, st.1.2.2.2.2.2.2.2.2.2.2.2.2.2.2.2.2.2.2.1, st.1.2.2.2.2.2.2.2.2.2.2.2.2.2.2.2.2.2.2.2), st.2.1, st.2.2.1, st.2.2.2.1, st.2.2.2.2.1, (upd st.2.2.2.2.2 (Int32.toNatClampNeg (st.1.2.2.2.1 - 1)) x16))
          let x36 := (irem u35.1.2.2.2.2.2.2.1 1048576)
          ((u35.1.1, u35.1.2.1, u35.1.2.2.1, u35.1.2.2.2.1, u35.1.2.2.2.2.1, u35.1.2.2.2.2.2.1, x36, 7, u35.1.2.2.2.2.2.2.2.2.1, u35.1.2.2.2.2.2.2.2.2.2.1, u35.1.2.2.2.2.2.2.2.2.2.2.1, u35.1.2.2.2.2.2.2.2.2.2.2.2.1, u35.1.2.2.2.2.2.2.2.2.2.2.2.2.1, u35.1.2.2.2.2.2.2.2.2.2.2.2.2.2.1, u35.1.2.2.2.2.2.2.2.2.2.2.2.2.2.2.1, u35.1.2.2.2.2.2.2.2.2.2.2.2.2.2.2.2.1, u35.1.2.2.2.2.2.2.2.2.2.2.2.2.2.2.2.2.1, u35.1.2.2.2.2.2.2.2.2.2.2.2.2.2.2.2.2.2.1, u35.1.2.2.2.2.2.2.2.2.2.2.2.2.2.2.2.2.2.2.1, u35.1.2.2.2.2.2.2.2.2.2.2.2.2.2.2.2.2.2.2.2), u35.2.1, u35.2.2.1, u35.2.2.2.1, u35.2.2.2.2.1, u35.2.2.2.2.2)
  else
    let u7 := f_M_put nx (st.1.2.2.2.2.2.2.1 / 1048576) st
    let x8 := (irem u7.1.2.2.2.2.2.2.1 1048576)
    ((u7.1.1, u7.1.2.1, u7.1.2.2.1, u7.1.2.2.2.1, u7.1.2.2.2.2.1, u7.1.2.2.2.2.2.1, x8, 7, u7.1.2.2.2.2.2.2.2.2.1, u7.1.2.2.2.2.2.2.2.2.2.1, u7.1.2.2.2.2.2.2.2.2.2.2.1, u7.1.2.2.2.2.2.2.2.2.2.2.2.1, u7.1.2.2.2.2.2.2.2.2.2.2.2.2.1, u7.1.2.2.2.2.2.2.2.2.2.2.2.2.2.1, u7.1.2.2.2.2.2.2.2.2.2.2.2.2.2.2.1, u7.1.2.2.2.2.2.2.2.2.2.2.2.2.2.2.2.1, u7.1.2.2.2.2.2.2.2.2.2.2.2.2.2.2.2.2.1, u7.1.2.2.2.2.2.2.2.2.2.2.2.2.2.2.2.2.2.1, u7.1.2.2.2.2.2.2.2.2.2.2.2.2.2.2.2.2.2.2.1, u7.1.2.2.2.2.2.2.2.2.2.2.2.2.2.2.2.2.2.2.2), u7.2.1, u7.2.2.1, u7.2.2.2.1, u7.2.2.2.2.1, u7.2.2.2.2.2)
  : MS)) := rfl
def k_M_putOut (nx : Nat) (st : MS) : Prop := (k_M_isFull nx  st) ∧ ((∀ b2, b2 = f_M_isFull nx  st → ((bI b2 = 0) → (((st.1.2.2.2.2.2.2.1 / 134217728) ≤ 0) → (k_M_isFull nx  st) ∧ ((k_M_put nx (st.1.2.2.2.2.2.2.1 / 524288) st) ∧ ((∀ u13, u13 = f_M_put nx (st.1.2.2.2.2.2.2.1 / 524288) st → (∀ x14, x14 = (irem u13.1.2.2.2.2.2.2.1 524288) → True))))) ∧ (¬ ((st.1.2.2.2.2.2.2.1 / 134217728) ≤ 0) → (vp_in (st.1.2.2.2.1 - 1) 120000) ∧ ((∀ x16, x16 = ((st.2.2.2.2.2 (Int32.toNatClampNeg (st.1.2.2.2.1 - 1))) + 1) → (vp_in (st.1.2.2.2.1 - 1) 120000) ∧ ((k_M_isFull nx  (st.1, st.2.1, st.2.2.1, st.2.2.2.1, st.2.2.2.2.1, (upd st.2.2.2.2.2 (Int32.toNatClampNeg (st.1.2.2.2.1 - 1)) x16))) ∧ ((∀ b20, b20 = f_M_isFull nx  (st.1, st.2.1, st.2.2.1, st.2.2.2.1, st.2.2.2.2.1, (upd st.2.2.2.2.2 (Int32.toNatClampNeg (st.1.2.2.2.1 - 1)) x16)) → ((bI b20 = 0) → (k_M_isFull nx  (st.1, st.2.1, st.2.2.1, st.2.2.2.1, st.2.2.2.2.1, (upd st.2.2.2.2.2 (Int32.toNatClampNeg (st.1.2.2.2.1 - 1)) x16))) ∧ ((k_M_put nx (st.1.2.2.2.2.2.2.1 / 524288) (st.1, st.2.1, st.2.2.1, st.2.2.2.1, st.2.2.2.2.1, (upd st.2.2.2.2.2 (Int32.toNatClampNeg (st.1.2.2.2.1 - 1)) x16))) ∧ ((∀ u25, u25 = f_M_put nx (st.1.2.2.2.2.2.2.1 / 524288) (st.1, st.2.1, st.2.2.1, st.2.2.2.1, st.2.2.2.2.1, (upd st.2.2.2.2.2 (Int32.toNatClampNeg (st.1.2.2.2.1 - 1)) x16)) → (∀ x26, x26 = (irem u25.1.2.2.2.2.2.2.1 524288) → True))))) ∧ (¬ (bI b20 = 0) → (∀ x27, x27 = (irem st.1.2.2.2.2.2.2.1 134217728) → (k_M_isFull nx  ((st.1.1, st.1.2.1, st.1.2.2.1, st.1.2.2.2.1, st.1.2.2.2.2.1, st.1.2.2.2.2.2.1, x27, st.1.2.2.2.2.2.2.2.1, st.1.2.2.2.2.2.2.2.2.1, st.1.2.2.2.2.2.2.2.2.2.1, st.1.2.2.2.2.2.2.2.2.2.2.1, st.1.2.2.2.2.2.2.2.2.2.2.2.1, st.1.2.2.2.2.2.2.2.2.2.2.2.2.1, st.1.2.2.2.2.2.2.2.2.2.2.2.2.2.1, st.1.2.2.2.2.2.2.2.2.2.2.2.2.2.2.1, st.1.2.2.2.2.2.2.2.2.2.2.2.2.2.2.2.1, st.1.2.2.2.2.2.2.2.2.2.2.2.2.2.2.2.2.1, st.1.2.2.2.2.2.2.2.2.2.2.2.2.2.2.2.2.2.1, st.1.2.2.2.2.2.2.2.2.2.2.2.2.2.2.2.2.2.2.1, st.1.2.2.2.2.2.2.2.2.2.2.2.2.2.2.2.2.2.2.2), st.2.1, st.2.2.1, st.2.2.2.1, st.2.2.2.2.1, (upd st.2.2.2.2.2 (Int32.toNatClampNeg (st.1.2.2.2.1 - 1)) x16))) ∧ ((∀ b29, b29 = f_M_isFull nx  ((st.1.1, st.1.2.1, st.1.2.2.1, st.1.2.2.2.1, st.1.2.2.2.2.1, st.1.2.2.2.2.2.1, x27, st.1.2.2.2.2.2.2.2.1, st.1.2.2.2.2.2.2.2.2.1, st.1.2.2.2.2.2.2.2.2.2.1, st.1.2.2.2.2.2.2.2.2.2.2.1, st.1.2.2.2.2.2.2.2.2.2.2.2.1, st.1.2.2.2.2.2.2.2.2.2.2.2.2.1, st.1.2.2.2.2.2.2.2.2.2.2.2.2.2.1, st.1.2.2.2.2.2.2.2.2.2.2.2.2.2.2.1, st.1.2.2.2.2.2.2.2.2.2.2.2.2.2.2.2.1, st.1.2.2.2.2.2.2.2.2.2.2.2.2.2.2.2.2.1, st.1.2.2.2.2.2.2.2.2.2.2.2.2.2.2.2.2.2.1, st.1.2.2.2.2.2.2.2.2.2.2.2.2.2.2.2.2.2.2.1, st.1.2.2.2.2.2.2.2.2.2.2.2.2.2.2.2.2.2.2.2), st.2.1, st.2.2.1, st.2.2.2.1, st.2.2.2.2.1, (upd st.2.2.2.2.2 (Int32.toNatClampNeg (st.1.2.2.2.1 - 1)) x16)) → ((bI b29 = 0) → (k_M_put nx (x27 / 524288) ((st.1.1, st.1.2.1, st.1.2.2.1, st.1.2.2.2.1, st.1.2.2.2.2.1, st.1.2.2.2.2.2.1, x27, st.1.2.2.2.2.2.2.2.1, st.1.2.2.2.2.2.2.2.2.1, st.1.2.2.2.2.2.2.2.2.2.1, st.1.2.2.2.2.2.2.2.2.2.2.1, st.1.2.2.2.2.2.2.2.2.2.2.2.1, st.1.2.2.2.2.2.2.2.2.2.2.2.2.1, st.1.2.2.2.2.2.2.2.2.2.2.2.2.2.1, st.1.2.2.2.2.2.2.2.2.2.2.2.2.2.2.1, st.1.2.2.2.2.2.2.2.2.2.2.2.2.2.2.2.1, st.1.2.2.2.2.2.2.2.2.2.2.2.2.2.2.2.2.1, st.1.2.2.2.2.2.2.2.2.2.2.2.2.2.2.2.2.2.1, st.1.2.2.2.2.2.2.2.2.2.2.2.2.2.2.2.2.2.2.1, st.1.2.2.2.2.2.2.2.2.2.2.2.2.2.2.2.2.2.2.2), st.2.1, st.2.2.1, st.2.2.2.1, st.2.2.2.2.1, (upd st.2.2.2.2.2 (Int32.toNatClampNeg (st.1.2.2.2.1 - 1)) x16))) ∧ ((∀ u32, u32 = f_M_put nx (x27 / 524288) ((st.1.1, st.1.2.1, st.1.2.2.1, st.1.2.2.2.1, st.1.2.2.2.2.1, st.1.2.2.2.2.2.1, x27, st.1.2.2.2.2.2.2.2.1, st.1.2.2.2.2.2.2.2.2.1, st.1.2.2.2.2.2.2.2.2.2.1, st.1.2.2.2.2.2.2.2.2.2.2.1, st.1.2.2.2.2.2.2.2.2.2.2.2.1, st.1.2.2.2.2.2.2.2.2.2.2.2.2.1, st.1.2.2.2.2.2.2.2.2.2.2.2.2.2.1, st.1.2.2.2.2.2.2.2.2.2.2.2.2.2.2.1, st.1.2.2.2.2.2.2.2.2.2.2.2.2.2.2.2.1, st.1.2.2.2.2.2.2.2.2.2.2.2.2.2.2.2.2.1, st.1.2.2.2.2.2.2.2.2.2.2.2.2.2.2.2.2.2.1, st.1.2.2.2.2.2.2.2.2.2.2.2.2.2.2.2.2.2.2.1, st.1.2.2.2.2.2.2.2.2.2.2.2.2.2.2.2.2.2.2.2), st.2.1, st.2.2.1, st.2.2.2.1, st.2.2.2.2.1, (upd st.2.2.2.2.2 (Int32.toNatClampNeg (st.1.2.2.2.1 - 1)) x16)) → (∀ x33, x33 = (irem u32.1.2.2.2.2.2.2.1 524288) → True)))) ∧ (¬ (bI b29 = 0) → (k_M_put nx (x27 / 1048576) ((st.1.1, st.1.2.1, st.1.2.2.1, st.1.2.2.2.1, st.1.2.2.2.2.1, st.1.2.2.2.2.2.1, x27, st.1.2.2.2.2.2.2.2.1, st.1.2.2.2.2.2.2.2.2.1, st.1.2.2.2.2.2.2.2.2.2.1, st.1.2.2.2.2.2.2.2.2.2.2.1, st.1.2.2.2.2.2.2.2.2.2.2.2.1, st.1.2.2.2.2.2.2.2.2.2.2.2.2.1, st.1.2.2.2.2.2.2.2.2.2.2.2.2.2.1, st.1.2.2.2.2.2.2.2.2.2.2.2.2.2.2.1, st.1.2.2.2.2.2.2.2.2.2.2.2.2.2.2.2.1, st.1.2.2.2.2.2.2.2.2.2.2.2.2.2.2.2.2.1, st.1.2.2.2.2.2.2.2.2.2.2.2.2.2.2.2.2.2.1, st.1.2.2.2.2.2.2.2.2.2.2.2.2.2.2.2.2.2.2.1, st.1.2.2.2.2.2.2.2.2.2.2.2.2.2.2.2.2.2.2.2), st.2.1, st.2.2.1, st.2.2.2.1, st.2.2.2.2.1, (upd st.2.2.2.2.2 (Int32.toNatClampNeg (st.1.2.2.2.1 - 1)) x16))) ∧ ((∀ u35, u35 = f_M_put nx (x27 / 1048576) ((st.1.1, st.1.2.1, st.1.2.2.1, st.1.2.2.2.1, st.1.2.2.2.2.1, st.1.2.2.2.2.2.1, x27, st.1.2.2.2.2.2.2.2.1, st.1.2.2.2.2.2.2.2.2.1, st.1.2.2.2.2.2.2.2.2.2.1, st.1.2.2.2.2.2.2.2.2.2.2.1, st.1.2.2.2.2.2.2.2.2.2.2.2.1, st.1.2.2.2.2.2.2.2.2.2.2.2.2.1, st.1.2.2.2.2.2.2.2.2.2.2.2.2.2.1, st.1.2.2.2.2.2.2.2.2.2.2.2.2.2.2.1, st.1.2.2.2.2.2.2.2.2.2.2.2.2.2.2.2.1, st.1.2.2.2.2.2.2.2.2.2.2.2.2.2.2.2.2.1, st.1.2.2.2.2.2.2.2.2.2.2.2.2.2.2.2.2.2.1, st.1.2.2.2.2.2.2.2.2.2.2.2.2.2.2.2.2.2.2.1, st.1.2.2.2.2.2.2.2.2.2.2.2.2.2.2.2.2.2.2.2), st.2.1, st.2.2.1, st.2.2.2.1, st.2.2.2.2.1, (upd st.2.2.2.2.2 (Int32.toNatClampNeg (st.1.2.2.2.1 - 1)) x16)) → (∀ x36, x36 = (irem u35.1.2.2.2.2.2.2.1 1048576) → True))))))))))))))) ∧ (¬ (bI b2 = 0) → (k_M_isFull nx  st) ∧ ((k_M_put nx (st.1.2.2.2.2.2.2.1 / 1048576) st) ∧ ((∀ u7, u7 = f_M_put nx (st.1.2.2.2.2.2.2.1 / 1048576) st → (∀ x8, x8 = (irem u7.1.2.2.2.2.2.2.1 1048576) → True)))))))
set_option maxHeartbeats 4000000 in
set_option maxRecDepth 100000 in
theorem c_M_putOut (l : Launch) (E : Ev) (A : Nat → Prop) (mo mc sv sa wr bt s1 s2 s3 nx : Nat) (st : MS)   (hok : k_M_putOut nx st) :
    Kt l y_M_putOut b_M_putOut 3 none 1 0 0 E A [.ref mo] [(mo, .inr (5, [.ref s1, .ref s2, .ref s3, .int st.1.1, .int (nI nx), .ref mc, .int st.1.2.1, .ref sv, .int st.1.2.2.1, .ref sa, .ref wr, .int st.1.2.2.2.1, .ref bt, .int (bI st.1.2.2.2.2.1), .int st.1.2.2.2.2.2.1, .int st.1.2.2.2.2.2.2.1, .int st.1.2.2.2.2.2.2.2.1, .int st.1.2.2.2.2.2.2.2.2.1, .int st.1.2.2.2.2.2.2.2.2.2.1, .int st.1.2.2.2.2.2.2.2.2.2.2.1, .int st.1.2.2.2.2.2.2.2.2.2.2.2.1, .int st.1.2.2.2.2.2.2.2.2.2.2.2.2.1, .long st.1.2.2.2.2.2.2.2.2.2.2.2.2.2.1, .int st.1.2.2.2.2.2.2.2.2.2.2.2.2.2.2.1, .int st.1.2.2.2.2.2.2.2.2.2.2.2.2.2.2.2.1, .int st.1.2.2.2.2.2.2.2.2.2.2.2.2.2.2.2.2.1, .int (bI st.1.2.2.2.2.2.2.2.2.2.2.2.2.2.2.2.2.2.1), .int st.1.2.2.2.2.2.2.2.2.2.2.2.2.2.2.2.2.2.2.1, .int st.1.2.2.2.2.2.2.2.2.2.2.2.2.2.2.2.2.2.2.2])), (mc, .inl (E.2.1 0, 139264, .inl st.2.1)), (sv, .inl (E.2.1 0, 393216, .inl st.2.2.1)), (sa, .inl (E.2.1 0, 1100, .inl st.2.2.2.1)), (wr, .inl (E.2.1 1, 1100, .inl st.2.2.2.2.1)), (bt, .inl (E.2.1 0, 120000, .inl st.2.2.2.2.2)), (s1, .inl (E.2.1 0, 47, .inl (zF 0))), (s2, .inl (E.2.1 0, 47, .inl (zF 1))), (s3, .inl (E.2.1 0, 47, .inl (zF 2)))] (va_Qv (fun u : MS => u = f_M_putOut nx st) (ar_W E A (fun u : MS => [(mo, .inr (5, [.ref s1, .ref s2, .ref s3, .int u.1.1, .int (nI nx), .ref mc, .int u.1.2.1, .ref sv, .int u.1.2.2.1, .ref sa, .ref wr, .int u.1.2.2.2.1, .ref bt, .int (bI u.1.2.2.2.2.1), .int u.1.2.2.2.2.2.1, .int u.1.2.2.2.2.2.2.1, .int u.1.2.2.2.2.2.2.2.1, .int u.1.2.2.2.2.2.2.2.2.1, .int u.1.2.2.2.2.2.2.2.2.2.1, .int u.1.2.2.2.2.2.2.2.2.2.2.1, .int u.1.2.2.2.2.2.2.2.2.2.2.2.1, .int u.1.2.2.2.2.2.2.2.2.2.2.2.2.1, .long u.1.2.2.2.2.2.2.2.2.2.2.2.2.2.1, .int u.1.2.2.2.2.2.2.2.2.2.2.2.2.2.2.1, .int u.1.2.2.2.2.2.2.2.2.2.2.2.2.2.2.2.1, .int u.1.2.2.2.2.2.2.2.2.2.2.2.2.2.2.2.2.1, .int (bI u.1.2.2.2.2.2.2.2.2.2.2.2.2.2.2.2.2.2.1), .int u.1.2.2.2.2.2.2.2.2.2.2.2.2.2.2.2.2.2.2.1, .int u.1.2.2.2.2.2.2.2.2.2.2.2.2.2.2.2.2.2.2.2])), (mc, .inl (E.2.1 0, 139264, .inl u.2.1)), (sv, .inl (E.2.1 0, 393216, .inl u.2.2.1)), (sa, .inl (E.2.1 0, 1100, .inl u.2.2.2.1)), (wr, .inl (E.2.1 1, 1100, .inl u.2.2.2.2.1)), (bt, .inl (E.2.1 0, 120000, .inl u.2.2.2.2.2)), (s1, .inl (E.2.1 0, 47, .inl (zF 0))), (s2, .inl (E.2.1 0, 47, .inl (zF 1))), (s3, .inl (E.2.1 0, 47, .inl (zF 2)))])) A) := by
  unfold k_M_putOut at hok
  refine Kt.of (by decide) (Nat.le_of_ble_eq_true rfl) ?_
  intro p e s m below meth c ls hx hb hml hown hts hr hlocks hex hin hA hZ hP hK hD hl
  have hS : va_S A s.heap s.heap [] := va_S.rf
  have hl : lv_has ls 3 [(0, .ref mo)] := hl
  refine lv_aload_n hx hb d_M_putOut_0 rfl (lv_at hl 0 rfl) ?_
  obtain ⟨hk1, hok⟩ := hok
  refine ar_usei (wr := []) hP hD hS hA [0, 1, 2, 3, 4, 5, 6, 7, 8] [] rfl rfl rfl (by decide) (ar_runV (n := 0) (As := []) (rest := []) (ci := 5) (q0 := 0) hx hb hml hown hts hP hD hS hA hK hZ (c_M_isFull l E _ mo mc sv sa wr bt s1 s2 s3 nx st  hk1) m_729 m_731 ms_26 m_7 m_732 (by decide +kernel) ⟨Nat.le_of_ble_eq_true rfl, Nat.le_of_ble_eq_true rfl⟩ [0, 1, 2, 3, 4, 5, 6, 7, 8] rfl rfl rfl rfl rfl rfl rfl hl.1 rfl (Nat.le_of_ble_eq_true rfl) d_M_putOut_1 ⟨Nat.le_of_ble_eq_true rfl, Nat.le_of_ble_eq_true rfl⟩) (fun r2 _ Hn locsn hw2 hPn hDn hSn => ?_)
  obtain ⟨b2, eb2⟩ : ∃ b : Bool, b = f_M_isFull nx  st := ⟨_, rfl⟩
  rw [← eb2] at hw2
  subst hw2
  replace hok := hok b2 eb2
  clear hP hD hS
  have hP : va_P E.1 classes [(mo, .inr (5, [.ref s1, .ref s2, .ref s3, .int st.1.1, .int (nI nx), .ref mc, .int st.1.2.1, .ref sv, .int st.1.2.2.1, .ref sa, .ref wr, .int st.1.2.2.2.1, .ref bt, .int (bI st.1.2.2.2.2.1), .int st.1.2.2.2.2.2.1, .int st.1.2.2.2.2.2.2.1, .int st.1.2.2.2.2.2.2.2.1, .int st.1.2.2.2.2.2.2.2.2.1, .int st.1.2.2.2.2.2.2.2.2.2.1, .int st.1.2.2.2.2.2.2.2.2.2.2.1, .int st.1.2.2.2.2.2.2.2.2.2.2.2.1, .int st.1.2.2.2.2.2.2.2.2.2.2.2.2.1, .long st.1.2.2.2.2.2.2.2.2.2.2.2.2.2.1, .int st.1.2.2.2.2.2.2.2.2.2.2.2.2.2.2.1, .int st.1.2.2.2.2.2.2.2.2.2.2.2.2.2.2.2.1, .int st.1.2.2.2.2.2.2.2.2.2.2.2.2.2.2.2.2.1, .int (bI st.1.2.2.2.2.2.2.2.2.2.2.2.2.2.2.2.2.2.1), .int st.1.2.2.2.2.2.2.2.2.2.2.2.2.2.2.2.2.2.2.1, .int st.1.2.2.2.2.2.2.2.2.2.2.2.2.2.2.2.2.2.2.2])), (mc, .inl (E.2.1 0, 139264, .inl st.2.1)), (sv, .inl (E.2.1 0, 393216, .inl st.2.2.1)), (sa, .inl (E.2.1 0, 1100, .inl st.2.2.2.1)), (wr, .inl (E.2.1 1, 1100, .inl st.2.2.2.2.1)), (bt, .inl (E.2.1 0, 120000, .inl st.2.2.2.2.2)), (s1, .inl (E.2.1 0, 47, .inl (zF 0))), (s2, .inl (E.2.1 0, 47, .inl (zF 1))), (s3, .inl (E.2.1 0, 47, .inl (zF 2)))] Hn := hPn
  have hD : va_D A [(mo, .inr (5, [.ref s1, .ref s2, .ref s3, .int st.1.1, .int (nI nx), .ref mc, .int st.1.2.1, .ref sv, .int st.1.2.2.1, .ref sa, .ref wr, .int st.1.2.2.2.1, .ref bt, .int (bI st.1.2.2.2.2.1), .int st.1.2.2.2.2.2.1, .int st.1.2.2.2.2.2.2.1, .int st.1.2.2.2.2.2.2.2.1, .int st.1.2.2.2.2.2.2.2.2.1, .int st.1.2.2.2.2.2.2.2.2.2.1, .int st.1.2.2.2.2.2.2.2.2.2.2.1, .int st.1.2.2.2.2.2.2.2.2.2.2.2.1, .int st.1.2.2.2.2.2.2.2.2.2.2.2.2.1, .long st.1.2.2.2.2.2.2.2.2.2.2.2.2.2.1, .int st.1.2.2.2.2.2.2.2.2.2.2.2.2.2.2.1, .int st.1.2.2.2.2.2.2.2.2.2.2.2.2.2.2.2.1, .int st.1.2.2.2.2.2.2.2.2.2.2.2.2.2.2.2.2.1, .int (bI st.1.2.2.2.2.2.2.2.2.2.2.2.2.2.2.2.2.2.1), .int st.1.2.2.2.2.2.2.2.2.2.2.2.2.2.2.2.2.2.2.1, .int st.1.2.2.2.2.2.2.2.2.2.2.2.2.2.2.2.2.2.2.2])), (mc, .inl (E.2.1 0, 139264, .inl st.2.1)), (sv, .inl (E.2.1 0, 393216, .inl st.2.2.1)), (sa, .inl (E.2.1 0, 1100, .inl st.2.2.2.1)), (wr, .inl (E.2.1 1, 1100, .inl st.2.2.2.2.1)), (bt, .inl (E.2.1 0, 120000, .inl st.2.2.2.2.2)), (s1, .inl (E.2.1 0, 47, .inl (zF 0))), (s2, .inl (E.2.1 0, 47, .inl (zF 1))), (s3, .inl (E.2.1 0, 47, .inl (zF 2)))] := hDn
  have hS := hSn
  clear hPn hDn hSn
  refine lv_if_ne (tgt := 66) hx hb d_M_putOut_4 (by decide) (fun c3 => ?_) (fun c3 => ?_)
  · replace hok := hok.2 c3
    refine lv_aload_n hx hb d_M_putOut_66 rfl (lv_at hl 0 rfl) ?_
    obtain ⟨hk4, hok⟩ := hok
    refine ar_usei (wr := []) hP hD hS hA [0, 1, 2, 3, 4, 5, 6, 7, 8] [] rfl rfl rfl (by decide) (ar_runV (n := 0) (As := []) (rest := []) (ci := 5) (q0 := 0) hx hb hml hown hts hP hD hS hA hK hZ (c_M_isFull l E _ mo mc sv sa wr bt s1 s2 s3 nx st  hk4) m_729 m_731 ms_26 m_7 m_732 (by decide +kernel) ⟨Nat.le_of_ble_eq_true rfl, Nat.le_of_ble_eq_true rfl⟩ [0, 1, 2, 3, 4, 5, 6, 7, 8] rfl rfl rfl rfl rfl rfl rfl hl.1 rfl (Nat.le_of_ble_eq_true rfl) d_M_putOut_67 ⟨Nat.le_of_ble_eq_true rfl, Nat.le_of_ble_eq_true rfl⟩) (fun r5 _ Hn locsn hw5 hPn hDn hSn => ?_)
    rw [← eb2] at hw5
    subst r5
    clear hP hD hS
    have hP : va_P E.1 classes [(mo, .inr (5, [.ref s1, .ref s2, .ref s3, .int st.1.1, .int (nI nx), .ref mc, .int st.1.2.1, .ref sv, .int st.1.2.2.1, .ref sa, .ref wr, .int st.1.2.2.2.1, .ref bt, .int (bI st.1.2.2.2.2.1), .int st.1.2.2.2.2.2.1, .int st.1.2.2.2.2.2.2.1, .int st.1.2.2.2.2.2.2.2.1, .int st.1.2.2.2.2.2.2.2.2.1, .int st.1.2.2.2.2.2.2.2.2.2.1, .int st.1.2.2.2.2.2.2.2.2.2.2.1, .int st.1.2.2.2.2.2.2.2.2.2.2.2.1, .int st.1.2.2.2.2.2.2.2.2.2.2.2.2.1, .long st.1.2.2.2.2.2.2.2.2.2.2.2.2.2.1, .int st.1.2.2.2.2.2.2.2.2.2.2.2.2.2.2.1, .int st.1.2.2.2.2.2.2.2.2.2.2.2.2.2.2.2.1, .int st.1.2.2.2.2.2.2.2.2.2.2.2.2.2.2.2.2.1, .int (bI st.1.2.2.2.2.2.2.2.2.2.2.2.2.2.2.2.2.2.1), .int st.1.2.2.2.2.2.2.2.2.2.2.2.2.2.2.2.2.2.2.1, .int st.1.2.2.2.2.2.2.2.2.2.2.2.2.2.2.2.2.2.2.2])), (mc, .inl (E.2.1 0, 139264, .inl st.2.1)), (sv, .inl (E.2.1 0, 393216, .inl st.2.2.1)), (sa, .inl (E.2.1 0, 1100, .inl st.2.2.2.1)), (wr, .inl (E.2.1 1, 1100, .inl st.2.2.2.2.1)), (bt, .inl (E.2.1 0, 120000, .inl st.2.2.2.2.2)), (s1, .inl (E.2.1 0, 47, .inl (zF 0))), (s2, .inl (E.2.1 0, 47, .inl (zF 1))), (s3, .inl (E.2.1 0, 47, .inl (zF 2)))] Hn := hPn
    have hD : va_D A [(mo, .inr (5, [.ref s1, .ref s2, .ref s3, .int st.1.1, .int (nI nx), .ref mc, .int st.1.2.1, .ref sv, .int st.1.2.2.1, .ref sa, .ref wr, .int st.1.2.2.2.1, .ref bt, .int (bI st.1.2.2.2.2.1), .int st.1.2.2.2.2.2.1, .int st.1.2.2.2.2.2.2.1, .int st.1.2.2.2.2.2.2.2.1, .int st.1.2.2.2.2.2.2.2.2.1, .int st.1.2.2.2.2.2.2.2.2.2.1, .int st.1.2.2.2.2.2.2.2.2.2.2.1, .int st.1.2.2.2.2.2.2.2.2.2.2.2.1, .int st.1.2.2.2.2.2.2.2.2.2.2.2.2.1, .long st.1.2.2.2.2.2.2.2.2.2.2.2.2.2.1, .int st.1.2.2.2.2.2.2.2.2.2.2.2.2.2.2.1, .int st.1.2.2.2.2.2.2.2.2.2.2.2.2.2.2.2.1, .int st.1.2.2.2.2.2.2.2.2.2.2.2.2.2.2.2.2.1, .int (bI st.1.2.2.2.2.2.2.2.2.2.2.2.2.2.2.2.2.2.1), .int st.1.2.2.2.2.2.2.2.2.2.2.2.2.2.2.2.2.2.2.1, .int st.1.2.2.2.2.2.2.2.2.2.2.2.2.2.2.2.2.2.2.2])), (mc, .inl (E.2.1 0, 139264, .inl st.2.1)), (sv, .inl (E.2.1 0, 393216, .inl st.2.2.1)), (sa, .inl (E.2.1 0, 1100, .inl st.2.2.2.1)), (wr, .inl (E.2.1 1, 1100, .inl st.2.2.2.2.1)), (bt, .inl (E.2.1 0, 120000, .inl st.2.2.2.2.2)), (s1, .inl (E.2.1 0, 47, .inl (zF 0))), (s2, .inl (E.2.1 0, 47, .inl (zF 1))), (s3, .inl (E.2.1 0, 47, .inl (zF 2)))] := hDn
    have hS := hSn
    clear hPn hDn hSn
    refine lv_istore_n (lv' := [(1, .int (bI b2)), (0, .ref mo)]) hx hb d_M_putOut_70 rfl hl (by decide) rfl (fun ls hl => ?_)
    refine lv_iload_n hx hb d_M_putOut_71 rfl (lv_at hl 0 rfl) ?_
    refine lv_if_eq (tgt := 80) hx hb d_M_putOut_72 (by decide) (fun cz => absurd cz c3) (fun cz => ?_)
    refine lv_ldc (v := 1048576) hx hb hown (hts _ m_750) d_M_putOut_75 ?_
    refine lv_goto (tgt := 82) hx hb d_M_putOut_77 (by decide) ?_
    refine lv_istore_n (lv' := [(2, .int 1048576), (1, .int (bI b2)), (0, .ref mo)]) hx hb d_M_putOut_82 rfl hl (by decide) rfl (fun ls hl => ?_)
    refine lv_aload_n hx hb d_M_putOut_83 rfl (lv_at hl 2 rfl) ?_
    refine lv_aload_n hx hb d_M_putOut_84 rfl (lv_at hl 2 rfl) ?_
    refine va_get (D := E.1) (ci := 5) (v := .int st.1.2.2.2.2.2.2.1) (C := R_M) (T := T_M) (N := 29) hx hb hts in_M hown hK hP 0 rfl rfl 15 (by decide) (hts _ m_625) (fun _ h9 => h9) rfl d_M_putOut_85 ?_
    refine lv_iload_n hx hb d_M_putOut_88 rfl (lv_at hl 0 rfl) ?_
    refine lv_idiv hx hb d_M_putOut_89 (by decide) ?_
    obtain ⟨hk6, hok⟩ := hok
    refine ar_usev (wr := []) hP hD hS hA [0, 1, 2, 3, 4, 5, 6, 7, 8] [] rfl rfl rfl (by decide) (ar_runV (n := 1) (As := [.int (st.1.2.2.2.2.2.2.1 / 1048576)]) (rest := []) (ci := 5) (q0 := 0) hx hb hml hown hts hP hD hS hA hK hZ (c_M_put l E _ mo mc sv sa wr bt s1 s2 s3 nx st (st.1.2.2.2.2.2.2.1 / 1048576) hk6) m_725 m_727 ms_25 m_7 m_728 (by decide +kernel) ⟨Nat.le_of_ble_eq_true rfl, Nat.le_of_ble_eq_true rfl⟩ [0, 1, 2, 3, 4, 5, 6, 7, 8] rfl rfl rfl rfl rfl rfl rfl hl.1 rfl (Nat.le_of_ble_eq_true rfl) d_M_putOut_90 ⟨Nat.le_of_ble_eq_true rfl, Nat.le_of_ble_eq_true rfl⟩) (fun u7 Hn locsn hw7 hPn hDn hSn => ?_)
    replace hok := hok u7 hw7
    clear hP hD hS
    have hP : va_P E.1 classes [(mo, .inr (5, [.ref s1, .ref s2, .ref s3, .int u7.1.1, .int (nI nx), .ref mc, .int u7.1.2.1, .ref sv, .int u7.1.2.2.1, .ref sa, .ref wr, .int u7.1.2.2.2.1, .ref bt, .int (bI u7.1.2.2.2.2.1), .int u7.1.2.2.2.2.2.1, .int u7.1.2.2.2.2.2.2.1, .int u7.1.2.2.2.2.2.2.2.1, .int u7.1.2.2.2.2.2.2.2.2.1, .int u7.1.2.2.2.2.2.2.2.2.2.1, .int u7.1.2.2.2.2.2.2.2.2.2.2.1, .int u7.1.2.2.2.2.2.2.2.2.2.2.2.1, .int u7.1.2.2.2.2.2.2.2.2.2.2.2.2.1, .long u7.1.2.2.2.2.2.2.2.2.2.2.2.2.2.1, .int u7.1.2.2.2.2.2.2.2.2.2.2.2.2.2.2.1, .int u7.1.2.2.2.2.2.2.2.2.2.2.2.2.2.2.2.1, .int u7.1.2.2.2.2.2.2.2.2.2.2.2.2.2.2.2.2.1, .int (bI u7.1.2.2.2.2.2.2.2.2.2.2.2.2.2.2.2.2.2.1), .int u7.1.2.2.2.2.2.2.2.2.2.2.2.2.2.2.2.2.2.2.1, .int u7.1.2.2.2.2.2.2.2.2.2.2.2.2.2.2.2.2.2.2.2])), (mc, .inl (E.2.1 0, 139264, .inl u7.2.1)), (sv, .inl (E.2.1 0, 393216, .inl u7.2.2.1)), (sa, .inl (E.2.1 0, 1100, .inl u7.2.2.2.1)), (wr, .inl (E.2.1 1, 1100, .inl u7.2.2.2.2.1)), (bt, .inl (E.2.1 0, 120000, .inl u7.2.2.2.2.2)), (s1, .inl (E.2.1 0, 47, .inl (zF 0))), (s2, .inl (E.2.1 0, 47, .inl (zF 1))), (s3, .inl (E.2.1 0, 47, .inl (zF 2)))] Hn := hPn
    have hD : va_D A [(mo, .inr (5, [.ref s1, .ref s2, .ref s3, .int u7.1.1, .int (nI nx), .ref mc, .int u7.1.2.1, .ref sv, .int u7.1.2.2.1, .ref sa, .ref wr, .int u7.1.2.2.2.1, .ref bt, .int (bI u7.1.2.2.2.2.1), .int u7.1.2.2.2.2.2.1, .int u7.1.2.2.2.2.2.2.1, .int u7.1.2.2.2.2.2.2.2.1, .int u7.1.2.2.2.2.2.2.2.2.1, .int u7.1.2.2.2.2.2.2.2.2.2.1, .int u7.1.2.2.2.2.2.2.2.2.2.2.1, .int u7.1.2.2.2.2.2.2.2.2.2.2.2.1, .int u7.1.2.2.2.2.2.2.2.2.2.2.2.2.1, .long u7.1.2.2.2.2.2.2.2.2.2.2.2.2.2.1, .int u7.1.2.2.2.2.2.2.2.2.2.2.2.2.2.2.1, .int u7.1.2.2.2.2.2.2.2.2.2.2.2.2.2.2.2.1, .int u7.1.2.2.2.2.2.2.2.2.2.2.2.2.2.2.2.2.1, .int (bI u7.1.2.2.2.2.2.2.2.2.2.2.2.2.2.2.2.2.2.1), .int u7.1.2.2.2.2.2.2.2.2.2.2.2.2.2.2.2.2.2.2.1, .int u7.1.2.2.2.2.2.2.2.2.2.2.2.2.2.2.2.2.2.2.2])), (mc, .inl (E.2.1 0, 139264, .inl u7.2.1)), (sv, .inl (E.2.1 0, 393216, .inl u7.2.2.1)), (sa, .inl (E.2.1 0, 1100, .inl u7.2.2.2.1)), (wr, .inl (E.2.1 1, 1100, .inl u7.2.2.2.2.1)), (bt, .inl (E.2.1 0, 120000, .inl u7.2.2.2.2.2)), (s1, .inl (E.2.1 0, 47, .inl (zF 0))), (s2, .inl (E.2.1 0, 47, .inl (zF 1))), (s3, .inl (E.2.1 0, 47, .inl (zF 2)))] := hDn
    have hS := hSn
    clear hPn hDn hSn
    refine lv_aload_n hx hb d_M_putOut_93 rfl (lv_at hl 2 rfl) ?_
    refine lv_aload_n hx hb d_M_putOut_94 rfl (lv_at hl 2 rfl) ?_
    refine va_get (D := E.1) (ci := 5) (v := .int u7.1.2.2.2.2.2.2.1) (C := R_M) (T := T_M) (N := 29) hx hb hts in_M hown hK hP 0 rfl rfl 15 (by decide) (hts _ m_625) (fun _ h9 => h9) rfl d_M_putOut_95 ?_
    refine lv_iload_n hx hb d_M_putOut_98 rfl (lv_at hl 0 rfl) ?_
    refine ar_irem hx hb d_M_putOut_99 (by decide) ?_
    refine lv_topi (fun x8 ex8 => ?_)
    replace hok := hok x8 ex8
    refine va_put (D := E.1) (ci := 5) (v := .int x8) (ty := .int) (C := R_M) (T := T_M) (N := 29) hx hb hts in_M t_M t_M_ok n_M hown hK hP hD hS 0 rfl rfl 15 (by decide) (hts _ m_625) (fun _ h9 => h9) rfl (by decide +kernel) rfl rfl (Nat.le_of_ble_eq_true rfl) d_M_putOut_100 (fun Hn locsn hPn hDn hSn => ?_)
    clear hP hD hS
    have hP : va_P E.1 classes [(mo, .inr (5, [.ref s1, .ref s2, .ref s3, .int u7.1.1, .int (nI nx), .ref mc, .int u7.1.2.1, .ref sv, .int u7.1.2.2.1, .ref sa, .ref wr, .int u7.1.2.2.2.1, .ref bt, .int (bI u7.1.2.2.2.2.1), .int u7.1.2.2.2.2.2.1, .int x8, .int u7.1.2.2.2.2.2.2.2.1, .int u7.1.2.2.2.2.2.2.2.2.1, .int u7.1.2.2.2.2.2.2.2.2.2.1, .int u7.1.2.2.2.2.2.2.2.2.2.2.1, .int u7.1.2.2.2.2.2.2.2.2.2.2.2.1, .int u7.1.2.2.2.2.2.2.2.2.2.2.2.2.1, .long u7.1.2.2.2.2.2.2.2.2.2.2.2.2.2.1, .int u7.1.2.2.2.2.2.2.2.2.2.2.2.2.2.2.1, .int u7.1.2.2.2.2.2.2.2.2.2.2.2.2.2.2.2.1, .int u7.1.2.2.2.2.2.2.2.2.2.2.2.2.2.2.2.2.1, .int (bI u7.1.2.2.2.2.2.2.2.2.2.2.2.2.2.2.2.2.2.1), .int u7.1.2.2.2.2.2.2.2.2.2.2.2.2.2.2.2.2.2.2.1, .int u7.1.2.2.2.2.2.2.2.2.2.2.2.2.2.2.2.2.2.2.2])), (mc, .inl (E.2.1 0, 139264, .inl u7.2.1)), (sv, .inl (E.2.1 0, 393216, .inl u7.2.2.1)), (sa, .inl (E.2.1 0, 1100, .inl u7.2.2.2.1)), (wr, .inl (E.2.1 1, 1100, .inl u7.2.2.2.2.1)), (bt, .inl (E.2.1 0, 120000, .inl u7.2.2.2.2.2)), (s1, .inl (E.2.1 0, 47, .inl (zF 0))), (s2, .inl (E.2.1 0, 47, .inl (zF 1))), (s3, .inl (E.2.1 0, 47, .inl (zF 2)))] Hn := hPn
    have hD : va_D A [(mo, .inr (5, [.ref s1, .ref s2, .ref s3, .int u7.1.1, .int (nI nx), .ref mc, .int u7.1.2.1, .ref sv, .int u7.1.2.2.1, .ref sa, .ref wr, .int u7.1.2.2.2.1, .ref bt, .int (bI u7.1.2.2.2.2.1), .int u7.1.2.2.2.2.2.1, .int x8, .int u7.1.2.2.2.2.2.2.2.1, .int u7.1.2.2.2.2.2.2.2.2.1, .int u7.1.2.2.2.2.2.2.2.2.2.1, .int u7.1.2.2.2.2.2.2.2.2.2.2.1, .int u7.1.2.2.2.2.2.2.2.2.2.2.2.1, .int u7.1.2.2.2.2.2.2.2.2.2.2.2.2.1, .long u7.1.2.2.2.2.2.2.2.2.2.2.2.2.2.1, .int u7.1.2.2.2.2.2.2.2.2.2.2.2.2.2.2.1, .int u7.1.2.2.2.2.2.2.2.2.2.2.2.2.2.2.2.1, .int u7.1.2.2.2.2.2.2.2.2.2.2.2.2.2.2.2.2.1, .int (bI u7.1.2.2.2.2.2.2.2.2.2.2.2.2.2.2.2.2.2.1), .int u7.1.2.2.2.2.2.2.2.2.2.2.2.2.2.2.2.2.2.2.1, .int u7.1.2.2.2.2.2.2.2.2.2.2.2.2.2.2.2.2.2.2.2])), (mc, .inl (E.2.1 0, 139264, .inl u7.2.1)), (sv, .inl (E.2.1 0, 393216, .inl u7.2.2.1)), (sa, .inl (E.2.1 0, 1100, .inl u7.2.2.2.1)), (wr, .inl (E.2.1 1, 1100, .inl u7.2.2.2.2.1)), (bt, .inl (E.2.1 0, 120000, .inl u7.2.2.2.2.2)), (s1, .inl (E.2.1 0, 47, .inl (zF 0))), (s2, .inl (E.2.1 0, 47, .inl (zF 1))), (s3, .inl (E.2.1 0, 47, .inl (zF 2)))] := hDn
    have hS := hSn
    clear hPn hDn hSn
    refine lv_aload_n hx hb d_M_putOut_103 rfl (lv_at hl 2 rfl) ?_
    refine lv_iload_n hx hb d_M_putOut_104 rfl (lv_at hl 1 rfl) ?_
    refine lv_if_eq (tgt := 113) hx hb d_M_putOut_105 (by decide) (fun cz => absurd cz c3) (fun cz => ?_)
    refine lv_bipush (v := 7) hx hb d_M_putOut_108 (by decide) ?_
    refine lv_goto (tgt := 115) hx hb d_M_putOut_110 (by decide) ?_
    refine va_put (D := E.1) (ci := 5) (v := .int 7) (ty := .int) (C := R_M) (T := T_M) (N := 29) hx hb hts in_M t_M t_M_ok n_M hown hK hP hD hS 0 rfl rfl 16 (by decide) (hts _ m_626) (fun _ h9 => h9) rfl (by decide +kernel) rfl rfl (Nat.le_of_ble_eq_true rfl) d_M_putOut_115 (fun Hn locsn hPn hDn hSn => ?_)
    clear hP hD hS
    have hP : va_P E.1 classes [(mo, .inr (5, [.ref s1, .ref s2, .ref s3, .int u7.1.1, .int (nI nx), .ref mc, .int u7.1.2.1, .ref sv, .int u7.1.2.2.1, .ref sa, .ref wr, .int u7.1.2.2.2.1, .ref bt, .int (bI u7.1.2.2.2.2.1), .int u7.1.2.2.2.2.2.1, .int x8, .int 7, .int u7.1.2.2.2.2.2.2.2.2.1, .int u7.1.2.2.2.2.2.2.2.2.2.1, .int u7.1.2.2.2.2.2.2.2.2.2.2.1, .int u7.1.2.2.2.2.2.2.2.2.2.2.2.1, .int u7.1.2.2.2.2.2.2.2.2.2.2.2.2.1, .long u7.1.2.2.2.2.2.2.2.2.2.2.2.2.2.1, .int u7.1.2.2.2.2.2.2.2.2.2.2.2.2.2.2.1, .int u7.1.2.2.2.2.2.2.2.2.2.2.2.2.2.2.2.1, .int u7.1.2.2.2.2.2.2.2.2.2.2.2.2.2.2.2.2.1, .int (bI u7.1.2.2.2.2.2.2.2.2.2.2.2.2.2.2.2.2.2.1), .int u7.1.2.2.2.2.2.2.2.2.2.2.2.2.2.2.2.2.2.2.1, .int u7.1.2.2.2.2.2.2.2.2.2.2.2.2.2.2.2.2.2.2.2])), (mc, .inl (E.2.1 0, 139264, .inl u7.2.1)), (sv, .inl (E.2.1 0, 393216, .inl u7.2.2.1)), (sa, .inl (E.2.1 0, 1100, .inl u7.2.2.2.1)), (wr, .inl (E.2.1 1, 1100, .inl u7.2.2.2.2.1)), (bt, .inl (E.2.1 0, 120000, .inl u7.2.2.2.2.2)), (s1, .inl (E.2.1 0, 47, .inl (zF 0))), (s2, .inl (E.2.1 0, 47, .inl (zF 1))), (s3, .inl (E.2.1 0, 47, .inl (zF 2)))] Hn := hPn
    have hD : va_D A [(mo, .inr (5, [.ref s1, .ref s2, .ref s3, .int u7.1.1, .int (nI nx), .ref mc, .int u7.1.2.1, .ref sv, .int u7.1.2.2.1, .ref sa, .ref wr, .int u7.1.2.2.2.1, .ref bt, .int (bI u7.1.2.2.2.2.1), .int u7.1.2.2.2.2.2.1, .int x8, .int 7, .int u7.1.2.2.2.2.2.2.2.2.1, .int u7.1.2.2.2.2.2.2.2.2.2.1, .int u7.1.2.2.2.2.2.2.2.2.2.2.1, .int u7.1.2.2.2.2.2.2.2.2.2.2.2.1, .int u7.1.2.2.2.2.2.2.2.2.2.2.2.2.1, .long u7.1.2.2.2.2.2.2.2.2.2.2.2.2.2.1, .int u7.1.2.2.2.2.2.2.2.2.2.2.2.2.2.2.1, .int u7.1.2.2.2.2.2.2.2.2.2.2.2.2.2.2.2.1, .int u7.1.2.2.2.2.2.2.2.2.2.2.2.2.2.2.2.2.1, .int (bI u7.1.2.2.2.2.2.2.2.2.2.2.2.2.2.2.2.2.2.1), .int u7.1.2.2.2.2.2.2.2.2.2.2.2.2.2.2.2.2.2.2.1, .int u7.1.2.2.2.2.2.2.2.2.2.2.2.2.2.2.2.2.2.2.2])), (mc, .inl (E.2.1 0, 139264, .inl u7.2.1)), (sv, .inl (E.2.1 0, 393216, .inl u7.2.2.1)), (sa, .inl (E.2.1 0, 1100, .inl u7.2.2.2.1)), (wr, .inl (E.2.1 1, 1100, .inl u7.2.2.2.2.1)), (bt, .inl (E.2.1 0, 120000, .inl u7.2.2.2.2.2)), (s1, .inl (E.2.1 0, 47, .inl (zF 0))), (s2, .inl (E.2.1 0, 47, .inl (zF 1))), (s3, .inl (E.2.1 0, 47, .inl (zF 2)))] := hDn
    have hS := hSn
    clear hPn hDn hSn
    exact ar_vret hx hb hr hlocks hK hS ((u7.1.1, u7.1.2.1, u7.1.2.2.1, u7.1.2.2.2.1, u7.1.2.2.2.2.1, u7.1.2.2.2.2.2.1, x8, 7, u7.1.2.2.2.2.2.2.2.2.1, u7.1.2.2.2.2.2.2.2.2.2.1, u7.1.2.2.2.2.2.2.2.2.2.2.1, u7.1.2.2.2.2.2.2.2.2.2.2.2.1, u7.1.2.2.2.2.2.2.2.2.2.2.2.2.1, u7.1.2.2.2.2.2.2.2.2.2.2.2.2.2.1, u7.1.2.2.2.2.2.2.2.2.2.2.2.2.2.2.1, u7.1.2.2.2.2.2.2.2.2.2.2.2.2.2.2.2.1, u7.1.2.2.2.2.2.2.2.2.2.2.2.2.2.2.2.2.1, u7.1.2.2.2.2.2.2.2.2.2.2.2.2.2.2.2.2.2.1, u7.1.2.2.2.2.2.2.2.2.2.2.2.2.2.2.2.2.2.2.1, u7.1.2.2.2.2.2.2.2.2.2.2.2.2.2.2.2.2.2.2.2), u7.2.1, u7.2.2.1, u7.2.2.2.1, u7.2.2.2.2.1, u7.2.2.2.2.2) (by subst ex8; subst hw7; subst eb2; exact Eq.symm (Eq.trans (f_M_putOut_s nx st) (Eq.trans (if_neg c3) rfl))) hP hD d_M_putOut_118
  · replace hok := hok.1 c3
    refine lv_aload_n hx hb d_M_putOut_7 rfl (lv_at hl 0 rfl) ?_
    refine va_get (D := E.1) (ci := 5) (v := .int st.1.2.2.2.2.2.2.1) (C := R_M) (T := T_M) (N := 29) hx hb hts in_M hown hK hP 0 rfl rfl 15 (by decide) (hts _ m_625) (fun _ h9 => h9) rfl d_M_putOut_8 ?_
    refine lv_ldc (v := 134217728) hx hb hown (hts _ m_749) d_M_putOut_11 ?_
    refine lv_idiv hx hb d_M_putOut_13 (by decide) ?_
    refine lv_if_le (tgt := 66) hx hb d_M_putOut_14 (by decide) (fun c9 => ?_) (fun c9 => ?_)
    · replace hok := hok.1 c9
      refine lv_aload_n hx hb d_M_putOut_66 rfl (lv_at hl 0 rfl) ?_
      obtain ⟨hk10, hok⟩ := hok
      refine ar_usei (wr := []) hP hD hS hA [0, 1, 2, 3, 4, 5, 6, 7, 8] [] rfl rfl rfl (by decide) (ar_runV (n := 0) (As := []) (rest := []) (ci := 5) (q0 := 0) hx hb hml hown hts hP hD hS hA hK hZ (c_M_isFull l E _ mo mc sv sa wr bt s1 s2 s3 nx st  hk10) m_729 m_731 ms_26 m_7 m_732 (by decide +kernel) ⟨Nat.le_of_ble_eq_true rfl, Nat.le_of_ble_eq_true rfl⟩ [0, 1, 2, 3, 4, 5, 6, 7, 8] rfl rfl rfl rfl rfl rfl rfl hl.1 rfl (Nat.le_of_ble_eq_true rfl) d_M_putOut_67 ⟨Nat.le_of_ble_eq_true rfl, Nat.le_of_ble_eq_true rfl⟩) (fun r11 _ Hn locsn hw11 hPn hDn hSn => ?_)
      rw [← eb2] at hw11
      subst r11
      clear hP hD hS
      have hP : va_P E.1 classes [(mo, .inr (5, [.ref s1, .ref s2, .ref s3, .int st.1.1, .int (nI nx), .ref mc, .int st.1.2.1, .ref sv, .int st.1.2.2.1, .ref sa, .ref wr, .int st.1.2.2.2.1, .ref bt, .int (bI st.1.2.2.2.2.1), .int st.1.2.2.2.2.2.1, .int st.1.2.2.2.2.2.2.1, .int st.1.2.2.2.2.2.2.2.1, .int st.1.2.2.2.2.2.2.2.2.1, .int st.1.2.2.2.2.2.2.2.2.2.1, .int st.1.2.2.2.2.2.2.2.2.2.2.1, .int st.1.2.2.2.2.2.2.2.2.2.2.2.1, .int st.1.2.2.2.2.2.2.2.2.2.2.2.2.1, .long st.1.2.2.2.2.2.2.2.2.2.2.2.2.2.1, .int st.1.2.2.2.2.2.2.2.2.2.2.2.2.2.2.1, .int st.1.2.2.2.2.2.2.2.2.2.2.2.2.2.2.2.1, .int st.1.2.2.2.2.2.2.2.2.2.2.2.2.2.2.2.2.1, .int (bI st.1.2.2.2.2.2.2.2.2.2.2.2.2.2.2.2.2.2.1), .int st.1.2.2.2.2.2.2.2.2.2.2.2.2.2.2.2.2.2.2.1, .int st.1.2.2.2.2.2.2.2.2.2.2.2.2.2.2.2.2.2.2.2])), (mc, .inl (E.2.1 0, 139264, .inl st.2.1)), (sv, .inl (E.2.1 0, 393216, .inl st.2.2.1)), (sa, .inl (E.2.1 0, 1100, .inl st.2.2.2.1)), (wr, .inl (E.2.1 1, 1100, .inl st.2.2.2.2.1)), (bt, .inl (E.2.1 0, 120000, .inl st.2.2.2.2.2)), (s1, .inl (E.2.1 0, 47, .inl (zF 0))), (s2, .inl (E.2.1 0, 47, .inl (zF 1))), (s3, .inl (E.2.1 0, 47, .inl (zF 2)))] Hn := hPn
      have hD : va_D A [(mo, .inr (5, [.ref s1, .ref s2, .ref s3, .int st.1.1, .int (nI nx), .ref mc, .int st.1.2.1, .ref sv, .int st.1.2.2.1, .ref sa, .ref wr, .int st.1.2.2.2.1, .ref bt, .int (bI st.1.2.2.2.2.1), .int st.1.2.2.2.2.2.1, .int st.1.2.2.2.2.2.2.1, .int st.1.2.2.2.2.2.2.2.1, .int st.1.2.2.2.2.2.2.2.2.1, .int st.1.2.2.2.2.2.2.2.2.2.1, .int st.1.2.2.2.2.2.2.2.2.2.2.1, .int st.1.2.2.2.2.2.2.2.2.2.2.2.1, .int st.1.2.2.2.2.2.2.2.2.2.2.2.2.1, .long st.1.2.2.2.2.2.2.2.2.2.2.2.2.2.1, .int st.1.2.2.2.2.2.2.2.2.2.2.2.2.2.2.1, .int st.1.2.2.2.2.2.2.2.2.2.2.2.2.2.2.2.1, .int st.1.2.2.2.2.2.2.2.2.2.2.2.2.2.2.2.2.1, .int (bI st.1.2.2.2.2.2.2.2.2.2.2.2.2.2.2.2.2.2.1), .int st.1.2.2.2.2.2.2.2.2.2.2.2.2.2.2.2.2.2.2.1, .int st.1.2.2.2.2.2.2.2.2.2.2.2.2.2.2.2.2.2.2.2])), (mc, .inl (E.2.1 0, 139264, .inl st.2.1)), (sv, .inl (E.2.1 0, 393216, .inl st.2.2.1)), (sa, .inl (E.2.1 0, 1100, .inl st.2.2.2.1)), (wr, .inl (E.2.1 1, 1100, .inl st.2.2.2.2.1)), (bt, .inl (E.2.1 0, 120000, .inl st.2.2.2.2.2)), (s1, .inl (E.2.1 0, 47, .inl (zF 0))), (s2, .inl (E.2.1 0, 47, .inl (zF 1))), (s3, .inl (E.2.1 0, 47, .inl (zF 2)))] := hDn
      have hS := hSn
      clear hPn hDn hSn
      refine lv_istore_n (lv' := [(1, .int (bI b2)), (0, .ref mo)]) hx hb d_M_putOut_70 rfl hl (by decide) rfl (fun ls hl => ?_)
      refine lv_iload_n hx hb d_M_putOut_71 rfl (lv_at hl 0 rfl) ?_
      refine lv_if_eq (tgt := 80) hx hb d_M_putOut_72 (by decide) (fun cz => ?_) (fun cz => absurd c3 cz)
      refine lv_ldc (v := 524288) hx hb hown (hts _ m_751) d_M_putOut_80 ?_
      refine lv_istore_n (lv' := [(2, .int 524288), (1, .int (bI b2)), (0, .ref mo)]) hx hb d_M_putOut_82 rfl hl (by decide) rfl (fun ls hl => ?_)
      refine lv_aload_n hx hb d_M_putOut_83 rfl (lv_at hl 2 rfl) ?_
      refine lv_aload_n hx hb d_M_putOut_84 rfl (lv_at hl 2 rfl) ?_
      refine va_get (D := E.1) (ci := 5) (v := .int st.1.2.2.2.2.2.2.1) (C := R_M) (T := T_M) (N := 29) hx hb hts in_M hown hK hP 0 rfl rfl 15 (by decide) (hts _ m_625) (fun _ h9 => h9) rfl d_M_putOut_85 ?_
      refine lv_iload_n hx hb d_M_putOut_88 rfl (lv_at hl 0 rfl) ?_
      refine lv_idiv hx hb d_M_putOut_89 (by decide) ?_
      obtain ⟨hk12, hok⟩ := hok
      refine ar_usev (wr := []) hP hD hS hA [0, 1, 2, 3, 4, 5, 6, 7, 8] [] rfl rfl rfl (by decide) (ar_runV (n := 1) (As := [.int (st.1.2.2.2.2.2.2.1 / 524288)]) (rest := []) (ci := 5) (q0 := 0) hx hb hml hown hts hP hD hS hA hK hZ (c_M_put l E _ mo mc sv sa wr bt s1 s2 s3 nx st (st.1.2.2.2.2.2.2.1 / 524288) hk12) m_725 m_727 ms_25 m_7 m_728 (by decide +kernel) ⟨Nat.le_of_ble_eq_true rfl, Nat.le_of_ble_eq_true rfl⟩ [0, 1, 2, 3, 4, 5, 6, 7, 8] rfl rfl rfl rfl rfl rfl rfl hl.1 rfl (Nat.le_of_ble_eq_true rfl) d_M_putOut_90 ⟨Nat.le_of_ble_eq_true rfl, Nat.le_of_ble_eq_true rfl⟩) (fun u13 Hn locsn hw13 hPn hDn hSn => ?_)
      replace hok := hok u13 hw13
      clear hP hD hS
      have hP : va_P E.1 classes [(mo, .inr (5, [.ref s1, .ref s2, .ref s3, .int u13.1.1, .int (nI nx), .ref mc, .int u13.1.2.1, .ref sv, .int u13.1.2.2.1, .ref sa, .ref wr, .int u13.1.2.2.2.1, .ref bt, .int (bI u13.1.2.2.2.2.1), .int u13.1.2.2.2.2.2.1, .int u13.1.2.2.2.2.2.2.1, .int u13.1.2.2.2.2.2.2.2.1, .int u13.1.2.2.2.2.2.2.2.2.1, .int u13.1.2.2.2.2.2.2.2.2.2.1, .int u13.1.2.2.2.2.2.2.2.2.2.2.1, .int u13.1.2.2.2.2.2.2.2.2.2.2.2.1, .int u13.1.2.2.2.2.2.2.2.2.2.2.2.2.1, .long u13.1.2.2.2.2.2.2.2.2.2.2.2.2.2.1, .int u13.1.2.2.2.2.2.2.2.2.2.2.2.2.2.2.1, .int u13.1.2.2.2.2.2.2.2.2.2.2.2.2.2.2.2.1, .int u13.1.2.2.2.2.2.2.2.2.2.2.2.2.2.2.2.2.1, .int (bI u13.1.2.2.2.2.2.2.2.2.2.2.2.2.2.2.2.2.2.1), .int u13.1.2.2.2.2.2.2.2.2.2.2.2.2.2.2.2.2.2.2.1, .int u13.1.2.2.2.2.2.2.2.2.2.2.2.2.2.2.2.2.2.2.2])), (mc, .inl (E.2.1 0, 139264, .inl u13.2.1)), (sv, .inl (E.2.1 0, 393216, .inl u13.2.2.1)), (sa, .inl (E.2.1 0, 1100, .inl u13.2.2.2.1)), (wr, .inl (E.2.1 1, 1100, .inl u13.2.2.2.2.1)), (bt, .inl (E.2.1 0, 120000, .inl u13.2.2.2.2.2)), (s1, .inl (E.2.1 0, 47, .inl (zF 0))), (s2, .inl (E.2.1 0, 47, .inl (zF 1))), (s3, .inl (E.2.1 0, 47, .inl (zF 2)))] Hn := hPn
      have hD : va_D A [(mo, .inr (5, [.ref s1, .ref s2, .ref s3, .int u13.1.1, .int (nI nx), .ref mc, .int u13.1.2.1, .ref sv, .int u13.1.2.2.1, .ref sa, .ref wr, .int u13.1.2.2.2.1, .ref bt, .int (bI u13.1.2.2.2.2.1), .int u13.1.2.2.2.2.2.1, .int u13.1.2.2.2.2.2.2.1, .int u13.1.2.2.2.2.2.2.2.1, .int u13.1.2.2.2.2.2.2.2.2.1, .int u13.1.2.2.2.2.2.2.2.2.2.1, .int u13.1.2.2.2.2.2.2.2.2.2.2.1, .int u13.1.2.2.2.2.2.2.2.2.2.2.2.1, .int u13.1.2.2.2.2.2.2.2.2.2.2.2.2.1, .long u13.1.2.2.2.2.2.2.2.2.2.2.2.2.2.1, .int u13.1.2.2.2.2.2.2.2.2.2.2.2.2.2.2.1, .int u13.1.2.2.2.2.2.2.2.2.2.2.2.2.2.2.2.1, .int u13.1.2.2.2.2.2.2.2.2.2.2.2.2.2.2.2.2.1, .int (bI u13.1.2.2.2.2.2.2.2.2.2.2.2.2.2.2.2.2.2.1), .int u13.1.2.2.2.2.2.2.2.2.2.2.2.2.2.2.2.2.2.2.1, .int u13.1.2.2.2.2.2.2.2.2.2.2.2.2.2.2.2.2.2.2.2])), (mc, .inl (E.2.1 0, 139264, .inl u13.2.1)), (sv, .inl (E.2.1 0, 393216, .inl u13.2.2.1)), (sa, .inl (E.2.1 0, 1100, .inl u13.2.2.2.1)), (wr, .inl (E.2.1 1, 1100, .inl u13.2.2.2.2.1)), (bt, .inl (E.2.1 0, 120000, .inl u13.2.2.2.2.2)), (s1, .inl (E.2.1 0, 47, .inl (zF 0))), (s2, .inl (E.2.1 0, 47, .inl (zF 1))), (s3, .inl (E.2.1 0, 47, .inl (zF 2)))] := hDn
      have hS := hSn
      clear hPn hDn hSn
      refine lv_aload_n hx hb d_M_putOut_93 rfl (lv_at hl 2 rfl) ?_
      refine lv_aload_n hx hb d_M_putOut_94 rfl (lv_at hl 2 rfl) ?_
      refine va_get (D := E.1) (ci := 5) (v := .int u13.1.2.2.2.2.2.2.1) (C := R_M) (T := T_M) (N := 29) hx hb hts in_M hown hK hP 0 rfl rfl 15 (by decide) (hts _ m_625) (fun _ h9 => h9) rfl d_M_putOut_95 ?_
      refine lv_iload_n hx hb d_M_putOut_98 rfl (lv_at hl 0 rfl) ?_
      refine ar_irem hx hb d_M_putOut_99 (by decide) ?_
      refine lv_topi (fun x14 ex14 => ?_)
      replace hok := hok x14 ex14
      refine va_put (D := E.1) (ci := 5) (v := .int x14) (ty := .int) (C := R_M) (T := T_M) (N := 29) hx hb hts in_M t_M t_M_ok n_M hown hK hP hD hS 0 rfl rfl 15 (by decide) (hts _ m_625) (fun _ h9 => h9) rfl (by decide +kernel) rfl rfl (Nat.le_of_ble_eq_true rfl) d_M_putOut_100 (fun Hn locsn hPn hDn hSn => ?_)
      clear hP hD hS
      have hP : va_P E.1 classes [(mo, .inr (5, [.ref s1, .ref s2, .ref s3, .int u13.1.1, .int (nI nx), .ref mc, .int u13.1.2.1, .ref sv, .int u13.1.2.2.1, .ref sa, .ref wr, .int u13.1.2.2.2.1, .ref bt, .int (bI u13.1.2.2.2.2.1), .int u13.1.2.2.2.2.2.1, .int x14, .int u13.1.2.2.2.2.2.2.2.1, .int u13.1.2.2.2.2.2.2.2.2.1, .int u13.1.2.2.2.2.2.2.2.2.2.1, .int u13.1.2.2.2.2.2.2.2.2.2.2.1, .int u13.1.2.2.2.2.2.2.2.2.2.2.2.1, .int u13.1.2.2.2.2.2.2.2.2.2.2.2.2.1, .long u13.1.2.2.2.2.2.2.2.2.2.2.2.2.2.1, .int u13.1.2.2.2.2.2.2.2.2.2.2.2.2.2.2.1, .int u13.1.2.2.2.2.2.2.2.2.2.2.2.2.2.2.2.1, .int u13.1.2.2.2.2.2.2.2.2.2.2.2.2.2.2.2.2.1, .int (bI u13.1.2.2.2.2.2.2.2.2.2.2.2.2.2.2.2.2.2.1), .int u13.1.2.2.2.2.2.2.2.2.2.2.2.2.2.2.2.2.2.2.1, .int u13.1.2.2.2.2.2.2.2.2.2.2.2.2.2.2.2.2.2.2.2])), (mc, .inl (E.2.1 0, 139264, .inl u13.2.1)), (sv, .inl (E.2.1 0, 393216, .inl u13.2.2.1)), (sa, .inl (E.2.1 0, 1100, .inl u13.2.2.2.1)), (wr, .inl (E.2.1 1, 1100, .inl u13.2.2.2.2.1)), (bt, .inl (E.2.1 0, 120000, .inl u13.2.2.2.2.2)), (s1, .inl (E.2.1 0, 47, .inl (zF 0))), (s2, .inl (E.2.1 0, 47, .inl (zF 1))), (s3, .inl (E.2.1 0, 47, .inl (zF 2)))] Hn := hPn
      have hD : va_D A [(mo, .inr (5, [.ref s1, .ref s2, .ref s3, .int u13.1.1, .int (nI nx), .ref mc, .int u13.1.2.1, .ref sv, .int u13.1.2.2.1, .ref sa, .ref wr, .int u13.1.2.2.2.1, .ref bt, .int (bI u13.1.2.2.2.2.1), .int u13.1.2.2.2.2.2.1, .int x14, .int u13.1.2.2.2.2.2.2.2.1, .int u13.1.2.2.2.2.2.2.2.2.1, .int u13.1.2.2.2.2.2.2.2.2.2.1, .int u13.1.2.2.2.2.2.2.2.2.2.2.1, .int u13.1.2.2.2.2.2.2.2.2.2.2.2.1, .int u13.1.2.2.2.2.2.2.2.2.2.2.2.2.1, .long u13.1.2.2.2.2.2.2.2.2.2.2.2.2.2.1, .int u13.1.2.2.2.2.2.2.2.2.2.2.2.2.2.2.1, .int u13.1.2.2.2.2.2.2.2.2.2.2.2.2.2.2.2.1, .int u13.1.2.2.2.2.2.2.2.2.2.2.2.2.2.2.2.2.1, .int (bI u13.1.2.2.2.2.2.2.2.2.2.2.2.2.2.2.2.2.2.1), .int u13.1.2.2.2.2.2.2.2.2.2.2.2.2.2.2.2.2.2.2.1, .int u13.1.2.2.2.2.2.2.2.2.2.2.2.2.2.2.2.2.2.2.2])), (mc, .inl (E.2.1 0, 139264, .inl u13.2.1)), (sv, .inl (E.2.1 0, 393216, .inl u13.2.2.1)), (sa, .inl (E.2.1 0, 1100, .inl u13.2.2.2.1)), (wr, .inl (E.2.1 1, 1100, .inl u13.2.2.2.2.1)), (bt, .inl (E.2.1 0, 120000, .inl u13.2.2.2.2.2)), (s1, .inl (E.2.1 0, 47, .inl (zF 0))), (s2, .inl (E.2.1 0, 47, .inl (zF 1))), (s3, .inl (E.2.1 0, 47, .inl (zF 2)))] := hDn
      have hS := hSn
      clear hPn hDn hSn
      refine lv_aload_n hx hb d_M_putOut_103 rfl (lv_at hl 2 rfl) ?_
      refine lv_iload_n hx hb d_M_putOut_104 rfl (lv_at hl 1 rfl) ?_
      refine lv_if_eq (tgt := 113) hx hb d_M_putOut_105 (by decide) (fun cz => ?_) (fun cz => absurd c3 cz)
      refine lv_bipush (v := 8) hx hb d_M_putOut_113 (by decide) ?_
      refine va_put (D := E.1) (ci := 5) (v := .int 8) (ty := .int) (C := R_M) (T := T_M) (N := 29) hx hb hts in_M t_M t_M_ok n_M hown hK hP hD hS 0 rfl rfl 16 (by decide) (hts _ m_626) (fun _ h9 => h9) rfl (by decide +kernel) rfl rfl (Nat.le_of_ble_eq_true rfl) d_M_putOut_115 (fun Hn locsn hPn hDn hSn => ?_)
      clear hP hD hS
      have hP : va_P E.1 classes [(mo, .inr (5, [.ref s1, .ref s2, .ref s3, .int u13.1.1, .int (nI nx), .ref mc, .int u13.1.2.1, .ref sv, .int u13.1.2.2.1, .ref sa, .ref wr, .int u13.1.2.2.2.1, .ref bt, .int (bI u13.1.2.2.2.2.1), .int u13.1.2.2.2.2.2.1, .int x14, .int 8, .int u13.1.2.2.2.2.2.2.2.2.1, .int u13.1.2.2.2.2.2.2.2.2.2.1, .int u13.1.2.2.2.2.2.2.2.2.2.2.1, .int u13.1.2.2.2.2.2.2.2.2.2.2.2.1, .int u13.1.2.2.2.2.2.2.2.2.2.2.2.2.1, .long u13.1.2.2.2.2.2.2.2.2.2.2.2.2.2.1, .int u13.1.2.2.2.2.2.2.2.2.2.2.2.2.2.2.1, .int u13.1.2.2.2.2.2.2.2.2.2.2.2.2.2.2.2.1, .int u13.1.2.2.2.2.2.2.2.2.2.2.2.2.2.2.2.2.1, .int (bI u13.1.2.2.2.2.2.2.2.2.2.2.2.2.2.2.2.2.2.1), .int u13.1.2.2.2.2.2.2.2.2.2.2.2.2.2.2.2.2.2.2.1, .int u13.1.2.2.2.2.2.2.2.2.2.2.2.2.2.2.2.2.2.2.2])), (mc, .inl (E.2.1 0, 139264, .inl u13.2.1)), (sv, .inl (E.2.1 0, 393216, .inl u13.2.2.1)), (sa, .inl (E.2.1 0, 1100, .inl u13.2.2.2.1)), (wr, .inl (E.2.1 1, 1100, .inl u13.2.2.2.2.1)), (bt, .inl (E.2.1 0, 120000, .inl u13.2.2.2.2.2)), (s1, .inl (E.2.1 0, 47, .inl (zF 0))), (s2, .inl (E.2.1 0, 47, .inl (zF 1))), (s3, .inl (E.2.1 0, 47, .inl (zF 2)))] Hn := hPn
      have hD : va_D A [(mo, .inr (5, [.ref s1, .ref s2, .ref s3, .int u13.1.1, .int (nI nx), .ref mc, .int u13.1.2.1, .ref sv, .int u13.1.2.2.1, .ref sa, .ref wr, .int u13.1.2.2.2.1, .ref bt, .int (bI u13.1.2.2.2.2.1), .int u13.1.2.2.2.2.2.1, .int x14, .int 8, .int u13.1.2.2.2.2.2.2.2.2.1, .int u13.1.2.2.2.2.2.2.2.2.2.1, .int u13.1.2.2.2.2.2.2.2.2.2.2.1, .int u13.1.2.2.2.2.2.2.2.2.2.2.2.1, .int u13.1.2.2.2.2.2.2.2.2.2.2.2.2.1, .long u13.1.2.2.2.2.2.2.2.2.2.2.2.2.2.1, .int u13.1.2.2.2.2.2.2.2.2.2.2.2.2.2.2.1, .int u13.1.2.2.2.2.2.2.2.2.2.2.2.2.2.2.2.1, .int u13.1.2.2.2.2.2.2.2.2.2.2.2.2.2.2.2.2.1, .int (bI u13.1.2.2.2.2.2.2.2.2.2.2.2.2.2.2.2.2.2.1), .int u13.1.2.2.2.2.2.2.2.2.2.2.2.2.2.2.2.2.2.2.1, .int u13.1.2.2.2.2.2.2.2.2.2.2.2.2.2.2.2.2.2.2.2])), (mc, .inl (E.2.1 0, 139264, .inl u13.2.1)), (sv, .inl (E.2.1 0, 393216, .inl u13.2.2.1)), (sa, .inl (E.2.1 0, 1100, .inl u13.2.2.2.1)), (wr, .inl (E.2.1 1, 1100, .inl u13.2.2.2.2.1)), (bt, .inl (E.2.1 0, 120000, .inl u13.2.2.2.2.2)), (s1, .inl (E.2.1 0, 47, .inl (zF 0))), (s2, .inl (E.2.1 0, 47, .inl (zF 1))), (s3, .inl (E.2.1 0, 47, .inl (zF 2)))] := hDn
      have hS := hSn
      clear hPn hDn hSn
      exact ar_vret hx hb hr hlocks hK hS ((u13.1.1, u13.1.2.1, u13.1.2.2.1, u13.1.2.2.2.1, u13.1.2.2.2.2.1, u13.1.2.2.2.2.2.1, x14, 8, u13.1.2.2.2.2.2.2.2.2.1, u13.1.2.2.2.2.2.2.2.2.2.1, u13.1.2.2.2.2.2.2.2.2.2.2.1, u13.1.2.2.2.2.2.2.2.2.2.2.2.1, u13.1.2.2.2.2.2.2.2.2.2.2.2.2.1, u13.1.2.2.2.2.2.2.2.2.2.2.2.2.2.1, u13.1.2.2.2.2.2.2.2.2.2.2.2.2.2.2.1, u13.1.2.2.2.2.2.2.2.2.2.2.2.2.2.2.2.1, u13.1.2.2.2.2.2.2.2.2.2.2.2.2.2.2.2.2.1, u13.1.2.2.2.2.2.2.2.2.2.2.2.2.2.2.2.2.2.1, u13.1.2.2.2.2.2.2.2.2.2.2.2.2.2.2.2.2.2.2.1, u13.1.2.2.2.2.2.2.2.2.2.2.2.2.2.2.2.2.2.2.2), u13.2.1, u13.2.2.1, u13.2.2.2.1, u13.2.2.2.2.1, u13.2.2.2.2.2) (by subst ex14; subst hw13; subst eb2; exact Eq.symm (Eq.trans (f_M_putOut_s nx st) (Eq.trans (if_pos c3) (Eq.trans (if_pos c9) rfl)))) hP hD d_M_putOut_118
    · replace hok := hok.2 c9
      refine lv_aload_n hx hb d_M_putOut_17 rfl (lv_at hl 0 rfl) ?_
      refine va_get (D := E.1) (ci := 5) (v := .ref bt) (C := R_M) (T := T_M) (N := 29) hx hb hts in_M hown hK hP 0 rfl rfl 12 (by decide) (hts _ m_622) (fun _ h9 => h9) rfl d_M_putOut_18 ?_
      refine lv_aload_n hx hb d_M_putOut_21 rfl (lv_at hl 0 rfl) ?_
      refine va_get (D := E.1) (ci := 5) (v := .int st.1.2.2.2.1) (C := R_M) (T := T_M) (N := 29) hx hb hts in_M hown hK hP 0 rfl rfl 11 (by decide) (hts _ m_621) (fun _ h9 => h9) rfl d_M_putOut_22 ?_
      refine lv_iconst (v := 1) hx hb d_M_putOut_25 (by decide) ?_
      refine lv_isub hx hb d_M_putOut_26 ?_
      refine lv_aload_n hx hb d_M_putOut_27 rfl (lv_at hl 0 rfl) ?_
      refine va_get (D := E.1) (ci := 5) (v := .ref bt) (C := R_M) (T := T_M) (N := 29) hx hb hts in_M hown hK hP 0 rfl rfl 12 (by decide) (hts _ m_622) (fun _ h9 => h9) rfl d_M_putOut_28 ?_
      refine lv_aload_n hx hb d_M_putOut_31 rfl (lv_at hl 0 rfl) ?_
      refine va_get (D := E.1) (ci := 5) (v := .int st.1.2.2.2.1) (C := R_M) (T := T_M) (N := 29) hx hb hts in_M hown hK hP 0 rfl rfl 11 (by decide) (hts _ m_621) (fun _ h9 => h9) rfl d_M_putOut_32 ?_
      refine lv_iconst (v := 1) hx hb d_M_putOut_35 (by decide) ?_
      refine lv_isub hx hb d_M_putOut_36 ?_
      obtain ⟨hk15, hok⟩ := hok
      refine va_iald (D := E.1) hx hb hK hP 5 0 rfl rfl hk15 d_M_putOut_37 ?_
      refine lv_iconst (v := 1) hx hb d_M_putOut_38 (by decide) ?_
      refine lv_iadd hx hb d_M_putOut_39 ?_
      refine lv_topi (fun x16 ex16 => ?_)
      replace hok := hok x16 ex16
      obtain ⟨hk17, hok⟩ := hok
      refine va_iast (D := E.1) (x := x16) hx hb hK hP hD hS 5 0 rfl rfl hk17 d_M_putOut_40 (fun Hn locsn hPn hDn hSn => ?_)
      clear hP hD hS
      have hP : va_P E.1 classes [(mo, .inr (5, [.ref s1, .ref s2, .ref s3, .int st.1.1, .int (nI nx), .ref mc, .int st.1.2.1, .ref sv, .int st.1.2.2.1, .ref sa, .ref wr, .int st.1.2.2.2.1, .ref bt, .int (bI st.1.2.2.2.2.1), .int st.1.2.2.2.2.2.1, .int st.1.2.2.2.2.2.2.1, .int st.1.2.2.2.2.2.2.2.1, .int st.1.2.2.2.2.2.2.2.2.1, .int st.1.2.2.2.2.2.2.2.2.2.1, .int st.1.2.2.2.2.2.2.2.2.2.2.1, .int st.1.2.2.2.2.2.2.2.2.2.2.2.1, .int st.1.2.2.2.2.2.2.2.2.2.2.2.2.1, .long st.1.2.2.2.2.2.2.2.2.2.2.2.2.2.1, .int st.1.2.2.2.2.2.2.2.2.2.2.2.2.2.2.1, .int st.1.2.2.2.2.2.2.2.2.2.2.2.2.2.2.2.1, .int st.1.2.2.2.2.2.2.2.2.2.2.2.2.2.2.2.2.1, .int (bI st.1.2.2.2.2.2.2.2.2.2.2.2.2.2.2.2.2.2.1), .int st.1.2.2.2.2.2.2.2.2.2.2.2.2.2.2.2.2.2.2.1, .int st.1.2.2.2.2.2.2.2.2.2.2.2.2.2.2.2.2.2.2.2])), (mc, .inl (E.2.1 0, 139264, .inl st.2.1)), (sv, .inl (E.2.1 0, 393216, .inl st.2.2.1)), (sa, .inl (E.2.1 0, 1100, .inl st.2.2.2.1)), (wr, .inl (E.2.1 1, 1100, .inl st.2.2.2.2.1)), (bt, .inl (E.2.1 0, 120000, .inl (upd st.2.2.2.2.2 (Int32.toNatClampNeg (st.1.2.2.2.1 - 1)) x16))), (s1, .inl (E.2.1 0, 47, .inl (zF 0))), (s2, .inl (E.2.1 0, 47, .inl (zF 1))), (s3, .inl (E.2.1 0, 47, .inl (zF 2)))] Hn := hPn
      have hD : va_D A [(mo, .inr (5, [.ref s1, .ref s2, .ref s3, .int st.1.1, .int (nI nx), .ref mc, .int st.1.2.1, .ref sv, .int st.1.2.2.1, .ref sa, .ref wr, .int st.1.2.2.2.1, .ref bt, .int (bI st.1.2.2.2.2.1), .int st.1.2.2.2.2.2.1, .int st.1.2.2.2.2.2.2.1, .int st.1.2.2.2.2.2.2.2.1, .int st.1.2.2.2.2.2.2.2.2.1, .int st.1.2.2.2.2.2.2.2.2.2.1, .int st.1.2.2.2.2.2.2.2.2.2.2.1, .int st.1.2.2.2.2.2.2.2.2.2.2.2.1, .int st.1.2.2.2.2.2.2.2.2.2.2.2.2.1, .long st.1.2.2.2.2.2.2.2.2.2.2.2.2.2.1, .int st.1.2.2.2.2.2.2.2.2.2.2.2.2.2.2.1, .int st.1.2.2.2.2.2.2.2.2.2.2.2.2.2.2.2.1, .int st.1.2.2.2.2.2.2.2.2.2.2.2.2.2.2.2.2.1, .int (bI st.1.2.2.2.2.2.2.2.2.2.2.2.2.2.2.2.2.2.1), .int st.1.2.2.2.2.2.2.2.2.2.2.2.2.2.2.2.2.2.2.1, .int st.1.2.2.2.2.2.2.2.2.2.2.2.2.2.2.2.2.2.2.2])), (mc, .inl (E.2.1 0, 139264, .inl st.2.1)), (sv, .inl (E.2.1 0, 393216, .inl st.2.2.1)), (sa, .inl (E.2.1 0, 1100, .inl st.2.2.2.1)), (wr, .inl (E.2.1 1, 1100, .inl st.2.2.2.2.1)), (bt, .inl (E.2.1 0, 120000, .inl (upd st.2.2.2.2.2 (Int32.toNatClampNeg (st.1.2.2.2.1 - 1)) x16))), (s1, .inl (E.2.1 0, 47, .inl (zF 0))), (s2, .inl (E.2.1 0, 47, .inl (zF 1))), (s3, .inl (E.2.1 0, 47, .inl (zF 2)))] := hDn
      have hS := hSn
      clear hPn hDn hSn
      refine lv_aload_n hx hb d_M_putOut_41 rfl (lv_at hl 0 rfl) ?_
      refine lv_aload_n hx hb d_M_putOut_42 rfl (lv_at hl 0 rfl) ?_
      obtain ⟨hk19, hok⟩ := hok
      refine ar_usei (wr := []) hP hD hS hA [0, 1, 2, 3, 4, 5, 6, 7, 8] [] rfl rfl rfl (by decide) (ar_runV (n := 0) (As := []) (rest := [.ref mo]) (ci := 5) (q0 := 0) hx hb hml hown hts hP hD hS hA hK hZ (c_M_isFull l E _ mo mc sv sa wr bt s1 s2 s3 nx (st.1, st.2.1, st.2.2.1, st.2.2.2.1, st.2.2.2.2.1, (upd st.2.2.2.2.2 (Int32.toNatClampNeg (st.1.2.2.2.1 - 1)) x16))  hk19) m_729 m_731 ms_26 m_7 m_732 (by decide +kernel) ⟨Nat.le_of_ble_eq_true rfl, Nat.le_of_ble_eq_true rfl⟩ [0, 1, 2, 3, 4, 5, 6, 7, 8] rfl rfl rfl rfl rfl rfl rfl hl.1 rfl (Nat.le_of_ble_eq_true rfl) d_M_putOut_43 ⟨Nat.le_of_ble_eq_true rfl, Nat.le_of_ble_eq_true rfl⟩) (fun r20 _ Hn locsn hw20 hPn hDn hSn => ?_)
      obtain ⟨b20, eb20⟩ : ∃ b : Bool, b = f_M_isFull nx  (st.1, st.2.1, st.2.2.1, st.2.2.2.1, st.2.2.2.2.1, (upd st.2.2.2.2.2 (Int32.toNatClampNeg (st.1.2.2.2.1 - 1)) x16)) := ⟨_, rfl⟩
      rw [← eb20] at hw20
      subst hw20
      replace hok := hok b20 eb20
      clear hP hD hS
      have hP : va_P E.1 classes [(mo, .inr (5, [.ref s1, .ref s2, .ref s3, .int st.1.1, .int (nI nx), .ref mc, .int st.1.2.1, .ref sv, .int st.1.2.2.1, .ref sa, .ref wr, .int st.1.2.2.2.1, .ref bt, .int (bI st.1.2.2.2.2.1), .int st.1.2.2.2.2.2.1, .int st.1.2.2.2.2.2.2.1, .int st.1.2.2.2.2.2.2.2.1, .int st.1.2.2.2.2.2.2.2.2.1, .int st.1.2.2.2.2.2.2.2.2.2.1, .int st.1.2.2.2.2.2.2.2.2.2.2.1, .int st.1.2.2.2.2.2.2.2.2.2.2.2.1, .int st.1.2.2.2.2.2.2.2.2.2.2.2.2.1, .long st.1.2.2.2.2.2.2.2.2.2.2.2.2.2.1, .int st.1.2.2.2.2.2.2.2.2.2.2.2.2.2.2.1, .int st.1.2.2.2.2.2.2.2.2.2.2.2.2.2.2.2.1, .int st.1.2.2.2.2.2.2.2.2.2.2.2.2.2.2.2.2.1, .int (bI st.1.2.2.2.2.2.2.2.2.2.2.2.2.2.2.2.2.2.1), .int st.1.2.2.2.2.2.2.2.2.2.2.2.2.2.2.2.2.2.2.1, .int st.1.2.2.2.2.2.2.2.2.2.2.2.2.2.2.2.2.2.2.2])), (mc, .inl (E.2.1 0, 139264, .inl st.2.1)), (sv, .inl (E.2.1 0, 393216, .inl st.2.2.1)), (sa, .inl (E.2.1 0, 1100, .inl st.2.2.2.1)), (wr, .inl (E.2.1 1, 1100, .inl st.2.2.2.2.1)), (bt, .inl (E.2.1 0, 120000, .inl (upd st.2.2.2.2.2 (Int32.toNatClampNeg (st.1.2.2.2.1 - 1)) x16))), (s1, .inl (E.2.1 0, 47, .inl (zF 0))), (s2, .inl (E.2.1 0, 47, .inl (zF 1))), (s3, .inl (E.2.1 0, 47, .inl (zF 2)))] Hn := hPn
      have hD : va_D A [(mo, .inr (5, [.ref s1, .ref s2, .ref s3, .int st.1.1, .int (nI nx), .ref mc, .int st.1.2.1, .ref sv, .int st.1.2.2.1, .ref sa, .ref wr, .int st.1.2.2.2.1, .ref bt, .int (bI st.1.2.2.2.2.1), .int st.1.2.2.2.2.2.1, .int st.1.2.2.2.2.2.2.1, .int st.1.2.2.2.2.2.2.2.1, .int st.1.2.2.2.2.2.2.2.2.1, .int st.1.2.2.2.2.2.2.2.2.2.1, .int st.1.2.2.2.2.2.2.2.2.2.2.1, .int st.1.2.2.2.2.2.2.2.2.2.2.2.1, .int st.1.2.2.2.2.2.2.2.2.2.2.2.2.1, .long st.1.2.2.2.2.2.2.2.2.2.2.2.2.2.1, .int st.1.2.2.2.2.2.2.2.2.2.2.2.2.2.2.1, .int st.1.2.2.2.2.2.2.2.2.2.2.2.2.2.2.2.1, .int st.1.2.2.2.2.2.2.2.2.2.2.2.2.2.2.2.2.1, .int (bI st.1.2.2.2.2.2.2.2.2.2.2.2.2.2.2.2.2.2.1), .int st.1.2.2.2.2.2.2.2.2.2.2.2.2.2.2.2.2.2.2.1, .int st.1.2.2.2.2.2.2.2.2.2.2.2.2.2.2.2.2.2.2.2])), (mc, .inl (E.2.1 0, 139264, .inl st.2.1)), (sv, .inl (E.2.1 0, 393216, .inl st.2.2.1)), (sa, .inl (E.2.1 0, 1100, .inl st.2.2.2.1)), (wr, .inl (E.2.1 1, 1100, .inl st.2.2.2.2.1)), (bt, .inl (E.2.1 0, 120000, .inl (upd st.2.2.2.2.2 (Int32.toNatClampNeg (st.1.2.2.2.1 - 1)) x16))), (s1, .inl (E.2.1 0, 47, .inl (zF 0))), (s2, .inl (E.2.1 0, 47, .inl (zF 1))), (s3, .inl (E.2.1 0, 47, .inl (zF 2)))] := hDn
      have hS := hSn
      clear hPn hDn hSn
      refine lv_if_eq (tgt := 59) hx hb d_M_putOut_46 (by decide) (fun c21 => ?_) (fun c21 => ?_)
      · replace hok := hok.1 c21
        refine lv_aload_n hx hb d_M_putOut_59 rfl (lv_at hl 0 rfl) ?_
        refine va_get (D := E.1) (ci := 5) (v := .int st.1.2.2.2.2.2.2.1) (C := R_M) (T := T_M) (N := 29) hx hb hts in_M hown hK hP 0 rfl rfl 15 (by decide) (hts _ m_625) (fun _ h9 => h9) rfl d_M_putOut_60 ?_
        refine va_put (D := E.1) (ci := 5) (v := .int st.1.2.2.2.2.2.2.1) (ty := .int) (C := R_M) (T := T_M) (N := 29) hx hb hts in_M t_M t_M_ok n_M hown hK hP hD hS 0 rfl rfl 15 (by decide) (hts _ m_625) (fun _ h9 => h9) rfl (by decide +kernel) rfl rfl (Nat.le_of_ble_eq_true rfl) d_M_putOut_63 (fun Hn locsn hPn hDn hSn => ?_)
        clear hP hD hS
        have hP : va_P E.1 classes [(mo, .inr (5, [.ref s1, .ref s2, .ref s3, .int st.1.1, .int (nI nx), .ref mc, .int st.1.2.1, .ref sv, .int st.1.2.2.1, .ref sa, .ref wr, .int st.1.2.2.2.1, .ref bt, .int (bI st.1.2.2.2.2.1), .int st.1.2.2.2.2.2.1, .int st.1.2.2.2.2.2.2.1, .int st.1.2.2.2.2.2.2.2.1, .int st.1.2.2.2.2.2.2.2.2.1, .int st.1.2.2.2.2.2.2.2.2.2.1, .int st.1.2.2.2.2.2.2.2.2.2.2.1, .int st.1.2.2.2.2.2.2.2.2.2.2.2.1, .int st.1.2.2.2.2.2.2.2.2.2.2.2.2.1, .long st.1.2.2.2.2.2.2.2.2.2.2.2.2.2.1, .int st.1.2.2.2.2.2.2.2.2.2.2.2.2.2.2.1, .int st.1.2.2.2.2.2.2.2.2.2.2.2.2.2.2.2.1, .int st.1.2.2.2.2.2.2.2.2.2.2.2.2.2.2.2.2.1, .int (bI st.1.2.2.2.2.2.2.2.2.2.2.2.2.2.2.2.2.2.1), .int st.1.2.2.2.2.2.2.2.2.2.2.2.2.2.2.2.2.2.2.1, .int st.1.2.2.2.2.2.2.2.2.2.2.2.2.2.2.2.2.2.2.2])), (mc, .inl (E.2.1 0, 139264, .inl st.2.1)), (sv, .inl (E.2.1 0, 393216, .inl st.2.2.1)), (sa, .inl (E.2.1 0, 1100, .inl st.2.2.2.1)), (wr, .inl (E.2.1 1, 1100, .inl st.2.2.2.2.1)), (bt, .inl (E.2.1 0, 120000, .inl (upd st.2.2.2.2.2 (Int32.toNatClampNeg (st.1.2.2.2.1 - 1)) x16))), (s1, .inl (E.2.1 0, 47, .inl (zF 0))), (s2, .inl (E.2.1 0, 47, .inl (zF 1))), (s3, .inl (E.2.1 0, 47, .inl (zF 2)))] Hn := hPn
        have hD : va_D A [(mo, .inr (5, [.ref s1, .ref s2, .ref s3, .int st.1.1, .int (nI nx), .ref mc, .int st.1.2.1, .ref sv, .int st.1.2.2.1, .ref sa, .ref wr, .int st.1.2.2.2.1, .ref bt, .int (bI st.1.2.2.2.2.1), .int st.1.2.2.2.2.2.1, .int st.1.2.2.2.2.2.2.1, .int st.1.2.2.2.2.2.2.2.1, .int st.1.2.2.2.2.2.2.2.2.1, .int st.1.2.2.2.2.2.2.2.2.2.1, .int st.1.2.2.2.2.2.2.2.2.2.2.1, .int st.1.2.2.2.2.2.2.2.2.2.2.2.1, .int st.1.2.2.2.2.2.2.2.2.2.2.2.2.1, .long st.1.2.2.2.2.2.2.2.2.2.2.2.2.2.1, .int st.1.2.2.2.2.2.2.2.2.2.2.2.2.2.2.1, .int st.1.2.2.2.2.2.2.2.2.2.2.2.2.2.2.2.1, .int st.1.2.2.2.2.2.2.2.2.2.2.2.2.2.2.2.2.1, .int (bI st.1.2.2.2.2.2.2.2.2.2.2.2.2.2.2.2.2.2.1), .int st.1.2.2.2.2.2.2.2.2.2.2.2.2.2.2.2.2.2.2.1, .int st.1.2.2.2.2.2.2.2.2.2.2.2.2.2.2.2.2.2.2.2])), (mc, .inl (E.2.1 0, 139264, .inl st.2.1)), (sv, .inl (E.2.1 0, 393216, .inl st.2.2.1)), (sa, .inl (E.2.1 0, 1100, .inl st.2.2.2.1)), (wr, .inl (E.2.1 1, 1100, .inl st.2.2.2.2.1)), (bt, .inl (E.2.1 0, 120000, .inl (upd st.2.2.2.2.2 (Int32.toNatClampNeg (st.1.2.2.2.1 - 1)) x16))), (s1, .inl (E.2.1 0, 47, .inl (zF 0))), (s2, .inl (E.2.1 0, 47, .inl (zF 1))), (s3, .inl (E.2.1 0, 47, .inl (zF 2)))] := hDn
        have hS := hSn
        clear hPn hDn hSn
        refine lv_aload_n hx hb d_M_putOut_66 rfl (lv_at hl 0 rfl) ?_
        obtain ⟨hk22, hok⟩ := hok
        refine ar_usei (wr := []) hP hD hS hA [0, 1, 2, 3, 4, 5, 6, 7, 8] [] rfl rfl rfl (by decide) (ar_runV (n := 0) (As := []) (rest := []) (ci := 5) (q0 := 0) hx hb hml hown hts hP hD hS hA hK hZ (c_M_isFull l E _ mo mc sv sa wr bt s1 s2 s3 nx (st.1, st.2.1, st.2.2.1, st.2.2.2.1, st.2.2.2.2.1, (upd st.2.2.2.2.2 (Int32.toNatClampNeg (st.1.2.2.2.1 - 1)) x16))  hk22) m_729 m_731 ms_26 m_7 m_732 (by decide +kernel) ⟨Nat.le_of_ble_eq_true rfl, Nat.le_of_ble_eq_true rfl⟩ [0, 1, 2, 3, 4, 5, 6, 7, 8] rfl rfl rfl rfl rfl rfl rfl hl.1 rfl (Nat.le_of_ble_eq_true rfl) d_M_putOut_67 ⟨Nat.le_of_ble_eq_true rfl, Nat.le_of_ble_eq_true rfl⟩) (fun r23 _ Hn locsn hw23 hPn hDn hSn => ?_)
        rw [← eb20] at hw23
        subst r23
        clear hP hD hS
        have hP : va_P E.1 classes [(mo, .inr (5, [.ref s1, .ref s2, .ref s3, .int st.1.1, .int (nI nx), .ref mc, .int st.1.2.1, .ref sv, .int st.1.2.2.1, .ref sa, .ref wr, .int st.1.2.2.2.1, .ref bt, .int (bI st.1.2.2.2.2.1), .int st.1.2.2.2.2.2.1, .int st.1.2.2.2.2.2.2.1, .int st.1.2.2.2.2.2.2.2.1, .int st.1.2.2.2.2.2.2.2.2.1, .int st.1.2.2.2.2.2.2.2.2.2.1, .int st.1.2.2.2.2.2.2.2.2.2.2.1, .int st.1.2.2.2.2.2.2.2.2.2.2.2.1, .int st.1.2.2.2.2.2.2.2.2.2.2.2.2.1, .long st.1.2.2.2.2.2.2.2.2.2.2.2.2.2.1, .int st.1.2.2.2.2.2.2.2.2.2.2.2.2.2.2.1, .int st.1.2.2.2.2.2.2.2.2.2.2.2.2.2.2.2.1, .int st.1.2.2.2.2.2.2.2.2.2.2.2.2.2.2.2.2.1, .int (bI st.1.2.2.2.2.2.2.2.2.2.2.2.2.2.2.2.2.2.1), .int st.1.2.2.2.2.2.2.2.2.2.2.2.2.2.2.2.2.2.2.1, .int st.1.2.2.2.2.2.2.2.2.2.2.2.2.2.2.2.2.2.2.2])), (mc, .inl (E.2.1 0, 139264, .inl st.2.1)), (sv, .inl (E.2.1 0, 393216, .inl st.2.2.1)), (sa, .inl (E.2.1 0, 1100, .inl st.2.2.2.1)), (wr, .inl (E.2.1 1, 1100, .inl st.2.2.2.2.1)), (bt, .inl (E.2.1 0, 120000, .inl (upd st.2.2.2.2.2 (Int32.toNatClampNeg (st.1.2.2.2.1 - 1)) x16))), (s1, .inl (E.2.1 0, 47, .inl (zF 0))), (s2, .inl (E.2.1 0, 47, .inl (zF 1))), (s3, .inl (E.2.1 0, 47, .inl (zF 2)))] Hn := hPn
        have hD : va_D A [(mo, .inr (5, [.ref s1, .ref s2, .ref s3, .int st.1.1, .int (nI nx), .ref mc, .int st.1.2.1, .ref sv, .int st.1.2.2.1, .ref sa, .ref wr, .int st.1.2.2.2.1, .ref bt, .int (bI st.1.2.2.2.2.1), .int st.1.2.2.2.2.2.1, .int st.1.2.2.2.2.2.2.1, .int st.1.2.2.2.2.2.2.2.1, .int st.1.2.2.2.2.2.2.2.2.1, .int st.1.2.2.2.2.2.2.2.2.2.1, .int st.1.2.2.2.2.2.2.2.2.2.2.1, .int st.1.2.2.2.2.2.2.2.2.2.2.2.1, .int st.1.2.2.2.2.2.2.2.2.2.2.2.2.1, .long st.1.2.2.2.2.2.2.2.2.2.2.2.2.2.1, .int st.1.2.2.2.2.2.2.2.2.2.2.2.2.2.2.1, .int st.1.2.2.2.2.2.2.2.2.2.2.2.2.2.2.2.1, .int st.1.2.2.2.2.2.2.2.2.2.2.2.2.2.2.2.2.1, .int (bI st.1.2.2.2.2.2.2.2.2.2.2.2.2.2.2.2.2.2.1), .int st.1.2.2.2.2.2.2.2.2.2.2.2.2.2.2.2.2.2.2.1, .int st.1.2.2.2.2.2.2.2.2.2.2.2.2.2.2.2.2.2.2.2])), (mc, .inl (E.2.1 0, 139264, .inl st.2.1)), (sv, .inl (E.2.1 0, 393216, .inl st.2.2.1)), (sa, .inl (E.2.1 0, 1100, .inl st.2.2.2.1)), (wr, .inl (E.2.1 1, 1100, .inl st.2.2.2.2.1)), (bt, .inl (E.2.1 0, 120000, .inl (upd st.2.2.2.2.2 (Int32.toNatClampNeg (st.1.2.2.2.1 - 1)) x16))), (s1, .inl (E.2.1 0, 47, .inl (zF 0))), (s2, .inl (E.2.1 0, 47, .inl (zF 1))), (s3, .inl (E.2.1 0, 47, .inl (zF 2)))] := hDn
        have hS := hSn
        clear hPn hDn hSn
        refine lv_istore_n (lv' := [(1, .int (bI b20)), (0, .ref mo)]) hx hb d_M_putOut_70 rfl hl (by decide) rfl (fun ls hl => ?_)
        refine lv_iload_n hx hb d_M_putOut_71 rfl (lv_at hl 0 rfl) ?_
        refine lv_if_eq (tgt := 80) hx hb d_M_putOut_72 (by decide) (fun cz => ?_) (fun cz => absurd c21 cz)
        refine lv_ldc (v := 524288) hx hb hown (hts _ m_751) d_M_putOut_80 ?_
        refine lv_istore_n (lv' := [(2, .int 524288), (1, .int (bI b20)), (0, .ref mo)]) hx hb d_M_putOut_82 rfl hl (by decide) rfl (fun ls hl => ?_)
        refine lv_aload_n hx hb d_M_putOut_83 rfl (lv_at hl 2 rfl) ?_
        refine lv_aload_n hx hb d_M_putOut_84 rfl (lv_at hl 2 rfl) ?_
        refine va_get (D := E.1) (ci := 5) (v := .int st.1.2.2.2.2.2.2.1) (C := R_M) (T := T_M) (N := 29) hx hb hts in_M hown hK hP 0 rfl rfl 15 (by decide) (hts _ m_625) (fun _ h9 => h9) rfl d_M_putOut_85 ?_
        refine lv_iload_n hx hb d_M_putOut_88 rfl (lv_at hl 0 rfl) ?_
        refine lv_idiv hx hb d_M_putOut_89 (by decide) ?_
        obtain ⟨hk24, hok⟩ := hok
        refine ar_usev (wr := []) hP hD hS hA [0, 1, 2, 3, 4, 5, 6, 7, 8] [] rfl rfl rfl (by decide) (ar_runV (n := 1) (As := [.int (st.1.2.2.2.2.2.2.1 / 524288)]) (rest := []) (ci := 5) (q0 := 0) hx hb hml hown hts hP hD hS hA hK hZ (c_M_put l E _ mo mc sv sa wr bt s1 s2 s3 nx (st.1, st.2.1, st.2.2.1, st.2.2.2.1, st.2.2.2.2.1, (upd st.2.2.2.2.2 (Int32.toNatClampNeg (st.1.2.2.2.1 - 1)) x16)) (st.1.2.2.2.2.2.2.1 / 524288) hk24) m_725 m_727 ms_25 m_7 m_728 (by decide +kernel) ⟨Nat.le_of_ble_eq_true rfl, Nat.le_of_ble_eq_true rfl⟩ [0, 1, 2, 3, 4, 5, 6, 7, 8] rfl rfl rfl rfl rfl rfl rfl hl.1 rfl (Nat.le_of_ble_eq_true rfl) d_M_putOut_90 ⟨Nat.le_of_ble_eq_true rfl, Nat.le_of_ble_eq_true rfl⟩) (fun u25 Hn locsn hw25 hPn hDn hSn => ?_)
        replace hok := hok u25 hw25
        clear hP hD hS
        have hP : va_P E.1 classes [(mo, .inr (5, [.ref s1, .ref s2, .ref s3, .int u25.1.1, .int (nI nx), .ref mc, .int u25.1.2.1, .ref sv, .int u25.1.2.2.1, .ref sa, .ref wr, .int u25.1.2.2.2.1, .ref bt, .int (bI u25.1.2.2.2.2.1), .int u25.1.2.2.2.2.2.1, .int u25.1.2.2.2.2.2.2.1, .int u25.1.2.2.2.2.2.2.2.1, .int u25.1.2.2.2.2.2.2.2.2.1, .int u25.1.2.2.2.2.2.2.2.2.2.1, .int u25.1.2.2.2.2.2.2.2.2.2.2.1, .int u25.1.2.2.2.2.2.2.2.2.2.2.2.1, .int u25.1.2.2.2.2.2.2.2.2.2.2.2.2.1, .long u25.1.2.2.2.2.2.2.2.2.2.2.2.2.2.1, .int u25.1.2.2.2.2.2.2.2.2.2.2.2.2.2.2.1, .int u25.1.2.2.2.2.2.2.2.2.2.2.2.2.2.2.2.1, .int u25.1.2.2.2.2.2.2.2.2.2.2.2.2.2.2.2.2.1, .int (bI u25.1.2.2.2.2.2.2.2.2.2.2.2.2.2.2.2.2.2.1), .int u25.1.2.2.2.2.2.2.2.2.2.2.2.2.2.2.2.2.2.2.1, .int u25.1.2.2.2.2.2.2.2.2.2.2.2.2.2.2.2.2.2.2.2])), (mc, .inl (E.2.1 0, 139264, .inl u25.2.1)), (sv, .inl (E.2.1 0, 393216, .inl u25.2.2.1)), (sa, .inl (E.2.1 0, 1100, .inl u25.2.2.2.1)), (wr, .inl (E.2.1 1, 1100, .inl u25.2.2.2.2.1)), (bt, .inl (E.2.1 0, 120000, .inl u25.2.2.2.2.2)), (s1, .inl (E.2.1 0, 47, .inl (zF 0))), (s2, .inl (E.2.1 0, 47, .inl (zF 1))), (s3, .inl (E.2.1 0, 47, .inl (zF 2)))] Hn := hPn
        have hD : va_D A [(mo, .inr (5, [.ref s1, .ref s2, .ref s3, .int u25.1.1, .int (nI nx), .ref mc, .int u25.1.2.1, .ref sv, .int u25.1.2.2.1, .ref sa, .ref wr, .int u25.1.2.2.2.1, .ref bt, .int (bI u25.1.2.2.2.2.1), .int u25.1.2.2.2.2.2.1, .int u25.1.2.2.2.2.2.2.1, .int u25.1.2.2.2.2.2.2.2.1, .int u25.1.2.2.2.2.2.2.2.2.1, .int u25.1.2.2.2.2.2.2.2.2.2.1, .int u25.1.2.2.2.2.2.2.2.2.2.2.1, .int u25.1.2.2.2.2.2.2.2.2.2.2.2.1, .int u25.1.2.2.2.2.2.2.2.2.2.2.2.2.1, .long u25.1.2.2.2.2.2.2.2.2.2.2.2.2.2.1, .int u25.1.2.2.2.2.2.2.2.2.2.2.2.2.2.2.1, .int u25.1.2.2.2.2.2.2.2.2.2.2.2.2.2.2.2.1, .int u25.1.2.2.2.2.2.2.2.2.2.2.2.2.2.2.2.2.1, .int (bI u25.1.2.2.2.2.2.2.2.2.2.2.2.2.2.2.2.2.2.1), .int u25.1.2.2.2.2.2.2.2.2.2.2.2.2.2.2.2.2.2.2.1, .int u25.1.2.2.2.2.2.2.2.2.2.2.2.2.2.2.2.2.2.2.2])), (mc, .inl (E.2.1 0, 139264, .inl u25.2.1)), (sv, .inl (E.2.1 0, 393216, .inl u25.2.2.1)), (sa, .inl (E.2.1 0, 1100, .inl u25.2.2.2.1)), (wr, .inl (E.2.1 1, 1100, .inl u25.2.2.2.2.1)), (bt, .inl (E.2.1 0, 120000, .inl u25.2.2.2.2.2)), (s1, .inl (E.2.1 0, 47, .inl (zF 0))), (s2, .inl (E.2.1 0, 47, .inl (zF 1))), (s3, .inl (E.2.1 0, 47, .inl (zF 2)))] := hDn
        have hS := hSn
        clear hPn hDn hSn
        refine lv_aload_n hx hb d_M_putOut_93 rfl (lv_at hl 2 rfl) ?_
        refine lv_aload_n hx hb d_M_putOut_94 rfl (lv_at hl 2 rfl) ?_
        refine va_get (D := E.1) (ci := 5) (v := .int u25.1.2.2.2.2.2.2.1) (C := R_M) (T := T_M) (N := 29) hx hb hts in_M hown hK hP 0 rfl rfl 15 (by decide) (hts _ m_625) (fun _ h9 => h9) rfl d_M_putOut_95 ?_
        refine lv_iload_n hx hb d_M_putOut_98 rfl (lv_at hl 0 rfl) ?_
        refine ar_irem hx hb d_M_putOut_99 (by decide) ?_
        refine lv_topi (fun x26 ex26 => ?_)
        replace hok := hok x26 ex26
        refine va_put (D := E.1) (ci := 5) (v := .int x26) (ty := .int) (C := R_M) (T := T_M) (N := 29) hx hb hts in_M t_M t_M_ok n_M hown hK hP hD hS 0 rfl rfl 15 (by decide) (hts _ m_625) (fun _ h9 => h9) rfl (by decide +kernel) rfl rfl (Nat.le_of_ble_eq_true rfl) d_M_putOut_100 (fun Hn locsn hPn hDn hSn => ?_)
        clear hP hD hS
        have hP : va_P E.1 classes [(mo, .inr (5, [.ref s1, .ref s2, .ref s3, .int u25.1.1, .int (nI nx), .ref mc, .int u25.1.2.1, .ref sv, .int u25.1.2.2.1, .ref sa, .ref wr, .int u25.1.2.2.2.1, .ref bt, .int (bI u25.1.2.2.2.2.1), .int u25.1.2.2.2.2.2.1, .int x26, .int u25.1.2.2.2.2.2.2.2.1, .int u25.1.2.2.2.2.2.2.2.2.1, .int u25.1.2.2.2.2.2.2.2.2.2.1, .int u25.1.2.2.2.2.2.2.2.2.2.2.1, .int u25.1.2.2.2.2.2.2.2.2.2.2.2.1, .int u25.1.2.2.2.2.2.2.2.2.2.2.2.2.1, .long u25.1.2.2.2.2.2.2.2.2.2.2.2.2.2.1, .int u25.1.2.2.2.2.2.2.2.2.2.2.2.2.2.2.1, .int u25.1.2.2.2.2.2.2.2.2.2.2.2.2.2.2.2.1, .int u25.1.2.2.2.2.2.2.2.2.2.2.2.2.2.2.2.2.1, .int (bI u25.1.2.2.2.2.2.2.2.2.2.2.2.2.2.2.2.2.2.1), .int u25.1.2.2.2.2.2.2.2.2.2.2.2.2.2.2.2.2.2.2.1, .int u25.1.2.2.2.2.2.2.2.2.2.2.2.2.2.2.2.2.2.2.2])), (mc, .inl (E.2.1 0, 139264, .inl u25.2.1)), (sv, .inl (E.2.1 0, 393216, .inl u25.2.2.1)), (sa, .inl (E.2.1 0, 1100, .inl u25.2.2.2.1)), (wr, .inl (E.2.1 1, 1100, .inl u25.2.2.2.2.1)), (bt, .inl (E.2.1 0, 120000, .inl u25.2.2.2.2.2)), (s1, .inl (E.2.1 0, 47, .inl (zF 0))), (s2, .inl (E.2.1 0, 47, .inl (zF 1))), (s3, .inl (E.2.1 0, 47, .inl (zF 2)))] Hn := hPn
        have hD : va_D A [(mo, .inr (5, [.ref s1, .ref s2, .ref s3, .int u25.1.1, .int (nI nx), .ref mc, .int u25.1.2.1, .ref sv, .int u25.1.2.2.1, .ref sa, .ref wr, .int u25.1.2.2.2.1, .ref bt, .int (bI u25.1.2.2.2.2.1), .int u25.1.2.2.2.2.2.1, .int x26, .int u25.1.2.2.2.2.2.2.2.1, .int u25.1.2.2.2.2.2.2.2.2.1, .int u25.1.2.2.2.2.2.2.2.2.2.1, .int u25.1.2.2.2.2.2.2.2.2.2.2.1, .int u25.1.2.2.2.2.2.2.2.2.2.2.2.1, .int u25.1.2.2.2.2.2.2.2.2.2.2.2.2.1, .long u25.1.2.2.2.2.2.2.2.2.2.2.2.2.2.1, .int u25.1.2.2.2.2.2.2.2.2.2.2.2.2.2.2.1, .int u25.1.2.2.2.2.2.2.2.2.2.2.2.2.2.2.2.1, .int u25.1.2.2.2.2.2.2.2.2.2.2.2.2.2.2.2.2.1, .int (bI u25.1.2.2.2.2.2.2.2.2.2.2.2.2.2.2.2.2.2.1), .int u25.1.2.2.2.2.2.2.2.2.2.2.2.2.2.2.2.2.2.2.1, .int u25.1.2.2.2.2.2.2.2.2.2.2.2.2.2.2.2.2.2.2.2])), (mc, .inl (E.2.1 0, 139264, .inl u25.2.1)), (sv, .inl (E.2.1 0, 393216, .inl u25.2.2.1)), (sa, .inl (E.2.1 0, 1100, .inl u25.2.2.2.1)), (wr, .inl (E.2.1 1, 1100, .inl u25.2.2.2.2.1)), (bt, .inl (E.2.1 0, 120000, .inl u25.2.2.2.2.2)), (s1, .inl (E.2.1 0, 47, .inl (zF 0))), (s2, .inl (E.2.1 0, 47, .inl (zF 1))), (s3, .inl (E.2.1 0, 47, .inl (zF 2)))] := hDn
        have hS := hSn
        clear hPn hDn hSn
        refine lv_aload_n hx hb d_M_putOut_103 rfl (lv_at hl 2 rfl) ?_
        refine lv_iload_n hx hb d_M_putOut_104 rfl (lv_at hl 1 rfl) ?_
        refine lv_if_eq (tgt := 113) hx hb d_M_putOut_105 (by decide) (fun cz => ?_) (fun cz => absurd c21 cz)
        refine lv_bipush (v := 8) hx hb d_M_putOut_113 (by decide) ?_
        refine va_put (D := E.1) (ci := 5) (v := .int 8) (ty := .int) (C := R_M) (T := T_M) (N := 29) hx hb hts in_M t_M t_M_ok n_M hown hK hP hD hS 0 rfl rfl 16 (by decide) (hts _ m_626) (fun _ h9 => h9) rfl (by decide +kernel) rfl rfl (Nat.le_of_ble_eq_true rfl) d_M_putOut_115 (fun Hn locsn hPn hDn hSn => ?_)
        clear hP hD hS
        have hP : va_P E.1 classes [(mo, .inr (5, [.ref s1, .ref s2, .ref s3, .int u25.1.1, .int (nI nx), .ref mc, .int u25.1.2.1, .ref sv, .int u25.1.2.2.1, .ref sa, .ref wr, .int u25.1.2.2.2.1, .ref bt, .int (bI u25.1.2.2.2.2.1), .int u25.1.2.2.2.2.2.1, .int x26, .int 8, .int u25.1.2.2.2.2.2.2.2.2.1, .int u25.1.2.2.2.2.2.2.2.2.2.1, .int u25.1.2.2.2.2.2.2.2.2.2.2.1, .int u25.1.2.2.2.2.2.2.2.2.2.2.2.1, .int u25.1.2.2.2.2.2.2.2.2.2.2.2.2.1, .long u25.1.2.2.2.2.2.2.2.2.2.2.2.2.2.1, .int u25.1.2.2.2.2.2.2.2.2.2.2.2.2.2.2.1, .int u25.1.2.2.2.2.2.2.2.2.2.2.2.2.2.2.2.1, .int u25.1.2.2.2.2.2.2.2.2.2.2.2.2.2.2.2.2.1, .int (bI u25.1.2.2.2.2.2.2.2.2.2.2.2.2.2.2.2.2.2.1), .int u25.1.2.2.2.2.2.2.2.2.2.2.2.2.2.2.2.2.2.2.1, .int u25.1.2.2.2.2.2.2.2.2.2.2.2.2.2.2.2.2.2.2.2])), (mc, .inl (E.2.1 0, 139264, .inl u25.2.1)), (sv, .inl (E.2.1 0, 393216, .inl u25.2.2.1)), (sa, .inl (E.2.1 0, 1100, .inl u25.2.2.2.1)), (wr, .inl (E.2.1 1, 1100, .inl u25.2.2.2.2.1)), (bt, .inl (E.2.1 0, 120000, .inl u25.2.2.2.2.2)), (s1, .inl (E.2.1 0, 47, .inl (zF 0))), (s2, .inl (E.2.1 0, 47, .inl (zF 1))), (s3, .inl (E.2.1 0, 47, .inl (zF 2)))] Hn := hPn
        have hD : va_D A [(mo, .inr (5, [.ref s1, .ref s2, .ref s3, .int u25.1.1, .int (nI nx), .ref mc, .int u25.1.2.1, .ref sv, .int u25.1.2.2.1, .ref sa, .ref wr, .int u25.1.2.2.2.1, .ref bt, .int (bI u25.1.2.2.2.2.1), .int u25.1.2.2.2.2.2.1, .int x26, .int 8, .int u25.1.2.2.2.2.2.2.2.2.1, .int u25.1.2.2.2.2.2.2.2.2.2.1, .int u25.1.2.2.2.2.2.2.2.2.2.2.1, .int u25.1.2.2.2.2.2.2.2.2.2.2.2.1, .int u25.1.2.2.2.2.2.2.2.2.2.2.2.2.1, .long u25.1.2.2.2.2.2.2.2.2.2.2.2.2.2.1, .int u25.1.2.2.2.2.2.2.2.2.2.2.2.2.2.2.1, .int u25.1.2.2.2.2.2.2.2.2.2.2.2.2.2.2.2.1, .int u25.1.2.2.2.2.2.2.2.2.2.2.2.2.2.2.2.2.1, .int (bI u25.1.2.2.2.2.2.2.2.2.2.2.2.2.2.2.2.2.2.1), .int u25.1.2.2.2.2.2.2.2.2.2.2.2.2.2.2.2.2.2.2.1, .int u25.1.2.2.2.2.2.2.2.2.2.2.2.2.2.2.2.2.2.2.2])), (mc, .inl (E.2.1 0, 139264, .inl u25.2.1)), (sv, .inl (E.2.1 0, 393216, .inl u25.2.2.1)), (sa, .inl (E.2.1 0, 1100, .inl u25.2.2.2.1)), (wr, .inl (E.2.1 1, 1100, .inl u25.2.2.2.2.1)), (bt, .inl (E.2.1 0, 120000, .inl u25.2.2.2.2.2)), (s1, .inl (E.2.1 0, 47, .inl (zF 0))), (s2, .inl (E.2.1 0, 47, .inl (zF 1))), (s3, .inl (E.2.1 0, 47, .inl (zF 2)))] := hDn
        have hS := hSn
        clear hPn hDn hSn
        exact ar_vret hx hb hr hlocks hK hS ((u25.1.1, u25.1.2.1, u25.1.2.2.1, u25.1.2.2.2.1, u25.1.2.2.2.2.1, u25.1.2.2.2.2.2.1, x26, 8, u25.1.2.2.2.2.2.2.2.2.1, u25.1.2.2.2.2.2.2.2.2.2.1, u25.1.2.2.2.2.2.2.2.2.2.2.1, u25.1.2.2.2.2.2.2.2.2.2.2.2.1, u25.1.2.2.2.2.2.2.2.2.2.2.2.2.1, u25.1.2.2.2.2.2.2.2.2.2.2.2.2.2.1, u25.1.2.2.2.2.2.2.2.2.2.2.2.2.2.2.1, u25.1.2.2.2.2.2.2.2.2.2.2.2.2.2.2.2.1, u25.1.2.2.2.2.2.2.2.2.2.2.2.2.2.2.2.2.1, u25.1.2.2.2.2.2.2.2.2.2.2.2.2.2.2.2.2.2.1, u25.1.2.2.2.2.2.2.2.2.2.2.2.2.2.2.2.2.2.2.1, u25.1.2.2.2.2.2.2.2.2.2.2.2.2.2.2.2.2.2.2.2), u25.2.1, u25.2.2.1, u25.2.2.2.1, u25.2.2.2.2.1, u25.2.2.2.2.2) (by subst ex26; subst hw25; subst eb20; subst ex16; subst eb2; exact Eq.symm (Eq.trans (f_M_putOut_s nx st) (Eq.trans (if_pos c3) (Eq.trans (if_neg c9) (Eq.trans (if_pos c21) rfl))))) hP hD d_M_putOut_118
      · replace hok := hok.2 c21
        refine lv_aload_n hx hb d_M_putOut_49 rfl (lv_at hl 0 rfl) ?_
        refine va_get (D := E.1) (ci := 5) (v := .int st.1.2.2.2.2.2.2.1) (C := R_M) (T := T_M) (N := 29) hx hb hts in_M hown hK hP 0 rfl rfl 15 (by decide) (hts _ m_625) (fun _ h9 => h9) rfl d_M_putOut_50 ?_
        refine lv_ldc (v := 134217728) hx hb hown (hts _ m_749) d_M_putOut_53 ?_
        refine ar_irem hx hb d_M_putOut_55 (by decide) ?_
        refine lv_goto (tgt := 63) hx hb d_M_putOut_56 (by decide) ?_
        refine lv_topi (fun x27 ex27 => ?_)
        replace hok := hok x27 ex27
        refine va_put (D := E.1) (ci := 5) (v := .int x27) (ty := .int) (C := R_M) (T := T_M) (N := 29) hx hb hts in_M t_M t_M_ok n_M hown hK hP hD hS 0 rfl rfl 15 (by decide) (hts _ m_625) (fun _ h9 => h9) rfl (by decide +kernel) rfl rfl (Nat.le_of_ble_eq_true rfl) d_M_putOut_63 (fun Hn locsn hPn hDn hSn => ?_)
        clear hP hD hS
        have hP : va_P E.1 classes [(mo, .inr (5, [.ref s1, .ref s2, .ref s3, .int st.1.1, .int (nI nx), .ref mc, .int st.1.2.1, .ref sv, .int st.1.2.2.1, .ref sa, .ref wr, .int st.1.2.2.2.1, .ref bt, .int (bI st.1.2.2.2.2.1), .int st.1.2.2.2.2.2.1, .int x27, .int st.1.2.2.2.2.2.2.2.1, .int st.1.2.2.2.2.2.2.2.2.1, .int st.1.2.2.2.2.2.2.2.2.2.1, .int st.1.2.2.2.2.2.2.2.2.2.2.1, .int st.1.2.2.2.2.2.2.2.2.2.2.2.1, .int st.1.2.2.2.2.2.2.2.2.2.2.2.2.1, .long st.1.2.2.2.2.2.2.2.2.2.2.2.2.2.1, .int st.1.2.2.2.2.2.2.2.2.2.2.2.2.2.2.1, .int st.1.2.2.2.2.2.2.2.2.2.2.2.2.2.2.2.1, .int st.1.2.2.2.2.2.2.2.2.2.2.2.2.2.2.2.2.1, .int (bI st.1.2.2.2.2.2.2.2.2.2.2.2.2.2.2.2.2.2.1), .int st.1.2.2.2.2.2.2.2.2.2.2.2.2.2.2.2.2.2.2.1, .int st.1.2.2.2.2.2.2.2.2.2.2.2.2.2.2.2.2.2.2.2])), (mc, .inl (E.2.1 0, 139264, .inl st.2.1)), (sv, .inl (E.2.1 0, 393216, .inl st.2.2.1)), (sa, .inl (E.2.1 0, 1100, .inl st.2.2.2.1)), (wr, .inl (E.2.1 1, 1100, .inl st.2.2.2.2.1)), (bt, .inl (E.2.1 0, 120000, .inl (upd st.2.2.2.2.2 (Int32.toNatClampNeg (st.1.2.2.2.1 - 1)) x16))), (s1, .inl (E.2.1 0, 47, .inl (zF 0))), (s2, .inl (E.2.1 0, 47, .inl (zF 1))), (s3, .inl (E.2.1 0, 47, .inl (zF 2)))] Hn := hPn
        have hD : va_D A [(mo, .inr (5, [.ref s1, .ref s2, .ref s3, .int st.1.1, .int (nI nx), .ref mc, .int st.1.2.1, .ref sv, .int st.1.2.2.1, .ref sa, .ref wr, .int st.1.2.2.2.1, .ref bt, .int (bI st.1.2.2.2.2.1), .int st.1.2.2.2.2.2.1, .int x27, .int st.1.2.2.2.2.2.2.2.1, .int st.1.2.2.2.2.2.2.2.2.1, .int st.1.2.2.2.2.2.2.2.2.2.1, .int st.1.2.2.2.2.2.2.2.2.2.2.1, .int st.1.2.2.2.2.2.2.2.2.2.2.2.1, .int st.1.2.2.2.2.2.2.2.2.2.2.2.2.1, .long st.1.2.2.2.2.2.2.2.2.2.2.2.2.2.1, .int st.1.2.2.2.2.2.2.2.2.2.2.2.2.2.2.1, .int st.1.2.2.2.2.2.2.2.2.2.2.2.2.2.2.2.1, .int st.1.2.2.2.2.2.2.2.2.2.2.2.2.2.2.2.2.1, .int (bI st.1.2.2.2.2.2.2.2.2.2.2.2.2.2.2.2.2.2.1), .int st.1.2.2.2.2.2.2.2.2.2.2.2.2.2.2.2.2.2.2.1, .int st.1.2.2.2.2.2.2.2.2.2.2.2.2.2.2.2.2.2.2.2])), (mc, .inl (E.2.1 0, 139264, .inl st.2.1)), (sv, .inl (E.2.1 0, 393216, .inl st.2.2.1)), (sa, .inl (E.2.1 0, 1100, .inl st.2.2.2.1)), (wr, .inl (E.2.1 1, 1100, .inl st.2.2.2.2.1)), (bt, .inl (E.2.1 0, 120000, .inl (upd st.2.2.2.2.2 (Int32.toNatClampNeg (st.1.2.2.2.1 - 1)) x16))), (s1, .inl (E.2.1 0, 47, .inl (zF 0))), (s2, .inl (E.2.1 0, 47, .inl (zF 1))), (s3, .inl (E.2.1 0, 47, .inl (zF 2)))] := hDn
        have hS := hSn
        clear hPn hDn hSn
        refine lv_aload_n hx hb d_M_putOut_66 rfl (lv_at hl 0 rfl) ?_
        obtain ⟨hk28, hok⟩ := hok
        refine ar_usei (wr := []) hP hD hS hA [0, 1, 2, 3, 4, 5, 6, 7, 8] [] rfl rfl rfl (by decide) (ar_runV (n := 0) (As := []) (rest := []) (ci := 5) (q0 := 0) hx hb hml hown hts hP hD hS hA hK hZ (c_M_isFull l E _ mo mc sv sa wr bt s1 s2 s3 nx ((st.1.1, st.1.2.1, st.1.2.2.1, st.1.2.2.2.1, st.1.2.2.2.2.1, st.1.2.2.2.2.2.1, x27, st.1.2.2.2.2.2.2.2.1, st.1.2.2.2.2.2.2.2.2.1, st.1.2.2.2.2.2.2.2.2.2.1, st.1.2.2.2.2.2.2.2.2.2.2.1, st.1.2.2.2.2.2.2.2.2.2.2.2.1, st.1.2.2.2.2.2.2.2.2.2.2.2.2.1, st.1.2.2.2.2.2.2.2.2.2.2.2.2.2.1, st.1.2.2.2.2.2.2.2.2.2.2.2.2.2.2.1, st.1.2.2.2.2.2.2.2.2.2.2.2.2.2.2.2.1, st.1.2.2.2.2.2.2.2.2.2.2.2.2.2.2.2.2.1, st.1.2.2.2.2.2.2.2.2.2.2.2.2.2.2.2.2.2.1, st.1.2.2.2.2.2.2.2.2.2.2.2.2.2.2.2.2.2.2.1, st.1.2.2.2.2.2.2.2.2.2.2.2.2.2.2.2.2.2.2.2), st.2.1, st.2.2.1, st.2.2.2.1, st.2.2.2.2.1, (upd st.2.2.2.2.2 (Int32.toNatClampNeg (st.1.2.2.2.1 - 1)) x16))  hk28) m_729 m_731 ms_26 m_7 m_732 (by decide +kernel) ⟨Nat.le_of_ble_eq_true rfl, Nat.le_of_ble_eq_true rfl⟩ [0, 1, 2, 3, 4, 5, 6, 7, 8] rfl rfl rfl rfl rfl rfl rfl hl.1 rfl (Nat.le_of_ble_eq_true rfl) d_M_putOut_67 ⟨Nat.le_of_ble_eq_true rfl, Nat.le_of_ble_eq_true rfl⟩) (fun r29 _ Hn locsn hw29 hPn hDn hSn => ?_)
        obtain ⟨b29, eb29⟩ : ∃ b : Bool, b = f_M_isFull nx  ((st.1.1, st.1.2.1, st.1.2.2.1, st.1.2.2.2.1, st.1.2.2.2.2.1, st.1.2.2.2.2.2.1, x27, st.1.2.2.2.2.2.2.2.1, st.1.2.2.2.2.2.2.2.2.1, st.1.2.2.2.2.2.2.2.2.2.1, st.1.2.2.2.2.2.2.2.2.2.2.1, st.1.2.2.2.2.2.2.2.2.2.2.2.1, st.1.2.2.2.2.2.2.2.2.2.2.2.2.1, st.1.2.2.2.2.2.2.2.2.2.2.2.2.2.1, st.1.2.2.2.2.2.2.2.2.2.2.2.2.2.2.1, st.1.2.2.2.2.2.2.2.2.2.2.2.2.2.2.2.1, st.1.2.2.2.2.2.2.2.2.2.2.2.2.2.2.2.2.1, st.1.2.2.2.2.2.2.2.2.2.2.2.2.2.2.2.2.2.1, st.1.2.2.2.2.2.2.2.2.2.2.2.2.2.2.2.2.2.2.1, st.1.2.2.2.2.2.2.2.2.2.2.2.2.2.2.2.2.2.2.2), st.2.1, st.2.2.1, st.2.2.2.1, st.2.2.2.2.1, (upd st.2.2.2.2.2 (Int32.toNatClampNeg (st.1.2.2.2.1 - 1)) x16)) := ⟨_, rfl⟩
        rw [← eb29] at hw29
        subst hw29
        replace hok := hok b29 eb29
        clear hP hD hS
        have hP : va_P E.1 classes [(mo, .inr (5, [.ref s1, .ref s2, .ref s3, .int st.1.1, .int (nI nx), .ref mc, .int st.1.2.1, .ref sv, .int st.1.2.2.1, .ref sa, .ref wr, .int st.1.2.2.2.1, .ref bt, .int (bI st.1.2.2.2.2.1), .int st.1.2.2.2.2.2.1, .int x27, .int st.1.2.2.2.2.2.2.2.1, .int st.1.2.2.2.2.2.2.2.2.1, .int st.1.2.2.2.2.2.2.2.2.2.1, .int st.1.2.2.2.2.2.2.2.2.2.2.1, .int st.1.2.2.2.2.2.2.2.2.2.2.2.1, .int st.1.2.2.2.2.2.2.2.2.2.2.2.2.1, .long st.1.2.2.2.2.2.2.2.2.2.2.2.2.2.1, .int st.1.2.2.2.2.2.2.2.2.2.2.2.2.2.2.1, .int st.1.2.2.2.2.2.2.2.2.2.2.2.2.2.2.2.1, .int st.1.2.2.2.2.2.2.2.2.2.2.2.2.2.2.2.2.1, .int (bI st.1.2.2.2.2.2.2.2.2.2.2.2.2.2.2.2.2.2.1), .int st.1.2.2.2.2.2.2.2.2.2.2.2.2.2.2.2.2.2.2.1, .int st.1.2.2.2.2.2.2.2.2.2.2.2.2.2.2.2.2.2.2.2])), (mc, .inl (E.2.1 0, 139264, .inl st.2.1)), (sv, .inl (E.2.1 0, 393216, .inl st.2.2.1)), (sa, .inl (E.2.1 0, 1100, .inl st.2.2.2.1)), (wr, .inl (E.2.1 1, 1100, .inl st.2.2.2.2.1)), (bt, .inl (E.2.1 0, 120000, .inl (upd st.2.2.2.2.2 (Int32.toNatClampNeg (st.1.2.2.2.1 - 1)) x16))), (s1, .inl (E.2.1 0, 47, .inl (zF 0))), (s2, .inl (E.2.1 0, 47, .inl (zF 1))), (s3, .inl (E.2.1 0, 47, .inl (zF 2)))] Hn := hPn
        have hD : va_D A [(mo, .inr (5, [.ref s1, .ref s2, .ref s3, .int st.1.1, .int (nI nx), .ref mc, .int st.1.2.1, .ref sv, .int st.1.2.2.1, .ref sa, .ref wr, .int st.1.2.2.2.1, .ref bt, .int (bI st.1.2.2.2.2.1), .int st.1.2.2.2.2.2.1, .int x27, .int st.1.2.2.2.2.2.2.2.1, .int st.1.2.2.2.2.2.2.2.2.1, .int st.1.2.2.2.2.2.2.2.2.2.1, .int st.1.2.2.2.2.2.2.2.2.2.2.1, .int st.1.2.2.2.2.2.2.2.2.2.2.2.1, .int st.1.2.2.2.2.2.2.2.2.2.2.2.2.1, .long st.1.2.2.2.2.2.2.2.2.2.2.2.2.2.1, .int st.1.2.2.2.2.2.2.2.2.2.2.2.2.2.2.1, .int st.1.2.2.2.2.2.2.2.2.2.2.2.2.2.2.2.1, .int st.1.2.2.2.2.2.2.2.2.2.2.2.2.2.2.2.2.1, .int (bI st.1.2.2.2.2.2.2.2.2.2.2.2.2.2.2.2.2.2.1), .int st.1.2.2.2.2.2.2.2.2.2.2.2.2.2.2.2.2.2.2.1, .int st.1.2.2.2.2.2.2.2.2.2.2.2.2.2.2.2.2.2.2.2])), (mc, .inl (E.2.1 0, 139264, .inl st.2.1)), (sv, .inl (E.2.1 0, 393216, .inl st.2.2.1)), (sa, .inl (E.2.1 0, 1100, .inl st.2.2.2.1)), (wr, .inl (E.2.1 1, 1100, .inl st.2.2.2.2.1)), (bt, .inl (E.2.1 0, 120000, .inl (upd st.2.2.2.2.2 (Int32.toNatClampNeg (st.1.2.2.2.1 - 1)) x16))), (s1, .inl (E.2.1 0, 47, .inl (zF 0))), (s2, .inl (E.2.1 0, 47, .inl (zF 1))), (s3, .inl (E.2.1 0, 47, .inl (zF 2)))] := hDn
        have hS := hSn
        clear hPn hDn hSn
        refine lv_istore_n (lv' := [(1, .int (bI b29)), (0, .ref mo)]) hx hb d_M_putOut_70 rfl hl (by decide) rfl (fun ls hl => ?_)
        refine lv_iload_n hx hb d_M_putOut_71 rfl (lv_at hl 0 rfl) ?_
        refine lv_if_eq (tgt := 80) hx hb d_M_putOut_72 (by decide) (fun c30 => ?_) (fun c30 => ?_)
        · replace hok := hok.1 c30
          refine lv_ldc (v := 524288) hx hb hown (hts _ m_751) d_M_putOut_80 ?_
          refine lv_istore_n (lv' := [(2, .int 524288), (1, .int (bI b29)), (0, .ref mo)]) hx hb d_M_putOut_82 rfl hl (by decide) rfl (fun ls hl => ?_)
          refine lv_aload_n hx hb d_M_putOut_83 rfl (lv_at hl 2 rfl) ?_
          refine lv_aload_n hx hb d_M_putOut_84 rfl (lv_at hl 2 rfl) ?_
          refine va_get (D := E.1) (ci := 5) (v := .int x27) (C := R_M) (T := T_M) (N := 29) hx hb hts in_M hown hK hP 0 rfl rfl 15 (by decide) (hts _ m_625) (fun _ h9 => h9) rfl d_M_putOut_85 ?_
          refine lv_iload_n hx hb d_M_putOut_88 rfl (lv_at hl 0 rfl) ?_
          refine lv_idiv hx hb d_M_putOut_89 (by decide) ?_
          obtain ⟨hk31, hok⟩ := hok
          refine ar_usev (wr := []) hP hD hS hA [0, 1, 2, 3, 4, 5, 6, 7, 8] [] rfl rfl rfl (by decide) (ar_runV (n := 1) (As := [.int (x27 / 524288)]) (rest := []) (ci := 5) (q0 := 0) hx hb hml hown hts hP hD hS hA hK hZ (c_M_put l E _ mo mc sv sa wr bt s1 s2 s3 nx ((st.1.1, st.1.2.1, st.1.2.2.1, st.1.2.2.2.1, st.1.2.2.2.2.1, st.1.2.2.2.2.2.1, x27, st.1.2.2.2.2.2.2.2.1, st.1.2.2.2.2.2.2.2.2.1, st.1.2.2.2.2.2.2.2.2.2.1, st.1.2.2.2.2.2.2.2.2.2.2.1, st.1.2.2.2.2.2.2.2.2.2.2.2.1, st.1.2.2.2.2.2.2.2.2.2.2.2.2.1, st.1.2.2.2.2.2.2.2.2.2.2.2.2.2.1, st.1.2.2.2.2.2.2.2.2.2.2.2.2.2.2.1, st.1.2.2.2.2.2.2.2.2.2.2.2.2.2.2.2.1, st.1.2.2.2.2.2.2.2.2.2.2.2.2.2.2.2.2.1, st.1.2.2.2.2.2.2.2.2.2.2.2.2.2.2.2.2.2.1, st.1.2.2.2.2.2.2.2.2.2.2.2.2.2.2.2.2.2.2.1, st.1.2.2.2.2.2.2.2.2.2.2.2.2.2.2.2.2.2.2.2), st.2.1, st.2.2.1, st.2.2.2.1, st.2.2.2.2.1, (upd st.2.2.2.2.2 (Int32.toNatClampNeg (st.1.2.2.2.1 - 1)) x16)) (x27 / 524288) hk31) m_725 m_727 ms_25 m_7 m_728 (by decide +kernel) ⟨Nat.le_of_ble_eq_true rfl, Nat.le_of_ble_eq_true rfl⟩ [0, 1, 2, 3, 4, 5, 6, 7, 8] rfl rfl rfl rfl rfl rfl rfl hl.1 rfl (Nat.le_of_ble_eq_true rfl) d_M_putOut_90 ⟨Nat.le_of_ble_eq_true rfl, Nat.le_of_ble_eq_true rfl⟩) (fun u32 Hn locsn hw32 hPn hDn hSn => ?_)
          replace hok := hok u32 hw32
          clear hP hD hS
          have hP : va_P E.1 classes [(mo, .inr (5, [.ref s1, .ref s2, .ref s3, .int u32.1.1, .int (nI nx), .ref mc, .int u32.1.2.1, .ref sv, .int u32.1.2.2.1, .ref sa, .ref wr, .int u32.1.2.2.2.1, .ref bt, .int (bI u32.1.2.2.2.2.1), .int u32.1.2.2.2.2.2.1, .int u32.1.2.2.2.2.2.2.1, .int u32.1.2.2.2.2.2.2.2.1, .int u32.1.2.2.2.2.2.2.2.2.1, .int u32.1.2.2.2.2.2.2.2.2.2.1, .int u32.1.2.2.2.2.2.2.2.2.2.2.1, .int u32.1.2.2.2.2.2.2.2.2.2.2.2.1, .int u32.1.2.2.2.2.2.2.2.2.2.2.2.2.1, .long u32.1.2.2.2.2.2.2.2.2.2.2.2.2.2.1, .int u32.1.2.2.2.2.2.2.2.2.2.2.2.2.2.2.1, .int u32.1.2.2.2.2.2.2.2.2.2.2.2.2.2.2.2.1, .int u32.1.2.2.2.2.2.2.2.2.2.2.2.2.2.2.2.2.1, .int (bI u32.1.2.2.2.2.2.2.2.2.2.2.2.2.2.2.2.2.2.1), .int u32.1.2.2.2.2.2.2.2.2.2.2.2.2.2.2.2.2.2.2.1, .int u32.1.2.2.2.2.2.2.2.2.2.2.2.2.2.2.2.2.2.2.2])), (mc, .inl (E.2.1 0, 139264, .inl u32.2.1)), (sv, .inl (E.2.1 0, 393216, .inl u32.2.2.1)), (sa, .inl (E.2.1 0, 1100, .inl u32.2.2.2.1)), (wr, .inl (E.2.1 1, 1100, .inl u32.2.2.2.2.1)), (bt, .inl (E.2.1 0, 120000, .inl u32.2.2.2.2.2)), (s1, .inl (E.2.1 0, 47, .inl (zF 0))), (s2, .inl (E.2.1 0, 47, .inl (zF 1))), (s3, .inl (E.2.1 0, 47, .inl (zF 2)))] Hn := hPn
          have hD : va_D A [(mo, .inr (5, [.ref s1, .ref s2, .ref s3, .int u32.1.1, .int (nI nx), .ref mc, .int u32.1.2.1, .ref sv, .int u32.1.2.2.1, .ref sa, .ref wr, .int u32.1.2.2.2.1, .ref bt, .int (bI u32.1.2.2.2.2.1), .int u32.1.2.2.2.2.2.1, .int u32.1.2.2.2.2.2.2.1, .int u32.1.2.2.2.2.2.2.2.1, .int u32.1.2.2.2.2.2.2.2.2.1, .int u32.1.2.2.2.2.2.2.2.2.2.1, .int u32.1.2.2.2.2.2.2.2.2.2.2.1, .int u32.1.2.2.2.2.2.2.2.2.2.2.2.1, .int u32.1.2.2.2.2.2.2.2.2.2.2.2.2.1, .long u32.1.2.2.2.2.2.2.2.2.2.2.2.2.2.1, .int u32.1.2.2.2.2.2.2.2.2.2.2.2.2.2.2.1, .int u32.1.2.2.2.2.2.2.2.2.2.2.2.2.2.2.2.1, .int u32.1.2.2.2.2.2.2.2.2.2.2.2.2.2.2.2.2.1, .int (bI u32.1.2.2.2.2.2.2.2.2.2.2.2.2.2.2.2.2.2.1), .int u32.1.2.2.2.2.2.2.2.2.2.2.2.2.2.2.2.2.2.2.1, .int u32.1.2.2.2.2.2.2.2.2.2.2.2.2.2.2.2.2.2.2.2])), (mc, .inl (E.2.1 0, 139264, .inl u32.2.1)), (sv, .inl (E.2.1 0, 393216, .inl u32.2.2.1)), (sa, .inl (E.2.1 0, 1100, .inl u32.2.2.2.1)), (wr, .inl (E.2.1 1, 1100, .inl u32.2.2.2.2.1)), (bt, .inl (E.2.1 0, 120000, .inl u32.2.2.2.2.2)), (s1, .inl (E.2.1 0, 47, .inl (zF 0))), (s2, .inl (E.2.1 0, 47, .inl (zF 1))), (s3, .inl (E.2.1 0, 47, .inl (zF 2)))] := hDn
          have hS := hSn
          clear hPn hDn hSn
          refine lv_aload_n hx hb d_M_putOut_93 rfl (lv_at hl 2 rfl) ?_
          refine lv_aload_n hx hb d_M_putOut_94 rfl (lv_at hl 2 rfl) ?_
          refine va_get (D := E.1) (ci := 5) (v := .int u32.1.2.2.2.2.2.2.1) (C := R_M) (T := T_M) (N := 29) hx hb hts in_M hown hK hP 0 rfl rfl 15 (by decide) (hts _ m_625) (fun _ h9 => h9) rfl d_M_putOut_95 ?_
          refine lv_iload_n hx hb d_M_putOut_98 rfl (lv_at hl 0 rfl) ?_
          refine ar_irem hx hb d_M_putOut_99 (by decide) ?_
          refine lv_topi (fun x33 ex33 => ?_)
          replace hok := hok x33 ex33
          refine va_put (D := E.1) (ci := 5) (v := .int x33) (ty := .int) (C := R_M) (T := T_M) (N := 29) hx hb hts in_M t_M t_M_ok n_M hown hK hP hD hS 0 rfl rfl 15 (by decide) (hts _ m_625) (fun _ h9 => h9) rfl (by decide +kernel) rfl rfl (Nat.le_of_ble_eq_true rfl) d_M_putOut_100 (fun Hn locsn hPn hDn hSn => ?_)
          clear hP hD hS
          have hP : va_P E.1 classes [(mo, .inr (5, [.ref s1, .ref s2, .ref s3, .int u32.1.1, .int (nI nx), .ref mc, .int u32.1.2.1, .ref sv, .int u32.1.2.2.1, .ref sa, .ref wr, .int u32.1.2.2.2.1, .ref bt, .int (bI u32.1.2.2.2.2.1), .int u32.1.2.2.2.2.2.1, .int x33, .int u32.1.2.2.2.2.2.2.2.1, .int u32.1.2.2.2.2.2.2.2.2.1, .int u32.1.2.2.2.2.2.2.2.2.2.1, .int u32.1.2.2.2.2.2.2.2.2.2.2.1, .int u32.1.2.2.2.2.2.2.2.2.2.2.2.1, .int u32.1.2.2.2.2.2.2.2.2.2.2.2.2.1, .long u32.1.2.2.2.2.2.2.2.2.2.2.2.2.2.1, .int u32.1.2.2.2.2.2.2.2.2.2.2.2.2.2.2.1, .int u32.1.2.2.2.2.2.2.2.2.2.2.2.2.2.2.2.1, .int u32.1.2.2.2.2.2.2.2.2.2.2.2.2.2.2.2.2.1, .int (bI u32.1.2.2.2.2.2.2.2.2.2.2.2.2.2.2.2.2.2.1), .int u32.1.2.2.2.2.2.2.2.2.2.2.2.2.2.2.2.2.2.2.1, .int u32.1.2.2.2.2.2.2.2.2.2.2.2.2.2.2.2.2.2.2.2])), (mc, .inl (E.2.1 0, 139264, .inl u32.2.1)), (sv, .inl (E.2.1 0, 393216, .inl u32.2.2.1)), (sa, .inl (E.2.1 0, 1100, .inl u32.2.2.2.1)), (wr, .inl (E.2.1 1, 1100, .inl u32.2.2.2.2.1)), (bt, .inl (E.2.1 0, 120000, .inl u32.2.2.2.2.2)), (s1, .inl (E.2.1 0, 47, .inl (zF 0))), (s2, .inl (E.2.1 0, 47, .inl (zF 1))), (s3, .inl (E.2.1 0, 47, .inl (zF 2)))] Hn := hPn
          have hD : va_D A [(mo, .inr (5, [.ref s1, .ref s2, .ref s3, .int u32.1.1, .int (nI nx), .ref mc, .int u32.1.2.1, .ref sv, .int u32.1.2.2.1, .ref sa, .ref wr, .int u32.1.2.2.2.1, .ref bt, .int (bI u32.1.2.2.2.2.1), .int u32.1.2.2.2.2.2.1, .int x33, .int u32.1.2.2.2.2.2.2.2.1, .int u32.1.2.2.2.2.2.2.2.2.1, .int u32.1.2.2.2.2.2.2.2.2.2.1, .int u32.1.2.2.2.2.2.2.2.2.2.2.1, .int u32.1.2.2.2.2.2.2.2.2.2.2.2.1, .int u32.1.2.2.2.2.2.2.2.2.2.2.2.2.1, .long u32.1.2.2.2.2.2.2.2.2.2.2.2.2.2.1, .int u32.1.2.2.2.2.2.2.2.2.2.2.2.2.2.2.1, .int u32.1.2.2.2.2.2.2.2.2.2.2.2.2.2.2.2.1, .int u32.1.2.2.2.2.2.2.2.2.2.2.2.2.2.2.2.2.1, .int (bI u32.1.2.2.2.2.2.2.2.2.2.2.2.2.2.2.2.2.2.1), .int u32.1.2.2.2.2.2.2.2.2.2.2.2.2.2.2.2.2.2.2.1, .int u32.1.2.2.2.2.2.2.2.2.2.2.2.2.2.2.2.2.2.2.2])), (mc, .inl (E.2.1 0, 139264, .inl u32.2.1)), (sv, .inl (E.2.1 0, 393216, .inl u32.2.2.1)), (sa, .inl (E.2.1 0, 1100, .inl u32.2.2.2.1)), (wr, .inl (E.2.1 1, 1100, .inl u32.2.2.2.2.1)), (bt, .inl (E.2.1 0, 120000, .inl u32.2.2.2.2.2)), (s1, .inl (E.2.1 0, 47, .inl (zF 0))), (s2, .inl (E.2.1 0, 47, .inl (zF 1))), (s3, .inl (E.2.1 0, 47, .inl (zF 2)))] := hDn
          have hS := hSn
          clear hPn hDn hSn
          refine lv_aload_n hx hb d_M_putOut_103 rfl (lv_at hl 2 rfl) ?_
          refine lv_iload_n hx hb d_M_putOut_104 rfl (lv_at hl 1 rfl) ?_
          refine lv_if_eq (tgt := 113) hx hb d_M_putOut_105 (by decide) (fun cz => ?_) (fun cz => absurd c30 cz)
          refine lv_bipush (v := 8) hx hb d_M_putOut_113 (by decide) ?_
          refine va_put (D := E.1) (ci := 5) (v := .int 8) (ty := .int) (C := R_M) (T := T_M) (N := 29) hx hb hts in_M t_M t_M_ok n_M hown hK hP hD hS 0 rfl rfl 16 (by decide) (hts _ m_626) (fun _ h9 => h9) rfl (by decide +kernel) rfl rfl (Nat.le_of_ble_eq_true rfl) d_M_putOut_115 (fun Hn locsn hPn hDn hSn => ?_)
          clear hP hD hS
          have hP : va_P E.1 classes [(mo, .inr (5, [.ref s1, .ref s2, .ref s3, .int u32.1.1, .int (nI nx), .ref mc, .int u32.1.2.1, .ref sv, .int u32.1.2.2.1, .ref sa, .ref wr, .int u32.1.2.2.2.1, .ref bt, .int (bI u32.1.2.2.2.2.1), .int u32.1.2.2.2.2.2.1, .int x33, .int 8, .int u32.1.2.2.2.2.2.2.2.2.1, .int u32.1.2.2.2.2.2.2.2.2.2.1, .int u32.1.2.2.2.2.2.2.2.2.2.2.1, .int u32.1.2.2.2.2.2.2.2.2.2.2.2.1, .int u32.1.2.2.2.2.2.2.2.2.2.2.2.2.1, .long u32.1.2.2.2.2.2.2.2.2.2.2.2.2.2.1, .int u32.1.2.2.2.2.2.2.2.2.2.2.2.2.2.2.1, .int u32.1.2.2.2.2.2.2.2.2.2.2.2.2.2.2.2.1, .int u32.1.2.2.2.2.2.2.2.2.2.2.2.2.2.2.2.2.1, .int (bI u32.1.2.2.2.2.2.2.2.2.2.2.2.2.2.2.2.2.2.1), .int u32.1.2.2.2.2.2.2.2.2.2.2.2.2.2.2.2.2.2.2.1, .int u32.1.2.2.2.2.2.2.2.2.2.2.2.2.2.2.2.2.2.2.2])), (mc, .inl (E.2.1 0, 139264, .inl u32.2.1)), (sv, .inl (E.2.1 0, 393216, .inl u32.2.2.1)), (sa, .inl (E.2.1 0, 1100, .inl u32.2.2.2.1)), (wr, .inl (E.2.1 1, 1100, .inl u32.2.2.2.2.1)), (bt, .inl (E.2.1 0, 120000, .inl u32.2.2.2.2.2)), (s1, .inl (E.2.1 0, 47, .inl (zF 0))), (s2, .inl (E.2.1 0, 47, .inl (zF 1))), (s3, .inl (E.2.1 0, 47, .inl (zF 2)))] Hn := hPn
          have hD : va_D A [(mo, .inr (5, [.ref s1, .ref s2, .ref s3, .int u32.1.1, .int (nI nx), .ref mc, .int u32.1.2.1, .ref sv, .int u32.1.2.2.1, .ref sa, .ref wr, .int u32.1.2.2.2.1, .ref bt, .int (bI u32.1.2.2.2.2.1), .int u32.1.2.2.2.2.2.1, .int x33, .int 8, .int u32.1.2.2.2.2.2.2.2.2.1, .int u32.1.2.2.2.2.2.2.2.2.2.1, .int u32.1.2.2.2.2.2.2.2.2.2.2.1, .int u32.1.2.2.2.2.2.2.2.2.2.2.2.1, .int u32.1.2.2.2.2.2.2.2.2.2.2.2.2.1, .long u32.1.2.2.2.2.2.2.2.2.2.2.2.2.2.1, .int u32.1.2.2.2.2.2.2.2.2.2.2.2.2.2.2.1, .int u32.1.2.2.2.2.2.2.2.2.2.2.2.2.2.2.2.1, .int u32.1.2.2.2.2.2.2.2.2.2.2.2.2.2.2.2.2.1, .int (bI u32.1.2.2.2.2.2.2.2.2.2.2.2.2.2.2.2.2.2.1), .int u32.1.2.2.2.2.2.2.2.2.2.2.2.2.2.2.2.2.2.2.1, .int u32.1.2.2.2.2.2.2.2.2.2.2.2.2.2.2.2.2.2.2.2])), (mc, .inl (E.2.1 0, 139264, .inl u32.2.1)), (sv, .inl (E.2.1 0, 393216, .inl u32.2.2.1)), (sa, .inl (E.2.1 0, 1100, .inl u32.2.2.2.1)), (wr, .inl (E.2.1 1, 1100, .inl u32.2.2.2.2.1)), (bt, .inl (E.2.1 0, 120000, .inl u32.2.2.2.2.2)), (s1, .inl (E.2.1 0, 47, .inl (zF 0))), (s2, .inl (E.2.1 0, 47, .inl (zF 1))), (s3, .inl (E.2.1 0, 47, .inl (zF 2)))] := hDn
          have hS := hSn
          clear hPn hDn hSn
          exact ar_vret hx hb hr hlocks hK hS ((u32.1.1, u32.1.2.1, u32.1.2.2.1, u32.1.2.2.2.1, u32.1.2.2.2.2.1, u32.1.2.2.2.2.2.1, x33, 8, u32.1.2.2.2.2.2.2.2.2.1, u32.1.2.2.2.2.2.2.2.2.2.1, u32.1.2.2.2.2.2.2.2.2.2.2.1, u32.1.2.2.2.2.2.2.2.2.2.2.2.1, u32.1.2.2.2.2.2.2.2.2.2.2.2.2.1, u32.1.2.2.2.2.2.2.2.2.2.2.2.2.2.1, u32.1.2.2.2.2.2.2.2.2.2.2.2.2.2.2.1, u32.1.2.2.2.2.2.2.2.2.2.2.2.2.2.2.2.1, u32.1.2.2.2.2.2.2.2.2.2.2.2.2.2.2.2.2.1, u32.1.2.2.2.2.2.2.2.2.2.2.2.2.2.2.2.2.2.1, u32.1.2.2.2.2.2.2.2.2.2.2.2.2.2.2.2.2.2.2.1, u32.1.2.2.2.2.2.2.2.2.2.2.2.2.2.2.2.2.2.2.2), u32.2.1, u32.2.2.1, u32.2.2.2.1, u32.2.2.2.2.1, u32.2.2.2.2.2) (by subst ex33; subst hw32; subst eb29; subst ex27; subst eb20; subst ex16; subst eb2; exact Eq.symm (Eq.trans (f_M_putOut_s nx st) (Eq.trans (if_pos c3) (Eq.trans (if_neg c9) (Eq.trans (if_neg c21) (Eq.trans (if_pos c30) rfl)))))) hP hD d_M_putOut_118
        · replace hok := hok.2 c30
          refine lv_ldc (v := 1048576) hx hb hown (hts _ m_750) d_M_putOut_75 ?_
          refine lv_goto (tgt := 82) hx hb d_M_putOut_77 (by decide) ?_
          refine lv_istore_n (lv' := [(2, .int 1048576), (1, .int (bI b29)), (0, .ref mo)]) hx hb d_M_putOut_82 rfl hl (by decide) rfl (fun ls hl => ?_)
          refine lv_aload_n hx hb d_M_putOut_83 rfl (lv_at hl 2 rfl) ?_
          refine lv_aload_n hx hb d_M_putOut_84 rfl (lv_at hl 2 rfl) ?_
          refine va_get (D := E.1) (ci := 5) (v := .int x27) (C := R_M) (T := T_M) (N := 29) hx hb hts in_M hown hK hP 0 rfl rfl 15 (by decide) (hts _ m_625) (fun _ h9 => h9) rfl d_M_putOut_85 ?_
          refine lv_iload_n hx hb d_M_putOut_88 rfl (lv_at hl 0 rfl) ?_
          refine lv_idiv hx hb d_M_putOut_89 (by decide) ?_
          obtain ⟨hk34, hok⟩ := hok
          refine ar_usev (wr := []) hP hD hS hA [0, 1, 2, 3, 4, 5, 6, 7, 8] [] rfl rfl rfl (by decide) (ar_runV (n := 1) (As := [.int (x27 / 1048576)]) (rest := []) (ci := 5) (q0 := 0) hx hb hml hown hts hP hD hS hA hK hZ (c_M_put l E _ mo mc sv sa wr bt s1 s2 s3 nx ((st.1.1, st.1.2.1, st.1.2.2.1, st.1.2.2.2.1, st.1.2.2.2.2.1, st.1.2.2.2.2.2.1, x27, st.1.2.2.2.2.2.2.2.1, st.1.2.2.2.2.2.2.2.2.1, st.1.2.2.2.2.2.2.2.2.2.1, st.1.2.2.2.2.2.2.2.2.2.2.1, st.1.2.2.2.2.2.2.2.2.2.2.2.1, st.1.2.2.2.2.2.2.2.2.2.2.2.2.1, st.1.2.2.2.2.2.2.2.2.2.2.2.2.2.1, st.1.2.2.2.2.2.2.2.2.2.2.2.2.2.2.1, st.1.2.2.2.2.2.2.2.2.2.2.2.2.2.2.2.1, st.1.2.2.2.2.2.2.2.2.2.2.2.2.2.2.2.2.1, st.1.2.2.2.2.2.2.2.2.2.2.2.2.2.2.2.2.2.1, st.1.2.2.2.2.2.2.2.2.2.2.2.2.2.2.2.2.2.2.1, st.1.2.2.2.2.2.2.2.2.2.2.2.2.2.2.2.2.2.2.2), st.2.1, st.2.2.1, st.2.2.2.1, st.2.2.2.2.1, (upd st.2.2.2.2.2 (Int32.toNatClampNeg (st.1.2.2.2.1 - 1)) x16)) (x27 / 1048576) hk34) m_725 m_727 ms_25 m_7 m_728 (by decide +kernel) ⟨Nat.le_of_ble_eq_true rfl, Nat.le_of_ble_eq_true rfl⟩ [0, 1, 2, 3, 4, 5, 6, 7, 8] rfl rfl rfl rfl rfl rfl rfl hl.1 rfl (Nat.le_of_ble_eq_true rfl) d_M_putOut_90 ⟨Nat.le_of_ble_eq_true rfl, Nat.le_of_ble_eq_true rfl⟩) (fun u35 Hn locsn hw35 hPn hDn hSn => ?_)
          replace hok := hok u35 hw35
          clear hP hD hS
          have hP : va_P E.1 classes [(mo, .inr (5, [.ref s1, .ref s2, .ref s3, .int u35.1.1, .int (nI nx), .ref mc, .int u35.1.2.1, .ref sv, .int u35.1.2.2.1, .ref sa, .ref wr, .int u35.1.2.2.2.1, .ref bt, .int (bI u35.1.2.2.2.2.1), .int u35.1.2.2.2.2.2.1, .int u35.1.2.2.2.2.2.2.1, .int u35.1.2.2.2.2.2.2.2.1, .int u35.1.2.2.2.2.2.2.2.2.1, .int u35.1.2.2.2.2.2.2.2.2.2.1, .int u35.1.2.2.2.2.2.2.2.2.2.2.1, .int u35.1.2.2.2.2.2.2.2.2.2.2.2.1, .int u35.1.2.2.2.2.2.2.2.2.2.2.2.2.1, .long u35.1.2.2.2.2.2.2.2.2.2.2.2.2.2.1, .int u35.1.2.2.2.2.2.2.2.2.2.2.2.2.2.2.1, .int u35.1.2.2.2.2.2.2.2.2.2.2.2.2.2.2.2.1, .int u35.1.2.2.2.2.2.2.2.2.2.2.2.2.2.2.2.2.1, .int (bI u35.1.2.2.2.2.2.2.2.2.2.2.2.2.2.2.2.2.2.1), .int u35.1.2.2.2.2.2.2.2.2.2.2.2.2.2.2.2.2.2.2.1, .int u35.1.2.2.2.2.2.2.2.2.2.2.2.2.2.2.2.2.2.2.2])), (mc, .inl (E.2.1 0, 139264, .inl u35.2.1)), (sv, .inl (E.2.1 0, 393216, .inl u35.2.2.1)), (sa, .inl (E.2.1 0, 1100, .inl u35.2.2.2.1)), (wr, .inl (E.2.1 1, 1100, .inl u35.2.2.2.2.1)), (bt, .inl (E.2.1 0, 120000, .inl u35.2.2.2.2.2)), (s1, .inl (E.2.1 0, 47, .inl (zF 0))), (s2, .inl (E.2.1 0, 47, .inl (zF 1))), (s3, .inl (E.2.1 0, 47, .inl (zF 2)))] Hn := hPn
          have hD : va_D A [(mo, .inr (5, [.ref s1, .ref s2, .ref s3, .int u35.1.1, .int (nI nx), .ref mc, .int u35.1.2.1, .ref sv, .int u35.1.2.2.1, .ref sa, .ref wr, .int u35.1.2.2.2.1, .ref bt, .int (bI u35.1.2.2.2.2.1), .int u35.1.2.2.2.2.2.1, .int u35.1.2.2.2.2.2.2.1, .int u35.1.2.2.2.2.2.2.2.1, .int u35.1.2.2.2.2.2.2.2.2.1, .int u35.1.2.2.2.2.2.2.2.2.2.1, .int u35.1.2.2.2.2.2.2.2.2.2.2.1, .int u35.1.2.2.2.2.2.2.2.2.2.2.2.1, .int u35.1.2.2.2.2.2.2.2.2.2.2.2.2.1, .long u35.1.2.2.2.2.2.2.2.2.2.2.2.2.2.1, .int u35.1.2.2.2.2.2.2.2.2.2.2.2.2.2.2.1, .int u35.1.2.2.2.2.2.2.2.2.2.2.2.2.2.2.2.1, .int u35.1.2.2.2.2.2.2.2.2.2.2.2.2.2.2.2.2.1, .int (bI u35.1.2.2.2.2.2.2.2.2.2.2.2.2.2.2.2.2.2.1), .int u35.1.2.2.2.2.2.2.2.2.2.2.2.2.2.2.2.2.2.2.1, .int u35.1.2.2.2.2.2.2.2.2.2.2.2.2.2.2.2.2.2.2.2])), (mc, .inl (E.2.1 0, 139264, .inl u35.2.1)), (sv, .inl (E.2.1 0, 393216, .inl u35.2.2.1)), (sa, .inl (E.2.1 0, 1100, .inl u35.2.2.2.1)), (wr, .inl (E.2.1 1, 1100, .inl u35.2.2.2.2.1)), (bt, .inl (E.2.1 0, 120000, .inl u35.2.2.2.2.2)), (s1, .inl (E.2.1 0, 47, .inl (zF 0))), (s2, .inl (E.2.1 0, 47, .inl (zF 1))), (s3, .inl (E.2.1 0, 47, .inl (zF 2)))] := hDn
          have hS := hSn
          clear hPn hDn hSn
          refine lv_aload_n hx hb d_M_putOut_93 rfl (lv_at hl 2 rfl) ?_
          refine lv_aload_n hx hb d_M_putOut_94 rfl (lv_at hl 2 rfl) ?_
          refine va_get (D := E.1) (ci := 5) (v := .int u35.1.2.2.2.2.2.2.1) (C := R_M) (T := T_M) (N := 29) hx hb hts in_M hown hK hP 0 rfl rfl 15 (by decide) (hts _ m_625) (fun _ h9 => h9) rfl d_M_putOut_95 ?_
          refine lv_iload_n hx hb d_M_putOut_98 rfl (lv_at hl 0 rfl) ?_
          refine ar_irem hx hb d_M_putOut_99 (by decide) ?_
          refine lv_topi (fun x36 ex36 => ?_)
          replace hok := hok x36 ex36
          refine va_put (D := E.1) (ci := 5) (v := .int x36) (ty := .int) (C := R_M) (T := T_M) (N := 29) hx hb hts in_M t_M t_M_ok n_M hown hK hP hD hS 0 rfl rfl 15 (by decide) (hts _ m_625) (fun _ h9 => h9) rfl (by decide +kernel) rfl rfl (Nat.le_of_ble_eq_true rfl) d_M_putOut_100 (fun Hn locsn hPn hDn hSn => ?_)
          clear hP hD hS
          have hP : va_P E.1 classes [(mo, .inr (5, [.ref s1, .ref s2, .ref s3, .int u35.1.1, .int (nI nx), .ref mc, .int u35.1.2.1, .ref sv, .int u35.1.2.2.1, .ref sa, .ref wr, .int u35.1.2.2.2.1, .ref bt, .int (bI u35.1.2.2.2.2.1), .int u35.1.2.2.2.2.2.1, .int x36, .int u35.1.2.2.2.2.2.2.2.1, .int u35.1.2.2.2.2.2.2.2.2.1, .int u35.1.2.2.2.2.2.2.2.2.2.1, .int u35.1.2.2.2.2.2.2.2.2.2.2.1, .int u35.1.2.2.2.2.2.2.2.2.2.2.2.1, .int u35.1.2.2.2.2.2.2.2.2.2.2.2.2.1, .long u35.1.2.2.2.2.2.2.2.2.2.2.2.2.2.1, .int u35.1.2.2.2.2.2.2.2.2.2.2.2.2.2.2.1, .int u35.1.2.2.2.2.2.2.2.2.2.2.2.2.2.2.2.1, .int u35.1.2.2.2.2.2.2.2.2.2.2.2.2.2.2.2.2.1, .int (bI u35.1.2.2.2.2.2.2.2.2.2.2.2.2.2.2.2.2.2.1), .int u35.1.2.2.2.2.2.2.2.2.2.2.2.2.2.2.2.2.2.2.1, .int u35.1.2.2.2.2.2.2.2.2.2.2.2.2.2.2.2.2.2.2.2])), (mc, .inl (E.2.1 0, 139264, .inl u35.2.1)), (sv, .inl (E.2.1 0, 393216, .inl u35.2.2.1)), (sa, .inl (E.2.1 0, 1100, .inl u35.2.2.2.1)), (wr, .inl (E.2.1 1, 1100, .inl u35.2.2.2.2.1)), (bt, .inl (E.2.1 0, 120000, .inl u35.2.2.2.2.2)), (s1, .inl (E.2.1 0, 47, .inl (zF 0))), (s2, .inl (E.2.1 0, 47, .inl (zF 1))), (s3, .inl (E.2.1 0, 47, .inl (zF 2)))] Hn := hPn
          have hD : va_D A [(mo, .inr (5, [.ref s1, .ref s2, .ref s3, .int u35.1.1, .int (nI nx), .ref mc, .int u35.1.2.1, .ref sv, .int u35.1.2.2.1, .ref sa, .ref wr, .int u35.1.2.2.2.1, .ref bt, .int (bI u35.1.2.2.2.2.1), .int u35.1.2.2.2.2.2.1, .int x36, .int u35.1.2.2.2.2.2.2.2.1, .int u35.1.2.2.2.2.2.2.2.2.1, .int u35.1.2.2.2.2.2.2.2.2.2.1, .int u35.1.2.2.2.2.2.2.2.2.2.2.1, .int u35.1.2.2.2.2.2.2.2.2.2.2.2.1, .int u35.1.2.2.2.2.2.2.2.2.2.2.2.2.1, .long u35.1.2.2.2.2.2.2.2.2.2.2.2.2.2.1, .int u35.1.2.2.2.2.2.2.2.2.2.2.2.2.2.2.1, .int u35.1.2.2.2.2.2.2.2.2.2.2.2.2.2.2.2.1, .int u35.1.2.2.2.2.2.2.2.2.2.2.2.2.2.2.2.2.1, .int (bI u35.1.2.2.2.2.2.2.2.2.2.2.2.2.2.2.2.2.2.1), .int u35.1.2.2.2.2.2.2.2.2.2.2.2.2.2.2.2.2.2.2.1, .int u35.1.2.2.2.2.2.2.2.2.2.2.2.2.2.2.2.2.2.2.2])), (mc, .inl (E.2.1 0, 139264, .inl u35.2.1)), (sv, .inl (E.2.1 0, 393216, .inl u35.2.2.1)), (sa, .inl (E.2.1 0, 1100, .inl u35.2.2.2.1)), (wr, .inl (E.2.1 1, 1100, .inl u35.2.2.2.2.1)), (bt, .inl (E.2.1 0, 120000, .inl u35.2.2.2.2.2)), (s1, .inl (E.2.1 0, 47, .inl (zF 0))), (s2, .inl (E.2.1 0, 47, .inl (zF 1))), (s3, .inl (E.2.1 0, 47, .inl (zF 2)))] := hDn
          have hS := hSn
          clear hPn hDn hSn
          refine lv_aload_n hx hb d_M_putOut_103 rfl (lv_at hl 2 rfl) ?_
          refine lv_iload_n hx hb d_M_putOut_104 rfl (lv_at hl 1 rfl) ?_
          refine lv_if_eq (tgt := 113) hx hb d_M_putOut_105 (by decide) (fun cz => absurd cz c30) (fun cz => ?_)
          refine lv_bipush (v := 7) hx hb d_M_putOut_108 (by decide) ?_
          refine lv_goto (tgt := 115) hx hb d_M_putOut_110 (by decide) ?_
          refine va_put (D := E.1) (ci := 5) (v := .int 7) (ty := .int) (C := R_M) (T := T_M) (N := 29) hx hb hts in_M t_M t_M_ok n_M hown hK hP hD hS 0 rfl rfl 16 (by decide) (hts _ m_626) (fun _ h9 => h9) rfl (by decide +kernel) rfl rfl (Nat.le_of_ble_eq_true rfl) d_M_putOut_115 (fun Hn locsn hPn hDn hSn => ?_)
          clear hP hD hS
          have hP : va_P E.1 classes [(mo, .inr (5, [.ref s1, .ref s2, .ref s3, .int u35.1.1, .int (nI nx), .ref mc, .int u35.1.2.1, .ref sv, .int u35.1.2.2.1, .ref sa, .ref wr, .int u35.1.2.2.2.1, .ref bt, .int (bI u35.1.2.2.2.2.1), .int u35.1.2.2.2.2.2.1, .int x36, .int 7, .int u35.1.2.2.2.2.2.2.2.2.1, .int u35.1.2.2.2.2.2.2.2.2.2.1, .int u35.1.2.2.2.2.2.2.2.2.2.2.1, .int u35.1.2.2.2.2.2.2.2.2.2.2.2.1, .int u35.1.2.2.2.2.2.2.2.2.2.2.2.2.1, .long u35.1.2.2.2.2.2.2.2.2.2.2.2.2.2.1, .int u35.1.2.2.2.2.2.2.2.2.2.2.2.2.2.2.1, .int u35.1.2.2.2.2.2.2.2.2.2.2.2.2.2.2.2.1, .int u35.1.2.2.2.2.2.2.2.2.2.2.2.2.2.2.2.2.1, .int (bI u35.1.2.2.2.2.2.2.2.2.2.2.2.2.2.2.2.2.2.1), .int u35.1.2.2.2.2.2.2.2.2.2.2.2.2.2.2.2.2.2.2.1, .int u35.1.2.2.2.2.2.2.2.2.2.2.2.2.2.2.2.2.2.2.2])), (mc, .inl (E.2.1 0, 139264, .inl u35.2.1)), (sv, .inl (E.2.1 0, 393216, .inl u35.2.2.1)), (sa, .inl (E.2.1 0, 1100, .inl u35.2.2.2.1)), (wr, .inl (E.2.1 1, 1100, .inl u35.2.2.2.2.1)), (bt, .inl (E.2.1 0, 120000, .inl u35.2.2.2.2.2)), (s1, .inl (E.2.1 0, 47, .inl (zF 0))), (s2, .inl (E.2.1 0, 47, .inl (zF 1))), (s3, .inl (E.2.1 0, 47, .inl (zF 2)))] Hn := hPn
          have hD : va_D A [(mo, .inr (5, [.ref s1, .ref s2, .ref s3, .int u35.1.1, .int (nI nx), .ref mc, .int u35.1.2.1, .ref sv, .int u35.1.2.2.1, .ref sa, .ref wr, .int u35.1.2.2.2.1, .ref bt, .int (bI u35.1.2.2.2.2.1), .int u35.1.2.2.2.2.2.1, .int x36, .int 7, .int u35.1.2.2.2.2.2.2.2.2.1, .int u35.1.2.2.2.2.2.2.2.2.2.1, .int u35.1.2.2.2.2.2.2.2.2.2.2.1, .int u35.1.2.2.2.2.2.2.2.2.2.2.2.1, .int u35.1.2.2.2.2.2.2.2.2.2.2.2.2.1, .long u35.1.2.2.2.2.2.2.2.2.2.2.2.2.2.1, .int u35.1.2.2.2.2.2.2.2.2.2.2.2.2.2.2.1, .int u35.1.2.2.2.2.2.2.2.2.2.2.2.2.2.2.2.1, .int u35.1.2.2.2.2.2.2.2.2.2.2.2.2.2.2.2.2.1, .int (bI u35.1.2.2.2.2.2.2.2.2.2.2.2.2.2.2.2.2.2.1), .int u35.1.2.2.2.2.2.2.2.2.2.2.2.2.2.2.2.2.2.2.1, .int u35.1.2.2.2.2.2.2.2.2.2.2.2.2.2.2.2.2.2.2.2])), (mc, .inl (E.2.1 0, 139264, .inl u35.2.1)), (sv, .inl (E.2.1 0, 393216, .inl u35.2.2.1)), (sa, .inl (E.2.1 0, 1100, .inl u35.2.2.2.1)), (wr, .inl (E.2.1 1, 1100, .inl u35.2.2.2.2.1)), (bt, .inl (E.2.1 0, 120000, .inl u35.2.2.2.2.2)), (s1, .inl (E.2.1 0, 47, .inl (zF 0))), (s2, .inl (E.2.1 0, 47, .inl (zF 1))), (s3, .inl (E.2.1 0, 47, .inl (zF 2)))] := hDn
          have hS := hSn
          clear hPn hDn hSn
          exact ar_vret hx hb hr hlocks hK hS ((u35.1.1, u35.1.2.1, u35.1.2.2.1, u35.1.2.2.2.1, u35.1.2.2.2.2.1, u35.1.2.2.2.2.2.1, x36, 7, u35.1.2.2.2.2.2.2.2.2.1, u35.1.2.2.2.2.2.2.2.2.2.1, u35.1.2.2.2.2.2.2.2.2.2.2.1, u35.1.2.2.2.2.2.2.2.2.2.2.2.1, u35.1.2.2.2.2.2.2.2.2.2.2.2.2.1, u35.1.2.2.2.2.2.2.2.2.2.2.2.2.2.1, u35.1.2.2.2.2.2.2.2.2.2.2.2.2.2.2.1, u35.1.2.2.2.2.2.2.2.2.2.2.2.2.2.2.2.1, u35.1.2.2.2.2.2.2.2.2.2.2.2.2.2.2.2.2.1, u35.1.2.2.2.2.2.2.2.2.2.2.2.2.2.2.2.2.2.1, u35.1.2.2.2.2.2.2.2.2.2.2.2.2.2.2.2.2.2.2.1, u35.1.2.2.2.2.2.2.2.2.2.2.2.2.2.2.2.2.2.2.2), u35.2.1, u35.2.2.1, u35.2.2.2.1, u35.2.2.2.2.1, u35.2.2.2.2.2) (by subst ex36; subst hw35; subst eb29; subst ex27; subst eb20; subst ex16; subst eb2; exact Eq.symm (Eq.trans (f_M_putOut_s nx st) (Eq.trans (if_pos c3) (Eq.trans (if_neg c9) (Eq.trans (if_neg c21) (Eq.trans (if_neg c30) rfl)))))) hP hD d_M_putOut_118
