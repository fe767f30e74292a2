/-! Table, at, longerPath: contracts -/
noncomputable def f_X_at0 (p1 : Int32)  : Int32 :=
  if p1 < 0 then
    0
  else
    if 47 ≤ p1 then
      0
    else
      (zF 0 (Int32.toNatClampNeg p1))
theorem f_X_at0_s (p1 : Int32)  : f_X_at0 p1  = ((
  if p1 < 0 then
    0
  else
    if 47 ≤ p1 then
      0
    else
      (zF 0 (Int32.toNatClampNeg p1))
  : Int32)) := rfl
set_option maxHeartbeats 4000000 in
set_option maxRecDepth 100000 in
theorem c_X_at0 (l : Launch) (E : Ev) (A : Nat → Prop)   (p1 : Int32)  :
    Kt l y_X_at b_X_at 2 (some .int) 0 0 0 E A [.ref (E.2.2 0), .int p1] [] (va_Qi (fun (r : Int32) (_ : Unit) => r = f_X_at0 p1) (ar_W E A (fun _ : Unit => [])) A) := by
  refine Kt.of (by decide) (Nat.le_of_ble_eq_true rfl) ?_
  intro p e s m below meth c ls hx hb hml hown hts hr hlocks hex hin hA hZ hP hK hD hl
  have hS : va_S A s.heap s.heap [] := va_S.rf
  have hl : lv_has ls 2 [(0, .ref (E.2.2 0)), (1, .int p1)] := hl
  refine lv_iload_n hx hb d_X_at_0 rfl (lv_at hl 1 rfl) ?_
  refine lv_if_lt (tgt := 16) hx hb d_X_at_1 (by decide) (fun c1 => ?_) (fun c1 => ?_)
  · skip
    refine lv_iconst (v := 0) hx hb d_X_at_16 (by decide) ?_
    exact ar_iret hx hb hr hlocks hK hS () (by exact Eq.symm (Eq.trans (f_X_at0_s p1 ) (Eq.trans (if_pos c1) rfl))) hP hD d_X_at_17
  · skip
    refine lv_iload_n hx hb d_X_at_4 rfl (lv_at hl 1 rfl) ?_
    refine lv_aload_n hx hb d_X_at_5 rfl (lv_at hl 0 rfl) ?_
    refine va_tlen (A := A) (v := 47) hx hb (hZ.1 0 (by decide)).2 hS rfl d_X_at_6 ?_
    refine lv_icmp_ge (tgt := 16) hx hb d_X_at_7 (by decide) (fun c2 => ?_) (fun c2 => ?_)
    · skip
      refine lv_iconst (v := 0) hx hb d_X_at_16 (by decide) ?_
      exact ar_iret hx hb hr hlocks hK hS () (by exact Eq.symm (Eq.trans (f_X_at0_s p1 ) (Eq.trans (if_neg c1) (Eq.trans (if_pos c2) rfl)))) hP hD d_X_at_17
    · skip
      refine lv_aload_n hx hb d_X_at_10 rfl (lv_at hl 0 rfl) ?_
      refine lv_iload_n hx hb d_X_at_11 rfl (lv_at hl 1 rfl) ?_
      refine va_ti (A := A) (f := fun j => .int (zF 0 j)) (N := 47) hx hb (hZ.1 0 (by decide)).2 hS (in_of (k := 47) (by decide) (by assumption) (by assumption)) rfl d_X_at_12 ?_
      refine lv_goto (tgt := 17) hx hb d_X_at_13 (by decide) ?_
      exact ar_iret hx hb hr hlocks hK hS () (by exact Eq.symm (Eq.trans (f_X_at0_s p1 ) (Eq.trans (if_neg c1) (Eq.trans (if_neg c2) rfl)))) hP hD d_X_at_17

noncomputable def f_X_at1 (p1 : Int32)  : Int32 :=
  if p1 < 0 then
    0
  else
    if 47 ≤ p1 then
      0
    else
      (zF 1 (Int32.toNatClampNeg p1))
theorem f_X_at1_s (p1 : Int32)  : f_X_at1 p1  = ((
  if p1 < 0 then
    0
  else
    if 47 ≤ p1 then
      0
    else
      (zF 1 (Int32.toNatClampNeg p1))
  : Int32)) := rfl
set_option maxHeartbeats 4000000 in
set_option maxRecDepth 100000 in
theorem c_X_at1 (l : Launch) (E : Ev) (A : Nat → Prop)   (p1 : Int32)  :
    Kt l y_X_at b_X_at 2 (some .int) 0 0 0 E A [.ref (E.2.2 1), .int p1] [] (va_Qi (fun (r : Int32) (_ : Unit) => r = f_X_at1 p1) (ar_W E A (fun _ : Unit => [])) A) := by
  refine Kt.of (by decide) (Nat.le_of_ble_eq_true rfl) ?_
  intro p e s m below meth c ls hx hb hml hown hts hr hlocks hex hin hA hZ hP hK hD hl
  have hS : va_S A s.heap s.heap [] := va_S.rf
  have hl : lv_has ls 2 [(0, .ref (E.2.2 1)), (1, .int p1)] := hl
  refine lv_iload_n hx hb d_X_at_0 rfl (lv_at hl 1 rfl) ?_
  refine lv_if_lt (tgt := 16) hx hb d_X_at_1 (by decide) (fun c1 => ?_) (fun c1 => ?_)
  · skip
    refine lv_iconst (v := 0) hx hb d_X_at_16 (by decide) ?_
    exact ar_iret hx hb hr hlocks hK hS () (by exact Eq.symm (Eq.trans (f_X_at1_s p1 ) (Eq.trans (if_pos c1) rfl))) hP hD d_X_at_17
  · skip
    refine lv_iload_n hx hb d_X_at_4 rfl (lv_at hl 1 rfl) ?_
    refine lv_aload_n hx hb d_X_at_5 rfl (lv_at hl 0 rfl) ?_
    refine va_tlen (A := A) (v := 47) hx hb (hZ.1 1 (by decide)).2 hS rfl d_X_at_6 ?_
    refine lv_icmp_ge (tgt := 16) hx hb d_X_at_7 (by decide) (fun c2 => ?_) (fun c2 => ?_)
    · skip
      refine lv_iconst (v := 0) hx hb d_X_at_16 (by decide) ?_
      exact ar_iret hx hb hr hlocks hK hS () (by exact Eq.symm (Eq.trans (f_X_at1_s p1 ) (Eq.trans (if_neg c1) (Eq.trans (if_pos c2) rfl)))) hP hD d_X_at_17
    · skip
      refine lv_aload_n hx hb d_X_at_10 rfl (lv_at hl 0 rfl) ?_
      refine lv_iload_n hx hb d_X_at_11 rfl (lv_at hl 1 rfl) ?_
      refine va_ti (A := A) (f := fun j => .int (zF 1 j)) (N := 47) hx hb (hZ.1 1 (by decide)).2 hS (in_of (k := 47) (by decide) (by assumption) (by assumption)) rfl d_X_at_12 ?_
      refine lv_goto (tgt := 17) hx hb d_X_at_13 (by decide) ?_
      exact ar_iret hx hb hr hlocks hK hS () (by exact Eq.symm (Eq.trans (f_X_at1_s p1 ) (Eq.trans (if_neg c1) (Eq.trans (if_neg c2) rfl)))) hP hD d_X_at_17

noncomputable def f_X_at2 (p1 : Int32)  : Int32 :=
  if p1 < 0 then
    0
  else
    if 47 ≤ p1 then
      0
    else
      (zF 2 (Int32.toNatClampNeg p1))
theorem f_X_at2_s (p1 : Int32)  : f_X_at2 p1  = ((
  if p1 < 0 then
    0
  else
    if 47 ≤ p1 then
      0
    else
      (zF 2 (Int32.toNatClampNeg p1))
  : Int32)) := rfl
set_option maxHeartbeats 4000000 in
set_option maxRecDepth 100000 in
theorem c_X_at2 (l : Launch) (E : Ev) (A : Nat → Prop)   (p1 : Int32)  :
    Kt l y_X_at b_X_at 2 (some .int) 0 0 0 E A [.ref (E.2.2 2), .int p1] [] (va_Qi (fun (r : Int32) (_ : Unit) => r = f_X_at2 p1) (ar_W E A (fun _ : Unit => [])) A) := by
  refine Kt.of (by decide) (Nat.le_of_ble_eq_true rfl) ?_
  intro p e s m below meth c ls hx hb hml hown hts hr hlocks hex hin hA hZ hP hK hD hl
  have hS : va_S A s.heap s.heap [] := va_S.rf
  have hl : lv_has ls 2 [(0, .ref (E.2.2 2)), (1, .int p1)] := hl
  refine lv_iload_n hx hb d_X_at_0 rfl (lv_at hl 1 rfl) ?_
  refine lv_if_lt (tgt := 16) hx hb d_X_at_1 (by decide) (fun c1 => ?_) (fun c1 => ?_)
  · skip
    refine lv_iconst (v := 0) hx hb d_X_at_16 (by decide) ?_
    exact ar_iret hx hb hr hlocks hK hS () (by exact Eq.symm (Eq.trans (f_X_at2_s p1 ) (Eq.trans (if_pos c1) rfl))) hP hD d_X_at_17
  · skip
    refine lv_iload_n hx hb d_X_at_4 rfl (lv_at hl 1 rfl) ?_
    refine lv_aload_n hx hb d_X_at_5 rfl (lv_at hl 0 rfl) ?_
    refine va_tlen (A := A) (v := 47) hx hb (hZ.1 2 (by decide)).2 hS rfl d_X_at_6 ?_
    refine lv_icmp_ge (tgt := 16) hx hb d_X_at_7 (by decide) (fun c2 => ?_) (fun c2 => ?_)
    · skip
      refine lv_iconst (v := 0) hx hb d_X_at_16 (by decide) ?_
      exact ar_iret hx hb hr hlocks hK hS () (by exact Eq.symm (Eq.trans (f_X_at2_s p1 ) (Eq.trans (if_neg c1) (Eq.trans (if_pos c2) rfl)))) hP hD d_X_at_17
    · skip
      refine lv_aload_n hx hb d_X_at_10 rfl (lv_at hl 0 rfl) ?_
      refine lv_iload_n hx hb d_X_at_11 rfl (lv_at hl 1 rfl) ?_
      refine va_ti (A := A) (f := fun j => .int (zF 2 j)) (N := 47) hx hb (hZ.1 2 (by decide)).2 hS (in_of (k := 47) (by decide) (by assumption) (by assumption)) rfl d_X_at_12 ?_
      refine lv_goto (tgt := 17) hx hb d_X_at_13 (by decide) ?_
      exact ar_iret hx hb hr hlocks hK hS () (by exact Eq.symm (Eq.trans (f_X_at2_s p1 ) (Eq.trans (if_neg c1) (Eq.trans (if_neg c2) rfl)))) hP hD d_X_at_17

noncomputable def f_X_at3 (p1 : Int32)  : Int32 :=
  if p1 < 0 then
    0
  else
    if 6 ≤ p1 then
      0
    else
      (zF 3 (Int32.toNatClampNeg p1))
theorem f_X_at3_s (p1 : Int32)  : f_X_at3 p1  = ((
  if p1 < 0 then
    0
  else
    if 6 ≤ p1 then
      0
    else
      (zF 3 (Int32.toNatClampNeg p1))
  : Int32)) := rfl
set_option maxHeartbeats 4000000 in
set_option maxRecDepth 100000 in
theorem c_X_at3 (l : Launch) (E : Ev) (A : Nat → Prop)   (p1 : Int32)  :
    Kt l y_X_at b_X_at 2 (some .int) 0 0 0 E A [.ref (E.2.2 3), .int p1] [] (va_Qi (fun (r : Int32) (_ : Unit) => r = f_X_at3 p1) (ar_W E A (fun _ : Unit => [])) A) := by
  refine Kt.of (by decide) (Nat.le_of_ble_eq_true rfl) ?_
  intro p e s m below meth c ls hx hb hml hown hts hr hlocks hex hin hA hZ hP hK hD hl
  have hS : va_S A s.heap s.heap [] := va_S.rf
  have hl : lv_has ls 2 [(0, .ref (E.2.2 3)), (1, .int p1)] := hl
  refine lv_iload_n hx hb d_X_at_0 rfl (lv_at hl 1 rfl) ?_
  refine lv_if_lt (tgt := 16) hx hb d_X_at_1 (by decide) (fun c1 => ?_) (fun c1 => ?_)
  · skip
    refine lv_iconst (v := 0) hx hb d_X_at_16 (by decide) ?_
    exact ar_iret hx hb hr hlocks hK hS () (by exact Eq.symm (Eq.trans (f_X_at3_s p1 ) (Eq.trans (if_pos c1) rfl))) hP hD d_X_at_17
  · skip
    refine lv_iload_n hx hb d_X_at_4 rfl (lv_at hl 1 rfl) ?_
    refine lv_aload_n hx hb d_X_at_5 rfl (lv_at hl 0 rfl) ?_
    refine va_tlen (A := A) (v := 6) hx hb (hZ.1 3 (by decide)).2 hS rfl d_X_at_6 ?_
    refine lv_icmp_ge (tgt := 16) hx hb d_X_at_7 (by decide) (fun c2 => ?_) (fun c2 => ?_)
    · skip
      refine lv_iconst (v := 0) hx hb d_X_at_16 (by decide) ?_
      exact ar_iret hx hb hr hlocks hK hS () (by exact Eq.symm (Eq.trans (f_X_at3_s p1 ) (Eq.trans (if_neg c1) (Eq.trans (if_pos c2) rfl)))) hP hD d_X_at_17
    · skip
      refine lv_aload_n hx hb d_X_at_10 rfl (lv_at hl 0 rfl) ?_
      refine lv_iload_n hx hb d_X_at_11 rfl (lv_at hl 1 rfl) ?_
      refine va_ti (A := A) (f := fun j => .int (zF 3 j)) (N := 6) hx hb (hZ.1 3 (by decide)).2 hS (in_of (k := 6) (by decide) (by assumption) (by assumption)) rfl d_X_at_12 ?_
      refine lv_goto (tgt := 17) hx hb d_X_at_13 (by decide) ?_
      exact ar_iret hx hb hr hlocks hK hS () (by exact Eq.symm (Eq.trans (f_X_at3_s p1 ) (Eq.trans (if_neg c1) (Eq.trans (if_neg c2) rfl)))) hP hD d_X_at_17

noncomputable def f_X_at4 (p1 : Int32)  : Int32 :=
  if p1 < 0 then
    0
  else
    if 6 ≤ p1 then
      0
    else
      (zF 4 (Int32.toNatClampNeg p1))
theorem f_X_at4_s (p1 : Int32)  : f_X_at4 p1  = ((
  if p1 < 0 then
    0
  else
    if 6 ≤ p1 then
      0
    else
      (zF 4 (Int32.toNatClampNeg p1))
  : Int32)) := rfl
set_option maxHeartbeats 4000000 in
set_option maxRecDepth 100000 in
theorem c_X_at4 (l : Launch) (E : Ev) (A : Nat → Prop)   (p1 : Int32)  :
    Kt l y_X_at b_X_at 2 (some .int) 0 0 0 E A [.ref (E.2.2 4), .int p1] [] (va_Qi (fun (r : Int32) (_ : Unit) => r = f_X_at4 p1) (ar_W E A (fun _ : Unit => [])) A) := by
  refine Kt.of (by decide) (Nat.le_of_ble_eq_true rfl) ?_
  intro p e s m below meth c ls hx hb hml hown hts hr hlocks hex hin hA hZ hP hK hD hl
  have hS : va_S A s.heap s.heap [] := va_S.rf
  have hl : lv_has ls 2 [(0, .ref (E.2.2 4)), (1, .int p1)] := hl
  refine lv_iload_n hx hb d_X_at_0 rfl (lv_at hl 1 rfl) ?_
  refine lv_if_lt (tgt := 16) hx hb d_X_at_1 (by decide) (fun c1 => ?_) (fun c1 => ?_)
  · skip
    refine lv_iconst (v := 0) hx hb d_X_at_16 (by decide) ?_
    exact ar_iret hx hb hr hlocks hK hS () (by exact Eq.symm (Eq.trans (f_X_at4_s p1 ) (Eq.trans (if_pos c1) rfl))) hP hD d_X_at_17
  · skip
    refine lv_iload_n hx hb d_X_at_4 rfl (lv_at hl 1 rfl) ?_
    refine lv_aload_n hx hb d_X_at_5 rfl (lv_at hl 0 rfl) ?_
    refine va_tlen (A := A) (v := 6) hx hb (hZ.1 4 (by decide)).2 hS rfl d_X_at_6 ?_
    refine lv_icmp_ge (tgt := 16) hx hb d_X_at_7 (by decide) (fun c2 => ?_) (fun c2 => ?_)
    · skip
      refine lv_iconst (v := 0) hx hb d_X_at_16 (by decide) ?_
      exact ar_iret hx hb hr hlocks hK hS () (by exact Eq.symm (Eq.trans (f_X_at4_s p1 ) (Eq.trans (if_neg c1) (Eq.trans (if_pos c2) rfl)))) hP hD d_X_at_17
    · skip
      refine lv_aload_n hx hb d_X_at_10 rfl (lv_at hl 0 rfl) ?_
      refine lv_iload_n hx hb d_X_at_11 rfl (lv_at hl 1 rfl) ?_
      refine va_ti (A := A) (f := fun j => .int (zF 4 j)) (N := 6) hx hb (hZ.1 4 (by decide)).2 hS (in_of (k := 6) (by decide) (by assumption) (by assumption)) rfl d_X_at_12 ?_
      refine lv_goto (tgt := 17) hx hb d_X_at_13 (by decide) ?_
      exact ar_iret hx hb hr hlocks hK hS () (by exact Eq.symm (Eq.trans (f_X_at4_s p1 ) (Eq.trans (if_neg c1) (Eq.trans (if_neg c2) rfl)))) hP hD d_X_at_17

noncomputable def f_X_at5 (p1 : Int32)  : Int32 :=
  if p1 < 0 then
    0
  else
    if 6 ≤ p1 then
      0
    else
      (zF 5 (Int32.toNatClampNeg p1))
theorem f_X_at5_s (p1 : Int32)  : f_X_at5 p1  = ((
  if p1 < 0 then
    0
  else
    if 6 ≤ p1 then
      0
    else
      (zF 5 (Int32.toNatClampNeg p1))
  : Int32)) := rfl
set_option maxHeartbeats 4000000 in
set_option maxRecDepth 100000 in
theorem c_X_at5 (l : Launch) (E : Ev) (A : Nat → Prop)   (p1 : Int32)  :
    Kt l y_X_at b_X_at 2 (some .int) 0 0 0 E A [.ref (E.2.2 5), .int p1] [] (va_Qi (fun (r : Int32) (_ : Unit) => r = f_X_at5 p1) (ar_W E A (fun _ : Unit => [])) A) := by
  refine Kt.of (by decide) (Nat.le_of_ble_eq_true rfl) ?_
  intro p e s m below meth c ls hx hb hml hown hts hr hlocks hex hin hA hZ hP hK hD hl
  have hS : va_S A s.heap s.heap [] := va_S.rf
  have hl : lv_has ls 2 [(0, .ref (E.2.2 5)), (1, .int p1)] := hl
  refine lv_iload_n hx hb d_X_at_0 rfl (lv_at hl 1 rfl) ?_
  refine lv_if_lt (tgt := 16) hx hb d_X_at_1 (by decide) (fun c1 => ?_) (fun c1 => ?_)
  · skip
    refine lv_iconst (v := 0) hx hb d_X_at_16 (by decide) ?_
    exact ar_iret hx hb hr hlocks hK hS () (by exact Eq.symm (Eq.trans (f_X_at5_s p1 ) (Eq.trans (if_pos c1) rfl))) hP hD d_X_at_17
  · skip
    refine lv_iload_n hx hb d_X_at_4 rfl (lv_at hl 1 rfl) ?_
    refine lv_aload_n hx hb d_X_at_5 rfl (lv_at hl 0 rfl) ?_
    refine va_tlen (A := A) (v := 6) hx hb (hZ.1 5 (by decide)).2 hS rfl d_X_at_6 ?_
    refine lv_icmp_ge (tgt := 16) hx hb d_X_at_7 (by decide) (fun c2 => ?_) (fun c2 => ?_)
    · skip
      refine lv_iconst (v := 0) hx hb d_X_at_16 (by decide) ?_
      exact ar_iret hx hb hr hlocks hK hS () (by exact Eq.symm (Eq.trans (f_X_at5_s p1 ) (Eq.trans (if_neg c1) (Eq.trans (if_pos c2) rfl)))) hP hD d_X_at_17
    · skip
      refine lv_aload_n hx hb d_X_at_10 rfl (lv_at hl 0 rfl) ?_
      refine lv_iload_n hx hb d_X_at_11 rfl (lv_at hl 1 rfl) ?_
      refine va_ti (A := A) (f := fun j => .int (zF 5 j)) (N := 6) hx hb (hZ.1 5 (by decide)).2 hS (in_of (k := 6) (by decide) (by assumption) (by assumption)) rfl d_X_at_12 ?_
      refine lv_goto (tgt := 17) hx hb d_X_at_13 (by decide) ?_
      exact ar_iret hx hb hr hlocks hK hS () (by exact Eq.symm (Eq.trans (f_X_at5_s p1 ) (Eq.trans (if_neg c1) (Eq.trans (if_neg c2) rfl)))) hP hD d_X_at_17

noncomputable def f_X_at6 (p1 : Int32)  : Int32 :=
  if p1 < 0 then
    0
  else
    if 6 ≤ p1 then
      0
    else
      (zF 6 (Int32.toNatClampNeg p1))
theorem f_X_at6_s (p1 : Int32)  : f_X_at6 p1  = ((
  if p1 < 0 then
    0
  else
    if 6 ≤ p1 then
      0
    else
      (zF 6 (Int32.toNatClampNeg p1))
  : Int32)) := rfl
set_option maxHeartbeats 4000000 in
set_option maxRecDepth 100000 in
theorem c_X_at6 (l : Launch) (E : Ev) (A : Nat → Prop)   (p1 : Int32)  :
    Kt l y_X_at b_X_at 2 (some .int) 0 0 0 E A [.ref (E.2.2 6), .int p1] [] (va_Qi (fun (r : Int32) (_ : Unit) => r = f_X_at6 p1) (ar_W E A (fun _ : Unit => [])) A) := by
  refine Kt.of (by decide) (Nat.le_of_ble_eq_true rfl) ?_
  intro p e s m below meth c ls hx hb hml hown hts hr hlocks hex hin hA hZ hP hK hD hl
  have hS : va_S A s.heap s.heap [] := va_S.rf
  have hl : lv_has ls 2 [(0, .ref (E.2.2 6)), (1, .int p1)] := hl
  refine lv_iload_n hx hb d_X_at_0 rfl (lv_at hl 1 rfl) ?_
  refine lv_if_lt (tgt := 16) hx hb d_X_at_1 (by decide) (fun c1 => ?_) (fun c1 => ?_)
  · skip
    refine lv_iconst (v := 0) hx hb d_X_at_16 (by decide) ?_
    exact ar_iret hx hb hr hlocks hK hS () (by exact Eq.symm (Eq.trans (f_X_at6_s p1 ) (Eq.trans (if_pos c1) rfl))) hP hD d_X_at_17
  · skip
    refine lv_iload_n hx hb d_X_at_4 rfl (lv_at hl 1 rfl) ?_
    refine lv_aload_n hx hb d_X_at_5 rfl (lv_at hl 0 rfl) ?_
    refine va_tlen (A := A) (v := 6) hx hb (hZ.1 6 (by decide)).2 hS rfl d_X_at_6 ?_
    refine lv_icmp_ge (tgt := 16) hx hb d_X_at_7 (by decide) (fun c2 => ?_) (fun c2 => ?_)
    · skip
      refine lv_iconst (v := 0) hx hb d_X_at_16 (by decide) ?_
      exact ar_iret hx hb hr hlocks hK hS () (by exact Eq.symm (Eq.trans (f_X_at6_s p1 ) (Eq.trans (if_neg c1) (Eq.trans (if_pos c2) rfl)))) hP hD d_X_at_17
    · skip
      refine lv_aload_n hx hb d_X_at_10 rfl (lv_at hl 0 rfl) ?_
      refine lv_iload_n hx hb d_X_at_11 rfl (lv_at hl 1 rfl) ?_
      refine va_ti (A := A) (f := fun j => .int (zF 6 j)) (N := 6) hx hb (hZ.1 6 (by decide)).2 hS (in_of (k := 6) (by decide) (by assumption) (by assumption)) rfl d_X_at_12 ?_
      refine lv_goto (tgt := 17) hx hb d_X_at_13 (by decide) ?_
      exact ar_iret hx hb hr hlocks hK hS () (by exact Eq.symm (Eq.trans (f_X_at6_s p1 ) (Eq.trans (if_neg c1) (Eq.trans (if_neg c2) rfl)))) hP hD d_X_at_17

noncomputable def f_Ta_q (p0 : Int32)  : Int32 :=
  let r1 := f_X_at0  (p0 >>> (1 &&& 31)) 
  r1
theorem f_Ta_q_s (p0 : Int32)  : f_Ta_q p0  = ((
  let r1 := f_X_at0  (p0 >>> (1 &&& 31)) 
  r1
  : Int32)) := rfl
set_option maxHeartbeats 4000000 in
set_option maxRecDepth 100000 in
theorem c_Ta_q (l : Launch) (E : Ev) (A : Nat → Prop)   (p0 : Int32)  :
    Kt l y_Ta_q b_Ta_q 1 (some .int) 1 0 0 E A [.int p0] [] (va_Qi (fun (r : Int32) (_ : Unit) => r = f_Ta_q p0) (ar_W E A (fun _ : Unit => [])) A) := by
  refine Kt.of (by decide) (Nat.le_of_ble_eq_true rfl) ?_
  intro p e s m below meth c ls hx hb hml hown hts hr hlocks hex hin hA hZ hP hK hD hl
  have hS : va_S A s.heap s.heap [] := va_S.rf
  have hl : lv_has ls 1 [(0, .int p0)] := hl
  refine va_gets (A := A) (v := .ref (E.2.2 0)) (C := "ArithmeticRows$Table") (n := "Q") (d := "[I") hx hb (hZ.1 0 (by decide)).1 hS hown (hts _ m_425) (fun _ h9 => h9) d_Ta_q_0 ?_
  refine lv_iload_n hx hb d_Ta_q_3 rfl (lv_at hl 0 rfl) ?_
  refine lv_iconst (v := 1) hx hb d_Ta_q_4 (by decide) ?_
  refine lv_ishr hx hb d_Ta_q_5 ?_
  refine ar_usei (wr := []) hP hD hS hA [] [] rfl rfl rfl (by decide) (ar_runSN (n := 2) (As := [.ref (E.2.2 0), .int (p0 >>> (1 &&& 31))]) (rest := []) (host := "ArithmeticRows") hx hb hml hown hts hP hD hS hA hK hZ (c_X_at0 l E _   (p0 >>> (1 &&& 31)) ) hZ.2.2.2.1 m_428 m_1 m_429 (by decide +kernel) ⟨Nat.le_of_ble_eq_true rfl, Nat.le_of_ble_eq_true rfl⟩ [] rfl rfl rfl rfl hl.1 rfl (Nat.le_of_ble_eq_true rfl) d_Ta_q_6 ⟨Nat.le_of_ble_eq_true rfl, Nat.le_of_ble_eq_true rfl⟩) (fun r1 _ Hn locsn hw1 hPn hDn hSn => ?_)
  clear hP hD hS
  have hP : va_P E.1 classes [] Hn := hPn
  have hD : va_D A [] := hDn
  have hS := hSn
  clear hPn hDn hSn
  exact ar_iret hx hb hr hlocks hK hS () (by subst hw1; exact Eq.symm (Eq.trans (f_Ta_q_s p0 ) rfl)) hP hD d_Ta_q_9

noncomputable def f_Ta_behindLikely (p0 : Int32)  : Int32 :=
  let r1 := f_X_at1  (p0 >>> (1 &&& 31)) 
  ((2 * r1) + (p0 &&& 1))
theorem f_Ta_behindLikely_s (p0 : Int32)  : f_Ta_behindLikely p0  = ((
  let r1 := f_X_at1  (p0 >>> (1 &&& 31)) 
  ((2 * r1) + (p0 &&& 1))
  : Int32)) := rfl
set_option maxHeartbeats 4000000 in
set_option maxRecDepth 100000 in
theorem c_Ta_behindLikely (l : Launch) (E : Ev) (A : Nat → Prop)   (p0 : Int32)  :
    Kt l y_Ta_behindLikely b_Ta_behindLikely 1 (some .int) 1 0 0 E A [.int p0] [] (va_Qi (fun (r : Int32) (_ : Unit) => r = f_Ta_behindLikely p0) (ar_W E A (fun _ : Unit => [])) A) := by
  refine Kt.of (by decide) (Nat.le_of_ble_eq_true rfl) ?_
  intro p e s m below meth c ls hx hb hml hown hts hr hlocks hex hin hA hZ hP hK hD hl
  have hS : va_S A s.heap s.heap [] := va_S.rf
  have hl : lv_has ls 1 [(0, .int p0)] := hl
  refine lv_iconst (v := 2) hx hb d_Ta_behindLikely_0 (by decide) ?_
  refine va_gets (A := A) (v := .ref (E.2.2 1)) (C := "ArithmeticRows$Table") (n := "BEHIND_LIKELY") (d := "[I") hx hb (hZ.1 1 (by decide)).1 hS hown (hts _ m_433) (fun _ h9 => h9) d_Ta_behindLikely_1 ?_
  refine lv_iload_n hx hb d_Ta_behindLikely_4 rfl (lv_at hl 0 rfl) ?_
  refine lv_iconst (v := 1) hx hb d_Ta_behindLikely_5 (by decide) ?_
  refine lv_ishr hx hb d_Ta_behindLikely_6 ?_
  refine ar_usei (wr := []) hP hD hS hA [] [] rfl rfl rfl (by decide) (ar_runSN (n := 2) (As := [.ref (E.2.2 1), .int (p0 >>> (1 &&& 31))]) (rest := [.int 2]) (host := "ArithmeticRows") hx hb hml hown hts hP hD hS hA hK hZ (c_X_at1 l E _   (p0 >>> (1 &&& 31)) ) hZ.2.2.2.1 m_428 m_1 m_429 (by decide +kernel) ⟨Nat.le_of_ble_eq_true rfl, Nat.le_of_ble_eq_true rfl⟩ [] rfl rfl rfl rfl hl.1 rfl (Nat.le_of_ble_eq_true rfl) d_Ta_behindLikely_7 ⟨Nat.le_of_ble_eq_true rfl, Nat.le_of_ble_eq_true rfl⟩) (fun r1 _ Hn locsn hw1 hPn hDn hSn => ?_)
  clear hP hD hS
  have hP : va_P E.1 classes [] Hn := hPn
  have hD : va_D A [] := hDn
  have hS := hSn
  clear hPn hDn hSn
  refine lv_imul hx hb d_Ta_behindLikely_10 ?_
  refine lv_iload_n hx hb d_Ta_behindLikely_11 rfl (lv_at hl 0 rfl) ?_
  refine lv_iconst (v := 1) hx hb d_Ta_behindLikely_12 (by decide) ?_
  refine lv_iand hx hb d_Ta_behindLikely_13 ?_
  refine lv_iadd hx hb d_Ta_behindLikely_14 ?_
  exact ar_iret hx hb hr hlocks hK hS () (by subst hw1; exact Eq.symm (Eq.trans (f_Ta_behindLikely_s p0 ) rfl)) hP hD d_Ta_behindLikely_15

noncomputable def f_Ta_behindOther (p0 : Int32)  : Int32 :=
  let x1 := (p0 >>> (1 &&& 31))
  let x2 := (p0 &&& 1)
  if x1 = 0 then
    let r4 := f_X_at2  x1 
    ((2 * r4) + (1 - x2))
  else
    if x1 = 6 then
      let r6 := f_X_at2  x1 
      ((2 * r6) + (1 - x2))
    else
      if x1 = 14 then
        let r9 := f_X_at2  x1 
        ((2 * r9) + (1 - x2))
      else
        let r8 := f_X_at2  x1 
        ((2 * r8) + x2)
theorem f_Ta_behindOther_s (p0 : Int32)  : f_Ta_behindOther p0  = ((
  let x1 := (p0 >>> (1 &&& 31))
  let x2 := (p0 &&& 1)
  if x1 = 0 then
    let r4 := f_X_at2  x1 
    ((2 * r4) + (1 - x2))
  else
    if x1 = 6 then
      let r6 := f_X_at2  x1 
      ((2 * r6) + (1 - x2))
    else
      if x1 = 14 then
        let r9 := f_X_at2  x1 
        ((2 * r9) + (1 - x2))
      else
        let r8 := f_X_at2  x1 
        ((2 * r8) + x2)
  : Int32)) := rfl
set_option maxHeartbeats 4000000 in
set_option maxRecDepth 100000 in
theorem c_Ta_behindOther (l : Launch) (E : Ev) (A : Nat → Prop)   (p0 : Int32)  :
    Kt l y_Ta_behindOther b_Ta_behindOther 4 (some .int) 1 0 0 E A [.int p0] [] (va_Qi (fun (r : Int32) (_ : Unit) => r = f_Ta_behindOther p0) (ar_W E A (fun _ : Unit => [])) A) := by
  refine Kt.of (by decide) (Nat.le_of_ble_eq_true rfl) ?_
  intro p e s m below meth c ls hx hb hml hown hts hr hlocks hex hin hA hZ hP hK hD hl
  have hS : va_S A s.heap s.heap [] := va_S.rf
  have hl : lv_has ls 4 [(0, .int p0)] := hl
  refine lv_iload_n hx hb d_Ta_behindOther_0 rfl (lv_at hl 0 rfl) ?_
  refine lv_iconst (v := 1) hx hb d_Ta_behindOther_1 (by decide) ?_
  refine lv_ishr hx hb d_Ta_behindOther_2 ?_
  refine lv_topi (fun x1 ex1 => ?_)
  refine lv_istore_n (lv' := [(1, .int x1), (0, .int p0)]) hx hb d_Ta_behindOther_3 rfl hl (by decide) rfl (fun ls hl => ?_)
  refine lv_iload_n hx hb d_Ta_behindOther_4 rfl (lv_at hl 1 rfl) ?_
  refine lv_iconst (v := 1) hx hb d_Ta_behindOther_5 (by decide) ?_
  refine lv_iand hx hb d_Ta_behindOther_6 ?_
  refine lv_topi (fun x2 ex2 => ?_)
  refine lv_istore_n (lv' := [(2, .int x2), (1, .int x1), (0, .int p0)]) hx hb d_Ta_behindOther_7 rfl hl (by decide) rfl (fun ls hl => ?_)
  refine lv_iload_n hx hb d_Ta_behindOther_8 rfl (lv_at hl 1 rfl) ?_
  refine lv_if_eq (tgt := 24) hx hb d_Ta_behindOther_9 (by decide) (fun c3 => ?_) (fun c3 => ?_)
  · skip
    refine lv_iconst (v := 1) hx hb d_Ta_behindOther_24 (by decide) ?_
    refine lv_goto (tgt := 29) hx hb d_Ta_behindOther_25 (by decide) ?_
    refine lv_istore_n (lv' := [(3, .int 1), (2, .int x2), (1, .int x1), (0, .int p0)]) hx hb d_Ta_behindOther_29 rfl hl (by decide) rfl (fun ls hl => ?_)
    refine lv_iconst (v := 2) hx hb d_Ta_behindOther_30 (by decide) ?_
    refine va_gets (A := A) (v := .ref (E.2.2 2)) (C := "ArithmeticRows$Table") (n := "BEHIND_OTHER") (d := "[I") hx hb (hZ.1 2 (by decide)).1 hS hown (hts _ m_438) (fun _ h9 => h9) d_Ta_behindOther_31 ?_
    refine lv_iload_n hx hb d_Ta_behindOther_34 rfl (lv_at hl 2 rfl) ?_
    refine ar_usei (wr := []) hP hD hS hA [] [] rfl rfl rfl (by decide) (ar_runSN (n := 2) (As := [.ref (E.2.2 2), .int x1]) (rest := [.int 2]) (host := "ArithmeticRows") hx hb hml hown hts hP hD hS hA hK hZ (c_X_at2 l E _   x1 ) hZ.2.2.2.1 m_428 m_1 m_429 (by decide +kernel) ⟨Nat.le_of_ble_eq_true rfl, Nat.le_of_ble_eq_true rfl⟩ [] rfl rfl rfl rfl hl.1 rfl (Nat.le_of_ble_eq_true rfl) d_Ta_behindOther_35 ⟨Nat.le_of_ble_eq_true rfl, Nat.le_of_ble_eq_true rfl⟩) (fun r4 _ Hn locsn hw4 hPn hDn hSn => ?_)
    clear hP hD hS
    have hP : va_P E.1 classes [] Hn := hPn
    have hD : va_D A [] := hDn
    have hS := hSn
    clear hPn hDn hSn
    refine lv_imul hx hb d_Ta_behindOther_38 ?_
    refine lv_iload_n hx hb d_Ta_behindOther_39 rfl (lv_at hl 0 rfl) ?_
    refine lv_if_eq (tgt := 49) hx hb d_Ta_behindOther_40 (by decide) (fun cz => absurd cz (by decide)) (fun cz => ?_)
    refine lv_iconst (v := 1) hx hb d_Ta_behindOther_43 (by decide) ?_
    refine lv_iload_n hx hb d_Ta_behindOther_44 rfl (lv_at hl 1 rfl) ?_
    refine lv_isub hx hb d_Ta_behindOther_45 ?_
    refine lv_goto (tgt := 50) hx hb d_Ta_behindOther_46 (by decide) ?_
    refine lv_iadd hx hb d_Ta_behindOther_50 ?_
    exact ar_iret hx hb hr hlocks hK hS () (by subst hw4; subst ex2; subst ex1; exact Eq.symm (Eq.trans (f_Ta_behindOther_s p0 ) (Eq.trans (if_pos c3) rfl))) hP hD d_Ta_behindOther_51
  · skip
    refine lv_iload_n hx hb d_Ta_behindOther_12 rfl (lv_at hl 1 rfl) ?_
    refine lv_bipush (v := 6) hx hb d_Ta_behindOther_13 (by decide) ?_
    refine lv_icmp_eq (tgt := 24) hx hb d_Ta_behindOther_15 (by decide) (fun c5 => ?_) (fun c5 => ?_)
    · skip
      refine lv_iconst (v := 1) hx hb d_Ta_behindOther_24 (by decide) ?_
      refine lv_goto (tgt := 29) hx hb d_Ta_behindOther_25 (by decide) ?_
      refine lv_istore_n (lv' := [(3, .int 1), (2, .int x2), (1, .int x1), (0, .int p0)]) hx hb d_Ta_behindOther_29 rfl hl (by decide) rfl (fun ls hl => ?_)
      refine lv_iconst (v := 2) hx hb d_Ta_behindOther_30 (by decide) ?_
      refine va_gets (A := A) (v := .ref (E.2.2 2)) (C := "ArithmeticRows$Table") (n := "BEHIND_OTHER") (d := "[I") hx hb (hZ.1 2 (by decide)).1 hS hown (hts _ m_438) (fun _ h9 => h9) d_Ta_behindOther_31 ?_
      refine lv_iload_n hx hb d_Ta_behindOther_34 rfl (lv_at hl 2 rfl) ?_
      refine ar_usei (wr := []) hP hD hS hA [] [] rfl rfl rfl (by decide) (ar_runSN (n := 2) (As := [.ref (E.2.2 2), .int x1]) (rest := [.int 2]) (host := "ArithmeticRows") hx hb hml hown hts hP hD hS hA hK hZ (c_X_at2 l E _   x1 ) hZ.2.2.2.1 m_428 m_1 m_429 (by decide +kernel) ⟨Nat.le_of_ble_eq_true rfl, Nat.le_of_ble_eq_true rfl⟩ [] rfl rfl rfl rfl hl.1 rfl (Nat.le_of_ble_eq_true rfl) d_Ta_behindOther_35 ⟨Nat.le_of_ble_eq_true rfl, Nat.le_of_ble_eq_true rfl⟩) (fun r6 _ Hn locsn hw6 hPn hDn hSn => ?_)
      clear hP hD hS
      have hP : va_P E.1 classes [] Hn := hPn
      have hD : va_D A [] := hDn
      have hS := hSn
      clear hPn hDn hSn
      refine lv_imul hx hb d_Ta_behindOther_38 ?_
      refine lv_iload_n hx hb d_Ta_behindOther_39 rfl (lv_at hl 0 rfl) ?_
      refine lv_if_eq (tgt := 49) hx hb d_Ta_behindOther_40 (by decide) (fun cz => absurd cz (by decide)) (fun cz => ?_)
      refine lv_iconst (v := 1) hx hb d_Ta_behindOther_43 (by decide) ?_
      refine lv_iload_n hx hb d_Ta_behindOther_44 rfl (lv_at hl 1 rfl) ?_
      refine lv_isub hx hb d_Ta_behindOther_45 ?_
      refine lv_goto (tgt := 50) hx hb d_Ta_behindOther_46 (by decide) ?_
      refine lv_iadd hx hb d_Ta_behindOther_50 ?_
      exact ar_iret hx hb hr hlocks hK hS () (by subst hw6; subst ex2; subst ex1; exact Eq.symm (Eq.trans (f_Ta_behindOther_s p0 ) (Eq.trans (if_neg c3) (Eq.trans (if_pos c5) rfl)))) hP hD d_Ta_behindOther_51
    · skip
      refine lv_iload_n hx hb d_Ta_behindOther_18 rfl (lv_at hl 1 rfl) ?_
      refine lv_bipush (v := 14) hx hb d_Ta_behindOther_19 (by decide) ?_
      refine lv_icmp_ne (tgt := 28) hx hb d_Ta_behindOther_21 (by decide) (fun c7 => ?_) (fun c7 => ?_)
      · skip
        refine lv_iconst (v := 0) hx hb d_Ta_behindOther_28 (by decide) ?_
        refine lv_istore_n (lv' := [(3, .int 0), (2, .int x2), (1, .int x1), (0, .int p0)]) hx hb d_Ta_behindOther_29 rfl hl (by decide) rfl (fun ls hl => ?_)
        refine lv_iconst (v := 2) hx hb d_Ta_behindOther_30 (by decide) ?_
        refine va_gets (A := A) (v := .ref (E.2.2 2)) (C := "ArithmeticRows$Table") (n := "BEHIND_OTHER") (d := "[I") hx hb (hZ.1 2 (by decide)).1 hS hown (hts _ m_438) (fun _ h9 => h9) d_Ta_behindOther_31 ?_
        refine lv_iload_n hx hb d_Ta_behindOther_34 rfl (lv_at hl 2 rfl) ?_
        refine ar_usei (wr := []) hP hD hS hA [] [] rfl rfl rfl (by decide) (ar_runSN (n := 2) (As := [.ref (E.2.2 2), .int x1]) (rest := [.int 2]) (host := "ArithmeticRows") hx hb hml hown hts hP hD hS hA hK hZ (c_X_at2 l E _   x1 ) hZ.2.2.2.1 m_428 m_1 m_429 (by decide +kernel) ⟨Nat.le_of_ble_eq_true rfl, Nat.le_of_ble_eq_true rfl⟩ [] rfl rfl rfl rfl hl.1 rfl (Nat.le_of_ble_eq_true rfl) d_Ta_behindOther_35 ⟨Nat.le_of_ble_eq_true rfl, Nat.le_of_ble_eq_true rfl⟩) (fun r8 _ Hn locsn hw8 hPn hDn hSn => ?_)
        clear hP hD hS
        have hP : va_P E.1 classes [] Hn := hPn
        have hD : va_D A [] := hDn
        have hS := hSn
        clear hPn hDn hSn
        refine lv_imul hx hb d_Ta_behindOther_38 ?_
        refine lv_iload_n hx hb d_Ta_behindOther_39 rfl (lv_at hl 0 rfl) ?_
        refine lv_if_eq (tgt := 49) hx hb d_Ta_behindOther_40 (by decide) (fun cz => ?_) (fun cz => absurd cz (by decide))
        refine lv_iload_n hx hb d_Ta_behindOther_49 rfl (lv_at hl 1 rfl) ?_
        refine lv_iadd hx hb d_Ta_behindOther_50 ?_
        exact ar_iret hx hb hr hlocks hK hS () (by subst hw8; subst ex2; subst ex1; exact Eq.symm (Eq.trans (f_Ta_behindOther_s p0 ) (Eq.trans (if_neg c3) (Eq.trans (if_neg c5) (Eq.trans (if_neg c7) rfl))))) hP hD d_Ta_behindOther_51
      · skip
        refine lv_iconst (v := 1) hx hb d_Ta_behindOther_24 (by decide) ?_
        refine lv_goto (tgt := 29) hx hb d_Ta_behindOther_25 (by decide) ?_
        refine lv_istore_n (lv' := [(3, .int 1), (2, .int x2), (1, .int x1), (0, .int p0)]) hx hb d_Ta_behindOther_29 rfl hl (by decide) rfl (fun ls hl => ?_)
        refine lv_iconst (v := 2) hx hb d_Ta_behindOther_30 (by decide) ?_
        refine va_gets (A := A) (v := .ref (E.2.2 2)) (C := "ArithmeticRows$Table") (n := "BEHIND_OTHER") (d := "[I") hx hb (hZ.1 2 (by decide)).1 hS hown (hts _ m_438) (fun _ h9 => h9) d_Ta_behindOther_31 ?_
        refine lv_iload_n hx hb d_Ta_behindOther_34 rfl (lv_at hl 2 rfl) ?_
        refine ar_usei (wr := []) hP hD hS hA [] [] rfl rfl rfl (by decide) (ar_runSN (n := 2) (As := [.ref (E.2.2 2), .int x1]) (rest := [.int 2]) (host := "ArithmeticRows") hx hb hml hown hts hP hD hS hA hK hZ (c_X_at2 l E _   x1 ) hZ.2.2.2.1 m_428 m_1 m_429 (by decide +kernel) ⟨Nat.le_of_ble_eq_true rfl, Nat.le_of_ble_eq_true rfl⟩ [] rfl rfl rfl rfl hl.1 rfl (Nat.le_of_ble_eq_true rfl) d_Ta_behindOther_35 ⟨Nat.le_of_ble_eq_true rfl, Nat.le_of_ble_eq_true rfl⟩) (fun r9 _ Hn locsn hw9 hPn hDn hSn => ?_)
        clear hP hD hS
        have hP : va_P E.1 classes [] Hn := hPn
        have hD : va_D A [] := hDn
        have hS := hSn
        clear hPn hDn hSn
        refine lv_imul hx hb d_Ta_behindOther_38 ?_
        refine lv_iload_n hx hb d_Ta_behindOther_39 rfl (lv_at hl 0 rfl) ?_
        refine lv_if_eq (tgt := 49) hx hb d_Ta_behindOther_40 (by decide) (fun cz => absurd cz (by decide)) (fun cz => ?_)
        refine lv_iconst (v := 1) hx hb d_Ta_behindOther_43 (by decide) ?_
        refine lv_iload_n hx hb d_Ta_behindOther_44 rfl (lv_at hl 1 rfl) ?_
        refine lv_isub hx hb d_Ta_behindOther_45 ?_
        refine lv_goto (tgt := 50) hx hb d_Ta_behindOther_46 (by decide) ?_
        refine lv_iadd hx hb d_Ta_behindOther_50 ?_
        exact ar_iret hx hb hr hlocks hK hS () (by subst hw9; subst ex2; subst ex1; exact Eq.symm (Eq.trans (f_Ta_behindOther_s p0 ) (Eq.trans (if_neg c3) (Eq.trans (if_neg c5) (Eq.trans (if_pos c7) rfl))))) hP hD d_Ta_behindOther_51

noncomputable def f_X_longerPath (p0 : Int32) (p1 : Int32)  : Int32 :=
  let x1 := ((2 * p0) + p1)
  if 512 ≤ x1 then
    ((x1 &&& 255) ||| 256)
  else
    x1
theorem f_X_longerPath_s (p0 : Int32) (p1 : Int32)  : f_X_longerPath p0 p1  = ((
  let x1 := ((2 * p0) + p1)
  if 512 ≤ x1 then
    ((x1 &&& 255) ||| 256)
  else
    x1
  : Int32)) := rfl
set_option maxHeartbeats 4000000 in
set_option maxRecDepth 100000 in
theorem c_X_longerPath (l : Launch) (E : Ev) (A : Nat → Prop)   (p0 : Int32) (p1 : Int32)  :
    Kt l y_X_longerPath b_X_longerPath 3 (some .int) 0 0 0 E A [.int p0, .int p1] [] (va_Qi (fun (r : Int32) (_ : Unit) => r = f_X_longerPath p0 p1) (ar_W E A (fun _ : Unit => [])) A) := by
  refine Kt.of (by decide) (Nat.le_of_ble_eq_true rfl) ?_
  intro p e s m below meth c ls hx hb hml hown hts hr hlocks hex hin hA hZ hP hK hD hl
  have hS : va_S A s.heap s.heap [] := va_S.rf
  have hl : lv_has ls 3 [(0, .int p0), (1, .int p1)] := hl
  refine lv_iconst (v := 2) hx hb d_X_longerPath_0 (by decide) ?_
  refine lv_iload_n hx hb d_X_longerPath_1 rfl (lv_at hl 0 rfl) ?_
  refine lv_imul hx hb d_X_longerPath_2 ?_
  refine lv_iload_n hx hb d_X_longerPath_3 rfl (lv_at hl 1 rfl) ?_
  refine lv_iadd hx hb d_X_longerPath_4 ?_
  refine lv_topi (fun x1 ex1 => ?_)
  refine lv_istore_n (lv' := [(2, .int x1), (0, .int p0), (1, .int p1)]) hx hb d_X_longerPath_5 rfl hl (by decide) rfl (fun ls hl => ?_)
  refine lv_iload_n hx hb d_X_longerPath_6 rfl (lv_at hl 0 rfl) ?_
  refine lv_sipush (v := 512) hx hb d_X_longerPath_7 (by decide) ?_
  refine lv_icmp_ge (tgt := 17) hx hb d_X_longerPath_10 (by decide) (fun c2 => ?_) (fun c2 => ?_)
  · skip
    refine lv_iload_n hx hb d_X_longerPath_17 rfl (lv_at hl 0 rfl) ?_
    refine lv_sipush (v := 255) hx hb d_X_longerPath_18 (by decide) ?_
    refine lv_iand hx hb d_X_longerPath_21 ?_
    refine lv_sipush (v := 256) hx hb d_X_longerPath_22 (by decide) ?_
    refine lv_ior hx hb d_X_longerPath_25 ?_
    exact ar_iret hx hb hr hlocks hK hS () (by subst ex1; exact Eq.symm (Eq.trans (f_X_longerPath_s p0 p1 ) (Eq.trans (if_pos c2) rfl))) hP hD d_X_longerPath_26
  · skip
    refine lv_iload_n hx hb d_X_longerPath_13 rfl (lv_at hl 0 rfl) ?_
    refine lv_goto (tgt := 26) hx hb d_X_longerPath_14 (by decide) ?_
    exact ar_iret hx hb hr hlocks hK hS () (by subst ex1; exact Eq.symm (Eq.trans (f_X_longerPath_s p0 p1 ) (Eq.trans (if_neg c2) rfl))) hP hD d_X_longerPath_26
