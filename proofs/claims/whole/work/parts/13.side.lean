/-! Arrays.fill, Side, at over a row of the heap: contracts -/
noncomputable def g_Ar_fill (nc : Nat) (p1 : Int32) : Nat → (Nat → Int32) → Int32 → Int32 → Nat → Int32
  | 0, st, k2, k3 => st
  | n + 1, st, k2, k3 =>
    if k3 ≤ k2 then
      st
    else
      let x4 := k2 + 1
      g_Ar_fill nc p1 n (upd st (Int32.toNatClampNeg k2) p1) x4 k3
theorem g_Ar_fill_s (nc : Nat) (p1 : Int32) (n : Nat) (st : Nat → Int32) (k2 : Int32) (k3 : Int32) : g_Ar_fill nc p1 (n + 1) st k2 k3 = ((
    if k3 ≤ k2 then
      st
    else
      let x4 := k2 + 1
      g_Ar_fill nc p1 n (upd st (Int32.toNatClampNeg k2) p1) x4 k3
  : Nat → Int32)) := rfl
def kl_Ar_fill (nc : Nat) (p1 : Int32) : Nat → (Nat → Int32) → Int32 → Int32 → Prop
  | 0, st, k2, k3 => False
  | n + 1, st, k2, k3 => ((k3 ≤ k2) → True) ∧ (¬ (k3 ≤ k2) → (vp_in k2 nc) ∧ ((∀ x4, x4 = k2 + 1 → kl_Ar_fill nc p1 n (upd st (Int32.toNatClampNeg k2) p1) x4 k3)))
theorem kl_Ar_fill_s (nc : Nat) (p1 : Int32) (n : Nat) (st : Nat → Int32) (k2 : Int32) (k3 : Int32) : kl_Ar_fill nc p1 (n + 1) st k2 k3 = (((k3 ≤ k2) → True) ∧ (¬ (k3 ≤ k2) → (vp_in k2 nc) ∧ ((∀ x4, x4 = k2 + 1 → kl_Ar_fill nc p1 n (upd st (Int32.toNatClampNeg k2) p1) x4 k3)))) := rfl
set_option maxHeartbeats 4000000 in
set_option maxRecDepth 100000 in
theorem lp_Ar_fill {p : Program} {e : Env} {s : State} {m : MethodId} {below : List Frame} {meth : Method} {c : Code} (l : Launch) (E : Ev) (A : Nat → Prop) (ac nc : Nat) (p1 : Int32)  (hx : p.tables.exec = Jvm.exec) (hb : c.code = b_Ar_fill) (hml : c.maxLocals = 4) (hown : s.vm.findClass (y_Ar_fill).cls = some m.cls) (hts : ∀ w ∈ TT, w.before ([.ref ac, .int p1] : List Value).toArray s = true) (hr : meth.sig.returnType = none) (hlocks : meth.locks = false) (hA : ∀ q, s.heap.size ≤ q → A q) (hZ : ZT E A s s.heap) (hK : va_K E.1 classes (Ty E) s) :
    ∀ (n : Nat) (st : Nat → Int32) (k2 : Int32) (k3 : Int32) (H : Heap) (locs : List Loc) (ls : Array Slot), kl_Ar_fill nc p1 n st k2 k3 → va_P E.1 classes [(ac, .inl (E.2.1 0, nc, .inl st))] H → va_D A [(ac, .inl (E.2.1 0, nc, .inl st))] → va_S A s.heap H locs → lv_has ls 4 [(0, .ref ac), (1, .int p1), (2, .int k2), (3, .int k3)] →
      W p l e (ar_rm 0 0 0) s m ([.ref ac, .int p1] : List Value).toArray below meth c H locs 0 0 (MQ below (va_Qv (fun u : Nat → Int32 => u = g_Ar_fill nc p1 n st k2 k3) (ar_W E A (fun u : Nat → Int32 => [(ac, .inl (E.2.1 0, nc, .inl u))])) A) ([.ref ac, .int p1] : List Value).toArray s 0 0 A) (F0 m 5 ls []) := by
  intro n
  induction n with
  | zero => intro st k2 k3 H locs ls hok; exact hok.elim
  | succ n ih =>
    intro st k2 k3 H locs ls hok hP hD hS hl
    rw [kl_Ar_fill_s] at hok
    refine lv_iload_n hx hb d_Ar_fill_5 rfl (lv_at hl 2 rfl) ?_
    refine lv_iload_n hx hb d_Ar_fill_6 rfl (lv_at hl 3 rfl) ?_
    refine lv_icmp_ge (tgt := 20) hx hb d_Ar_fill_7 (by decide) (fun c1 => ?_) (fun c1 => ?_)
    · replace hok := hok.1 c1
      exact ar_vret hx hb hr hlocks hK hS st (by exact Eq.symm (Eq.trans (g_Ar_fill_s nc p1 n st k2 k3) (Eq.trans (if_pos c1) rfl))) hP hD d_Ar_fill_20
    · replace hok := hok.2 c1
      refine lv_aload_n hx hb d_Ar_fill_10 rfl (lv_at hl 0 rfl) ?_
      refine lv_iload_n hx hb d_Ar_fill_11 rfl (lv_at hl 2 rfl) ?_
      refine lv_iload_n hx hb d_Ar_fill_12 rfl (lv_at hl 1 rfl) ?_
      obtain ⟨hk2, hok⟩ := hok
      refine va_iast (D := E.1) (x := p1) hx hb hK hP hD hS 0 0 rfl rfl hk2 d_Ar_fill_13 (fun Hn locsn hPn hDn hSn => ?_)
      clear hP hD hS
      have hP : va_P E.1 classes [(ac, .inl (E.2.1 0, nc, .inl (upd st (Int32.toNatClampNeg k2) p1)))] Hn := hPn
      have hD : va_D A [(ac, .inl (E.2.1 0, nc, .inl (upd st (Int32.toNatClampNeg k2) p1)))] := hDn
      have hS := hSn
      clear hPn hDn hSn
      obtain ⟨x4, ex4⟩ : ∃ y : Int32, y = k2 + 1 := ⟨_, rfl⟩
      replace hok := hok x4 ex4
      refine lv_iinc (v := x4) (lv' := [(2, .int x4), (0, .ref ac), (1, .int p1), (3, .int k3)]) hx hb d_Ar_fill_14 hl (k := 2) rfl (by rw [ex4]; rfl) (by decide) rfl (fun ls hl => ?_)
      refine lv_goto (tgt := 5) hx hb d_Ar_fill_17 (by decide) ?_
      have e9 : g_Ar_fill nc p1 (n + 1) st k2 k3 = g_Ar_fill nc p1 n (upd st (Int32.toNatClampNeg k2) p1) x4 k3 := by subst ex4; exact (Eq.trans (g_Ar_fill_s nc p1 n st k2 k3) (Eq.trans (if_neg c1) rfl))
      rw [e9]
      exact ih (upd st (Int32.toNatClampNeg k2) p1) x4 k3 _ _ _ hok hP hD hS (lv_sub hl [1, 2, 0, 3] rfl)
noncomputable def f_Ar_fill (nc : Nat) (p1 : Int32) (st : Nat → Int32) : Nat → Int32 :=
  let x1 := (nI nc)
  g_Ar_fill nc p1 (nf (nc + 1)) st 0 x1
theorem f_Ar_fill_s (nc : Nat) (p1 : Int32) (st : Nat → Int32) : f_Ar_fill nc p1 st = ((
  let x1 := (nI nc)
  g_Ar_fill nc p1 (nf (nc + 1)) st 0 x1
  : Nat → Int32)) := rfl
def k_Ar_fill (nc : Nat) (p1 : Int32) (st : Nat → Int32) : Prop := (∀ x1, x1 = (nI nc) → kl_Ar_fill nc p1 (nf (nc + 1)) st 0 x1)
set_option maxHeartbeats 4000000 in
set_option maxRecDepth 100000 in
theorem c_Ar_fill (l : Launch) (E : Ev) (A : Nat → Prop) (ac nc : Nat) (st : Nat → Int32) (p1 : Int32)  (hok : k_Ar_fill nc p1 st) :
    Kt l y_Ar_fill b_Ar_fill 4 none 0 0 0 E A [.ref ac, .int p1] [(ac, .inl (E.2.1 0, nc, .inl st))] (va_Qv (fun u : Nat → Int32 => u = f_Ar_fill nc p1 st) (ar_W E A (fun u : Nat → Int32 => [(ac, .inl (E.2.1 0, nc, .inl u))])) A) := by
  unfold k_Ar_fill at hok
  refine Kt.of (by decide) (Nat.le_of_ble_eq_true rfl) ?_
  intro p e s m below meth c ls hx hb hml hown hts hr hlocks hex hin hA hZ hP hK hD hl
  have hS : va_S A s.heap s.heap [] := va_S.rf
  have hl : lv_has ls 4 [(0, .ref ac), (1, .int p1)] := hl
  refine lv_iconst (v := 0) hx hb d_Ar_fill_0 (by decide) ?_
  refine lv_istore_n (lv' := [(2, .int 0), (0, .ref ac), (1, .int p1)]) hx hb d_Ar_fill_1 rfl hl (by decide) rfl (fun ls hl => ?_)
  refine lv_aload_n hx hb d_Ar_fill_2 rfl (lv_at hl 1 rfl) ?_
  refine va_alen (D := E.1) (v := (nI nc)) hx hb hK hP 0 0 rfl rfl rfl d_Ar_fill_3 ?_
  refine lv_topi (fun x1 ex1 => ?_)
  replace hok := hok x1 ex1
  refine lv_istore_n (lv' := [(3, .int x1), (2, .int 0), (0, .ref ac), (1, .int p1)]) hx hb d_Ar_fill_4 rfl hl (by decide) rfl (fun ls hl => ?_)
  have e9 : f_Ar_fill nc p1 st = g_Ar_fill nc p1 (nf (nc + 1)) st 0 x1 := by subst ex1; exact (Eq.trans (f_Ar_fill_s nc p1 st) rfl)
  rw [e9]
  exact lp_Ar_fill l E A ac nc p1  hx hb hml hown hts hr hlocks hA hZ hK (nf (nc + 1)) st 0 x1 _ _ _ hok hP hD hS (lv_sub hl [2, 3, 1, 0] rfl)

noncomputable def f_X_atA (nc : Nat) (p1 : Int32) (st : Nat → Int32) : Int32 :=
  if p1 < 0 then
    0
  else
    if (nI nc) ≤ p1 then
      0
    else
      (st (Int32.toNatClampNeg p1))
theorem f_X_atA_s (nc : Nat) (p1 : Int32) (st : Nat → Int32) : f_X_atA nc p1 st = ((
  if p1 < 0 then
    0
  else
    if (nI nc) ≤ p1 then
      0
    else
      (st (Int32.toNatClampNeg p1))
  : Int32)) := rfl
def k_X_atA (nc : Nat) (p1 : Int32) (st : Nat → Int32) : Prop := (nc < 2 ^ 31) ∧ (((p1 < 0) → True) ∧ (¬ (p1 < 0) → (((nI nc) ≤ p1) → True) ∧ (¬ ((nI nc) ≤ p1) → True)))
set_option maxHeartbeats 4000000 in
set_option maxRecDepth 100000 in
theorem c_X_atA (l : Launch) (E : Ev) (A : Nat → Prop) (ac nc : Nat) (st : Nat → Int32) (p1 : Int32)  (hok : k_X_atA nc p1 st) :
    Kt l y_X_at b_X_at 2 (some .int) 0 0 0 E A [.ref ac, .int p1] [(ac, .inl (E.2.1 0, nc, .inl st))] (va_Qi (fun (r : Int32) (_ : Unit) => r = f_X_atA nc p1 st) (ar_W E A (fun _ : Unit => [(ac, .inl (E.2.1 0, nc, .inl st))])) A) := by
  unfold k_X_atA at hok
  refine Kt.of (by decide) (Nat.le_of_ble_eq_true rfl) ?_
  intro p e s m below meth c ls hx hb hml hown hts hr hlocks hex hin hA hZ hP hK hD hl
  have hS : va_S A s.heap s.heap [] := va_S.rf
  have hl : lv_has ls 2 [(0, .ref ac), (1, .int p1)] := hl
  obtain ⟨hnc, hok⟩ := hok
  refine lv_iload_n hx hb d_X_at_0 rfl (lv_at hl 1 rfl) ?_
  refine lv_if_lt (tgt := 16) hx hb d_X_at_1 (by decide) (fun c1 => ?_) (fun c1 => ?_)
  · replace hok := hok.1 c1
    refine lv_iconst (v := 0) hx hb d_X_at_16 (by decide) ?_
    exact ar_iret hx hb hr hlocks hK hS () (by exact Eq.symm (Eq.trans (f_X_atA_s nc p1 st) (Eq.trans (if_pos c1) rfl))) hP hD d_X_at_17
  · replace hok := hok.2 c1
    refine lv_iload_n hx hb d_X_at_4 rfl (lv_at hl 1 rfl) ?_
    refine lv_aload_n hx hb d_X_at_5 rfl (lv_at hl 0 rfl) ?_
    refine va_alen (D := E.1) (v := (nI nc)) hx hb hK hP 0 0 rfl rfl rfl d_X_at_6 ?_
    refine lv_icmp_ge (tgt := 16) hx hb d_X_at_7 (by decide) (fun c2 => ?_) (fun c2 => ?_)
    · replace hok := hok.1 c2
      refine lv_iconst (v := 0) hx hb d_X_at_16 (by decide) ?_
      exact ar_iret hx hb hr hlocks hK hS () (by exact Eq.symm (Eq.trans (f_X_atA_s nc p1 st) (Eq.trans (if_neg c1) (Eq.trans (if_pos c2) rfl)))) hP hD d_X_at_17
    · replace hok := hok.2 c2
      refine lv_aload_n hx hb d_X_at_10 rfl (lv_at hl 0 rfl) ?_
      refine lv_iload_n hx hb d_X_at_11 rfl (lv_at hl 1 rfl) ?_
      refine va_iald (D := E.1) hx hb hK hP 0 0 rfl rfl (in_of (nI_toInt hnc) (by assumption) (by assumption)) d_X_at_12 ?_
      refine lv_goto (tgt := 17) hx hb d_X_at_13 (by decide) ?_
      exact ar_iret hx hb hr hlocks hK hS () (by exact Eq.symm (Eq.trans (f_X_atA_s nc p1 st) (Eq.trans (if_neg c1) (Eq.trans (if_neg c2) rfl)))) hP hD d_X_at_17

noncomputable def f_Si_clear (nc : Nat) (st : (Nat → Int32) × (Nat → Int32)) : (Nat → Int32) × (Nat → Int32) :=
  let u2 := f_Ar_fill nc 0 st.1
  let u4 := f_Ar_fill 4096 0 st.2
  (u2, u4)
theorem f_Si_clear_s (nc : Nat) (st : (Nat → Int32) × (Nat → Int32)) : f_Si_clear nc st = ((
  let u2 := f_Ar_fill nc 0 st.1
  let u4 := f_Ar_fill 4096 0 st.2
  (u2, u4)
  : (Nat → Int32) × (Nat → Int32))) := rfl
def k_Si_clear (nc : Nat) (st : (Nat → Int32) × (Nat → Int32)) : Prop := (k_Ar_fill nc 0 st.1) ∧ ((∀ u2, u2 = f_Ar_fill nc 0 st.1 → (k_Ar_fill 4096 0 st.2) ∧ ((∀ u4, u4 = f_Ar_fill 4096 0 st.2 → True))))
set_option maxHeartbeats 4000000 in
set_option maxRecDepth 100000 in
theorem c_Si_clear (l : Launch) (E : Ev) (A : Nat → Prop) (sd so sc nc : Nat) (st : (Nat → Int32) × (Nat → Int32))   (hok : k_Si_clear nc st) :
    Kt l y_Si_clear b_Si_clear 1 none 1 0 0 E A [.ref sd] [(sd, .inr (1, [.ref so, .ref sc])), (so, .inl (E.2.1 0, nc, .inl st.1)), (sc, .inl (E.2.1 0, 4096, .inl st.2))] (va_Qv (fun u : (Nat → Int32) × (Nat → Int32) => u = f_Si_clear nc st) (ar_W E A (fun u : (Nat → Int32) × (Nat → Int32) => [(sd, .inr (1, [.ref so, .ref sc])), (so, .inl (E.2.1 0, nc, .inl u.1)), (sc, .inl (E.2.1 0, 4096, .inl u.2))])) A) := by
  unfold k_Si_clear at hok
  refine Kt.of (by decide) (Nat.le_of_ble_eq_true rfl) ?_
  intro p e s m below meth c ls hx hb hml hown hts hr hlocks hex hin hA hZ hP hK hD hl
  have hS : va_S A s.heap s.heap [] := va_S.rf
  have hl : lv_has ls 1 [(0, .ref sd)] := hl
  refine lv_aload_n hx hb d_Si_clear_0 rfl (lv_at hl 0 rfl) ?_
  refine va_get (D := E.1) (ci := 1) (v := .ref so) (C := R_Si) (T := T_Si) (N := 2) hx hb hts in_Si hown hK hP 0 rfl rfl 0 (by decide) (hts _ m_38) (fun _ h9 => h9) rfl d_Si_clear_1 ?_
  refine lv_iconst (v := 0) hx hb d_Si_clear_4 (by decide) ?_
  obtain ⟨hk1, hok⟩ := hok
  refine ar_usev (wr := [(sd, .inr (1, [.ref so, .ref sc])), (sc, .inl (E.2.1 0, 4096, .inl st.2))]) hP hD hS hA [1] [0, 2] rfl rfl rfl (by decide) (ar_runS (n := 2) (As := [.ref so, .int 0]) (rest := []) hx hb hml hown hts hP hD hS hA hK hZ (c_Ar_fill l E _ so nc st.1 0 hk1) m_284 m_285 m_16 m_286 (by decide +kernel) ⟨Nat.le_of_ble_eq_true rfl, Nat.le_of_ble_eq_true rfl⟩ [1] rfl rfl rfl rfl hl.1 rfl (Nat.le_of_ble_eq_true rfl) d_Si_clear_5 ⟨Nat.le_of_ble_eq_true rfl, Nat.le_of_ble_eq_true rfl⟩) (fun u2 Hn locsn hw2 hPn hDn hSn => ?_)
  replace hok := hok u2 hw2
  clear hP hD hS
  have hP : va_P E.1 classes [(sd, .inr (1, [.ref so, .ref sc])), (sc, .inl (E.2.1 0, 4096, .inl st.2)), (so, .inl (E.2.1 0, nc, .inl u2))] Hn := hPn
  have hD : va_D A [(sd, .inr (1, [.ref so, .ref sc])), (sc, .inl (E.2.1 0, 4096, .inl st.2)), (so, .inl (E.2.1 0, nc, .inl u2))] := hDn
  have hS := hSn
  clear hPn hDn hSn
  refine lv_aload_n hx hb d_Si_clear_8 rfl (lv_at hl 0 rfl) ?_
  refine va_get (D := E.1) (ci := 1) (v := .ref sc) (C := R_Si) (T := T_Si) (N := 2) hx hb hts in_Si hown hK hP 0 rfl rfl 1 (by decide) (hts _ m_40) (fun _ h9 => h9) rfl d_Si_clear_9 ?_
  refine lv_iconst (v := 0) hx hb d_Si_clear_12 (by decide) ?_
  obtain ⟨hk3, hok⟩ := hok
  refine ar_usev (wr := [(sd, .inr (1, [.ref so, .ref sc])), (so, .inl (E.2.1 0, nc, .inl u2))]) hP hD hS hA [1] [0, 2] rfl rfl rfl (by decide) (ar_runS (n := 2) (As := [.ref sc, .int 0]) (rest := []) hx hb hml hown hts hP hD hS hA hK hZ (c_Ar_fill l E _ sc 4096 st.2 0 hk3) m_284 m_285 m_16 m_286 (by decide +kernel) ⟨Nat.le_of_ble_eq_true rfl, Nat.le_of_ble_eq_true rfl⟩ [1] rfl rfl rfl rfl hl.1 rfl (Nat.le_of_ble_eq_true rfl) d_Si_clear_13 ⟨Nat.le_of_ble_eq_true rfl, Nat.le_of_ble_eq_true rfl⟩) (fun u4 Hn locsn hw4 hPn hDn hSn => ?_)
  replace hok := hok u4 hw4
  clear hP hD hS
  have hP : va_P E.1 classes [(sd, .inr (1, [.ref so, .ref sc])), (so, .inl (E.2.1 0, nc, .inl u2)), (sc, .inl (E.2.1 0, 4096, .inl u4))] Hn := hPn
  have hD : va_D A [(sd, .inr (1, [.ref so, .ref sc])), (so, .inl (E.2.1 0, nc, .inl u2)), (sc, .inl (E.2.1 0, 4096, .inl u4))] := hDn
  have hS := hSn
  clear hPn hDn hSn
  exact ar_vret hx hb hr hlocks hK hS (u2, u4) (by subst hw4; subst hw2; exact Eq.symm (Eq.trans (f_Si_clear_s nc st) rfl)) hP hD d_Si_clear_16
