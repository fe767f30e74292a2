/-! the reference's constructor -/
theorem tb_s {f : Nat → Int32} {z k : Nat} {i v : Int32} (h : ∀ j, j < k → f j = zF z j) (hi : i.toNatClampNeg = k) (hv : v = zF z k) : ∀ j, j < k + 1 → upd f i.toNatClampNeg v j = zF z j := by
  intro j hj
  unfold upd
  rw [hi]
  by_cases e : j = k
  · rw [if_pos e, e]; exact hv
  · rw [if_neg e]; exact h j (by omega)
theorem ar_ext {D : va_G} {cl : List vw_C} {ws : va_W} {H : Heap} {k a n : Nat} {cA : ClassId} {f f2 : Nat → Int32} (hP : va_P D cl ws H) (hk : ws[k]? = some (a, .inl (cA, n, .inl f))) (h : ∀ j, j < n → f j = f2 j) : va_P D cl (ws.set k (a, .inl (cA, n, .inl f2))) H := by
  intro i q hi
  by_cases e : i = k
  · subst e
    have hl : i < ws.length := (List.getElem?_eq_some_iff.mp hk).1
    rw [List.getElem?_set_self hl] at hi
    cases hi
    have h1 : H[a]? = some (vp_cell cA (n, .inl f)) := hP i _ hk
    show H[a]? = some (vp_cell cA (n, .inl f2))
    rw [h1, vp_cell_i, vp_cell_i]
    have h2 : (fun j : Fin n => Value.int (f j.val)) = fun j : Fin n => Value.int (f2 j.val) := funext fun j => by rw [h j.val j.isLt]
    unfold arrV
    rw [h2]
  · rw [List.getElem?_set_ne (fun x => e x.symm)] at hi
    exact hP i q hi
theorem ar_extD {A : Nat → Prop} {ws : va_W} {k a : Nat} {e1 e2 : va_E} (hD : va_D A ws) (hk : ws[k]? = some (a, e1)) : va_D A (ws.set k (a, e2)) := by
  have key : ∀ (i : Nat) (q : Nat × va_E), (ws.set k (a, e2))[i]? = some q → ∃ q2 : Nat × va_E, ws[i]? = some q2 ∧ q2.1 = q.1 := by
    intro i q hi
    by_cases e : i = k
    · subst e
      have hl : i < ws.length := (List.getElem?_eq_some_iff.mp hk).1
      rw [List.getElem?_set_self hl] at hi
      cases hi
      exact ⟨_, hk, rfl⟩
    · rw [List.getElem?_set_ne (fun x => e x.symm)] at hi
      exact ⟨q, hi, rfl⟩
  refine ⟨fun i j p q hi hj hpq => ?_, fun i q hi => ?_⟩
  · obtain ⟨p2, h1, h2⟩ := key i p hi
    obtain ⟨q2, h3, h4⟩ := key j q hj
    exact hD.1 i j p2 q2 h1 h3 (by rw [h2, h4]; exact hpq)
  · obtain ⟨q2, h1, h2⟩ := key i q hi
    rw [← h2]
    exact hD.2 i q2 h1
theorem many_a {p0 : Int32} {x : Int32} (h : (if 1 < (if p0 < 65536 then p0 else 65536) then (if p0 < 65536 then p0 else 65536) else 1) = x) (c : ¬ 1 ≤ p0) : (1 : Int32) = x := by
  have a1 : (1 : Int32).toInt = 1 := rfl
  have a2 : (65536 : Int32).toInt = 65536 := rfl
  rw [Int32.le_iff_toInt_le, a1] at c
  have h1 : p0 < 65536 := by rw [Int32.lt_iff_toInt_lt, a2]; omega
  rw [if_pos h1, if_neg (by rw [Int32.lt_iff_toInt_lt, a1]; omega)] at h
  exact h
theorem many_b {p0 : Int32} {x : Int32} (h : (if 1 < (if p0 < 65536 then p0 else 65536) then (if p0 < 65536 then p0 else 65536) else 1) = x) (c : ¬ p0 ≤ 65536) : (65536 : Int32) = x := by
  have a2 : (65536 : Int32).toInt = 65536 := rfl
  rw [Int32.le_iff_toInt_le, a2] at c
  have h1 : ¬ p0 < 65536 := by rw [Int32.lt_iff_toInt_lt, a2]; omega
  rw [if_neg h1, if_pos (by decide)] at h
  exact h
theorem many_c {p0 : Int32} {x : Int32} (h : (if 1 < (if p0 < 65536 then p0 else 65536) then (if p0 < 65536 then p0 else 65536) else 1) = x) (c : 1 ≤ p0) (c2 : p0 ≤ 65536) : p0 = x := by
  have a1 : (1 : Int32).toInt = 1 := rfl
  have a2 : (65536 : Int32).toInt = 65536 := rfl
  rw [Int32.le_iff_toInt_le, a1] at c
  rw [Int32.le_iff_toInt_le, a2] at c2
  rw [← h]
  by_cases h1 : p0 < 65536
  · rw [if_pos h1]
    by_cases h2 : 1 < p0
    · rw [if_pos h2]
    · rw [if_neg h2]
      rw [Int32.lt_iff_toInt_lt, a1] at h2
      exact Int32.toInt_inj.mp (by rw [a1]; omega)
  · rw [if_neg h1, if_pos (by decide)]
    rw [Int32.lt_iff_toInt_lt, a2] at h1
    exact Int32.toInt_inj.mp (by rw [a2]; omega)
theorem k_M_bs0 {nx : Nat} {st : MS} (h : st.1.2.2.1 = 0) : k_M_beginSegment nx false st := by
  unfold k_M_beginSegment
  rw [h]
  exact ⟨vp_in_iff.mpr (by decide), vp_in_iff.mpr (by decide), fun x hx => ⟨by rw [hx]; exact vp_in_iff.mpr (by decide), trivial⟩⟩

set_option maxHeartbeats 4000000 in
set_option maxRecDepth 100000 in
theorem c_M_init (l : Launch) (E : Ev) (A : Nat → Prop) (mo nx : Nat)  (p0 : Int32) (hnx0 : (if 1 < (if p0 < 65536 then p0 else 65536) then (if p0 < 65536 then p0 else 65536) else 1) = nI nx) :
    Kt l y_M_init b_M_init 2 none 1 8 654821 E A [.ref mo, .int p0] [(mo, .inr (5, [.null, .null, .null, .int 0, .int 0, .null, .int 0, .null, .int 0, .null, .null, .int 0, .null, .int (bI false), .int 0, .int 0, .int 0, .int 0, .int 0, .int 0, .int 0, .int 0, .long 0, .int 0, .int 0, .int 0, .int (bI false), .int 0, .int 0]))] (va_Qv (fun _ : Nat × Nat × Nat × Nat × Nat × Nat × Nat × Nat => True) (ar_W E A (fun u : Nat × Nat × Nat × Nat × Nat × Nat × Nat × Nat => [(mo, .inr (5, [.ref u.2.2.2.2.2.1, .ref u.2.2.2.2.2.2.1, .ref u.2.2.2.2.2.2.2, .int ((f_M_beginSegment nx false ((0, 0, 0, 0, false, 0, 0, 0, 0, 0, 0, 0, 0, 0, 0, 0, 0, false, 0, 0), (fun _ => 0), (fun _ => 0), (fun _ => 0), (fun _ => 0), (fun _ => 0))).1.1), .int (nI nx), .ref u.1, .int ((f_M_beginSegment nx false ((0, 0, 0, 0, false, 0, 0, 0, 0, 0, 0, 0, 0, 0, 0, 0, 0, false, 0, 0), (fun _ => 0), (fun _ => 0), (fun _ => 0), (fun _ => 0), (fun _ => 0))).1.2.1), .ref u.2.1, .int ((f_M_beginSegment nx false ((0, 0, 0, 0, false, 0, 0, 0, 0, 0, 0, 0, 0, 0, 0, 0, 0, false, 0, 0), (fun _ => 0), (fun _ => 0), (fun _ => 0), (fun _ => 0), (fun _ => 0))).1.2.2.1), .ref u.2.2.1, .ref u.2.2.2.1, .int ((f_M_beginSegment nx false ((0, 0, 0, 0, false, 0, 0, 0, 0, 0, 0, 0, 0, 0, 0, 0, 0, false, 0, 0), (fun _ => 0), (fun _ => 0), (fun _ => 0), (fun _ => 0), (fun _ => 0))).1.2.2.2.1), .ref u.2.2.2.2.1, .int (bI ((f_M_beginSegment nx false ((0, 0, 0, 0, false, 0, 0, 0, 0, 0, 0, 0, 0, 0, 0, 0, 0, false, 0, 0), (fun _ => 0), (fun _ => 0), (fun _ => 0), (fun _ => 0), (fun _ => 0))).1.2.2.2.2.1)), .int ((f_M_beginSegment nx false ((0, 0, 0, 0, false, 0, 0, 0, 0, 0, 0, 0, 0, 0, 0, 0, 0, false, 0, 0), (fun _ => 0), (fun _ => 0), (fun _ => 0), (fun _ => 0), (fun _ => 0))).1.2.2.2.2.2.1), .int ((f_M_beginSegment nx false ((0, 0, 0, 0, false, 0, 0, 0, 0, 0, 0, 0, 0, 0, 0, 0, 0, false, 0, 0), (fun _ => 0), (fun _ => 0), (fun _ => 0), (fun _ => 0), (fun _ => 0))).1.2.2.2.2.2.2.1), .int ((f_M_beginSegment nx false ((0, 0, 0, 0, false, 0, 0, 0, 0, 0, 0, 0, 0, 0, 0, 0, 0, false, 0, 0), (fun _ => 0), (fun _ => 0), (fun _ => 0), (fun _ => 0), (fun _ => 0))).1.2.2.2.2.2.2.2.1), .int ((f_M_beginSegment nx false ((0, 0, 0, 0, false, 0, 0, 0, 0, 0, 0, 0, 0, 0, 0, 0, 0, false, 0, 0), (fun _ => 0), (fun _ => 0), (fun _ => 0), (fun _ => 0), (fun _ => 0))).1.2.2.2.2.2.2.2.2.1), .int ((f_M_beginSegment nx false ((0, 0, 0, 0, false, 0, 0, 0, 0, 0, 0, 0, 0, 0, 0, 0, 0, false, 0, 0), (fun _ => 0), (fun _ => 0), (fun _ => 0), (fun _ => 0), (fun _ => 0))).1.2.2.2.2.2.2.2.2.2.1), .int ((f_M_beginSegment nx false ((0, 0, 0, 0, false, 0, 0, 0, 0, 0, 0, 0, 0, 0, 0, 0, 0, false, 0, 0), (fun _ => 0), (fun _ => 0), (fun _ => 0), (fun _ => 0), (fun _ => 0))).1.2.2.2.2.2.2.2.2.2.2.1), .int ((f_M_beginSegment nx false ((0, 0, 0, 0, false, 0, 0, 0, 0, 0, 0, 0, 0, 0, 0, 0, 0, false, 0, 0), (fun _ => 0), (fun _ => 0), (fun _ => 0), (fun _ => 0), (fun _ => 0))).1.2.2.2.2.2.2.2.2.2.2.2.1), .int ((f_M_beginSegment nx false ((0, 0, 0, 0, false, 0, 0, 0, 0, 0, 0, 0, 0, 0, 0, 0, 0, false, 0, 0), (fun _ => 0), (fun _ => 0), (fun _ => 0), (fun _ => 0), (fun _ => 0))).1.2.2.2.2.2.2.2.2.2.2.2.2.1), .long ((f_M_beginSegment nx false ((0, 0, 0, 0, false, 0, 0, 0, 0, 0, 0, 0, 0, 0, 0, 0, 0, false, 0, 0), (fun _ => 0), (fun _ => 0), (fun _ => 0), (fun _ => 0), (fun _ => 0))).1.2.2.2.2.2.2.2.2.2.2.2.2.2.1), .int ((f_M_beginSegment nx false ((0, 0, 0, 0, false, 0, 0, 0, 0, 0, 0, 0, 0, 0, 0, 0, 0, false, 0, 0), (fun _ => 0), (fun _ => 0), (fun _ => 0), (fun _ => 0), (fun _ => 0))).1.2.2.2.2.2.2.2.2.2.2.2.2.2.2.1), .int ((f_M_beginSegment nx false ((0, 0, 0, 0, false, 0, 0, 0, 0, 0, 0, 0, 0, 0, 0, 0, 0, false, 0, 0), (fun _ => 0), (fun _ => 0), (fun _ => 0), (fun _ => 0), (fun _ => 0))).1.2.2.2.2.2.2.2.2.2.2.2.2.2.2.2.1), .int ((f_M_beginSegment nx false ((0, 0, 0, 0, false, 0, 0, 0, 0, 0, 0, 0, 0, 0, 0, 0, 0, false, 0, 0), (fun _ => 0), (fun _ => 0), (fun _ => 0), (fun _ => 0), (fun _ => 0))).1.2.2.2.2.2.2.2.2.2.2.2.2.2.2.2.2.1), .int (bI ((f_M_beginSegment nx false ((0, 0, 0, 0, false, 0, 0, 0, 0, 0, 0, 0, 0, 0, 0, 0, 0, false, 0, 0), (fun _ => 0), (fun _ => 0), (fun _ => 0), (fun _ => 0), (fun _ => 0))).1.2.2.2.2.2.2.2.2.2.2.2.2.2.2.2.2.2.1)), .int ((f_M_beginSegment nx false ((0, 0, 0, 0, false, 0, 0, 0, 0, 0, 0, 0, 0, 0, 0, 0, 0, false, 0, 0), (fun _ => 0), (fun _ => 0), (fun _ => 0), (fun _ => 0), (fun _ => 0))).1.2.2.2.2.2.2.2.2.2.2.2.2.2.2.2.2.2.2.1), .int ((f_M_beginSegment nx false ((0, 0, 0, 0, false, 0, 0, 0, 0, 0, 0, 0, 0, 0, 0, 0, 0, false, 0, 0), (fun _ => 0), (fun _ => 0), (fun _ => 0), (fun _ => 0), (fun _ => 0))).1.2.2.2.2.2.2.2.2.2.2.2.2.2.2.2.2.2.2.2)])), (u.1, .inl (E.2.1 0, 139264, .inl ((f_M_beginSegment nx false ((0, 0, 0, 0, false, 0, 0, 0, 0, 0, 0, 0, 0, 0, 0, 0, 0, false, 0, 0), (fun _ => 0), (fun _ => 0), (fun _ => 0), (fun _ => 0), (fun _ => 0))).2.1))), (u.2.1, .inl (E.2.1 0, 393216, .inl ((f_M_beginSegment nx false ((0, 0, 0, 0, false, 0, 0, 0, 0, 0, 0, 0, 0, 0, 0, 0, 0, false, 0, 0), (fun _ => 0), (fun _ => 0), (fun _ => 0), (fun _ => 0), (fun _ => 0))).2.2.1))), (u.2.2.1, .inl (E.2.1 0, 1100, .inl ((f_M_beginSegment nx false ((0, 0, 0, 0, false, 0, 0, 0, 0, 0, 0, 0, 0, 0, 0, 0, 0, false, 0, 0), (fun _ => 0), (fun _ => 0), (fun _ => 0), (fun _ => 0), (fun _ => 0))).2.2.2.1))), (u.2.2.2.1, .inl (E.2.1 1, 1100, .inl ((f_M_beginSegment nx false ((0, 0, 0, 0, false, 0, 0, 0, 0, 0, 0, 0, 0, 0, 0, 0, 0, false, 0, 0), (fun _ => 0), (fun _ => 0), (fun _ => 0), (fun _ => 0), (fun _ => 0))).2.2.2.2.1))), (u.2.2.2.2.1, .inl (E.2.1 0, 120000, .inl ((f_M_beginSegment nx false ((0, 0, 0, 0, false, 0, 0, 0, 0, 0, 0, 0, 0, 0, 0, 0, 0, false, 0, 0), (fun _ => 0), (fun _ => 0), (fun _ => 0), (fun _ => 0), (fun _ => 0))).2.2.2.2.2))), (u.2.2.2.2.2.1, .inl (E.2.1 0, 47, .inl (zF 0))), (u.2.2.2.2.2.2.1, .inl (E.2.1 0, 47, .inl (zF 1))), (u.2.2.2.2.2.2.2, .inl (E.2.1 0, 47, .inl (zF 2)))])) A) := by
  refine Kt.of (by decide) (Nat.le_of_ble_eq_true rfl) ?_
  intro p e s m below meth c ls hx hb hml hown hts hr hlocks hex hin hA hZ hP hK hD hl
  have hS : va_S A s.heap s.heap [] := va_S.rf
  have hl : lv_has ls 2 [(0, .ref mo), (1, .int p0)] := hl
  refine lv_aload_n hx hb d_M_init_0 rfl (lv_at hl 0 rfl) ?_
  refine W.objInit hx hb hown (hts _ m_600) (hts _ m_23) (hts _ m_24) rfl (by rw [hml]; exact hl.1) rfl d_M_init_1 (Nat.le_of_ble_eq_true rfl) (Nat.le_of_ble_eq_true rfl) ?_
  refine W.eq (g2 := F0 m 4 ls []) rfl ?_
  refine lv_aload_n hx hb d_M_init_4 rfl (lv_at hl 0 rfl) ?_
  refine lv_bipush (v := 47) hx hb d_M_init_5 (by decide) ?_
  refine ar_newI (N := 47) hx hb hts hP hD hS hA hK (by decide) rfl (by show 47 * 4 ≤ 536870912; omega) (Nat.le_of_ble_eq_true rfl) (by show 0 + 47 ≤ 654821; omega) d_M_init_7 (fun q1 Hn hPn hDn hSn => ?_)
  clear hP hD hS
  have hP : va_P E.1 classes [(mo, .inr (5, [.null, .null, .null, .int 0, .int 0, .null, .int 0, .null, .int 0, .null, .null, .int 0, .null, .int (bI false), .int 0, .int 0, .int 0, .int 0, .int 0, .int 0, .int 0, .int 0, .long 0, .int 0, .int 0, .int 0, .int (bI false), .int 0, .int 0])), (q1, .inl (E.2.1 0, 47, .inl (fun _ => 0)))] Hn := hPn
  have hD : va_D A [(mo, .inr (5, [.null, .null, .null, .int 0, .int 0, .null, .int 0, .null, .int 0, .null, .null, .int 0, .null, .int (bI false), .int 0, .int 0, .int 0, .int 0, .int 0, .int 0, .int 0, .int 0, .long 0, .int 0, .int 0, .int 0, .int (bI false), .int 0, .int 0])), (q1, .inl (E.2.1 0, 47, .inl (fun _ => 0)))] := hDn
  have hS := hSn
  clear hPn hDn hSn
  refine W.widen (k := 1) (n := 47) (by omega) (by omega) ?_
  have hq2 : ∀ j, j < 0 → (fun _ : Nat => (0 : Int32)) j = zF 0 j := fun j hj => absurd hj (Nat.not_lt_zero j)
  refine lv_dup hx hb d_M_init_9 rfl ?_
  refine lv_iconst (v := 0) hx hb d_M_init_10 (by decide) ?_
  refine lv_sipush (v := 22017) hx hb d_M_init_11 (by decide) ?_
  refine va_iast (D := E.1) (x := 22017) hx hb hK hP hD hS 1 0 rfl rfl (vp_in_iff.mpr (by decide)) d_M_init_14 (fun Hn locsn hPn hDn hSn => ?_)
  obtain ⟨g3, eg3⟩ : ∃ g : Nat → Int32, g = upd (fun _ => 0) (Int32.toNatClampNeg 0) 22017 := ⟨_, rfl⟩
  have hq4 : ∀ j, j < 1 → g3 j = zF 0 j := by rw [eg3]; exact tb_s hq2 (by decide) (by decide)
  rw [← eg3] at hPn hDn
  clear eg3 hq2
  clear hP hD hS
  have hP : va_P E.1 classes [(mo, .inr (5, [.null, .null, .null, .int 0, .int 0, .null, .int 0, .null, .int 0, .null, .null, .int 0, .null, .int (bI false), .int 0, .int 0, .int 0, .int 0, .int 0, .int 0, .int 0, .int 0, .long 0, .int 0, .int 0, .int 0, .int (bI false), .int 0, .int 0])), (q1, .inl (E.2.1 0, 47, .inl g3))] Hn := hPn
  have hD : va_D A [(mo, .inr (5, [.null, .null, .null, .int 0, .int 0, .null, .int 0, .null, .int 0, .null, .null, .int 0, .null, .int (bI false), .int 0, .int 0, .int 0, .int 0, .int 0, .int 0, .int 0, .int 0, .long 0, .int 0, .int 0, .int 0, .int (bI false), .int 0, .int 0])), (q1, .inl (E.2.1 0, 47, .inl g3))] := hDn
  have hS := hSn
  clear hPn hDn hSn
  refine lv_dup hx hb d_M_init_15 rfl ?_
  refine lv_iconst (v := 1) hx hb d_M_init_16 (by decide) ?_
  refine lv_sipush (v := 13313) hx hb d_M_init_17 (by decide) ?_
  refine va_iast (D := E.1) (x := 13313) hx hb hK hP hD hS 1 0 rfl rfl (vp_in_iff.mpr (by decide)) d_M_init_20 (fun Hn locsn hPn hDn hSn => ?_)
  obtain ⟨g5, eg5⟩ : ∃ g : Nat → Int32, g = upd g3 (Int32.toNatClampNeg 1) 13313 := ⟨_, rfl⟩
  have hq6 : ∀ j, j < 2 → g5 j = zF 0 j := by rw [eg5]; exact tb_s hq4 (by decide) (by decide)
  rw [← eg5] at hPn hDn
  clear eg5 hq4
  clear hP hD hS
  have hP : va_P E.1 classes [(mo, .inr (5, [.null, .null, .null, .int 0, .int 0, .null, .int 0, .null, .int 0, .null, .null, .int 0, .null, .int (bI false), .int 0, .int 0, .int 0, .int 0, .int 0, .int 0, .int 0, .int 0, .long 0, .int 0, .int 0, .int 0, .int (bI false), .int 0, .int 0])), (q1, .inl (E.2.1 0, 47, .inl g5))] Hn := hPn
  have hD : va_D A [(mo, .inr (5, [.null, .null, .null, .int 0, .int 0, .null, .int 0, .null, .int 0, .null, .null, .int 0, .null, .int (bI false), .int 0, .int 0, .int 0, .int 0, .int 0, .int 0, .int 0, .int 0, .long 0, .int 0, .int 0, .int 0, .int (bI false), .int 0, .int 0])), (q1, .inl (E.2.1 0, 47, .inl g5))] := hDn
  have hS := hSn
  clear hPn hDn hSn
  refine lv_dup hx hb d_M_init_21 rfl ?_
  refine lv_iconst (v := 2) hx hb d_M_init_22 (by decide) ?_
  refine lv_sipush (v := 6145) hx hb d_M_init_23 (by decide) ?_
  refine va_iast (D := E.1) (x := 6145) hx hb hK hP hD hS 1 0 rfl rfl (vp_in_iff.mpr (by decide)) d_M_init_26 (fun Hn locsn hPn hDn hSn => ?_)
  obtain ⟨g7, eg7⟩ : ∃ g : Nat → Int32, g = upd g5 (Int32.toNatClampNeg 2) 6145 := ⟨_, rfl⟩
  have hq8 : ∀ j, j < 3 → g7 j = zF 0 j := by rw [eg7]; exact tb_s hq6 (by decide) (by decide)
  rw [← eg7] at hPn hDn
  clear eg7 hq6
  clear hP hD hS
  have hP : va_P E.1 classes [(mo, .inr (5, [.null, .null, .null, .int 0, .int 0, .null, .int 0, .null, .int 0, .null, .null, .int 0, .null, .int (bI false), .int 0, .int 0, .int 0, .int 0, .int 0, .int 0, .int 0, .int 0, .long 0, .int 0, .int 0, .int 0, .int (bI false), .int 0, .int 0])), (q1, .inl (E.2.1 0, 47, .inl g7))] Hn := hPn
  have hD : va_D A [(mo, .inr (5, [.null, .null, .null, .int 0, .int 0, .null, .int 0, .null, .int 0, .null, .null, .int 0, .null, .int (bI false), .int 0, .int 0, .int 0, .int 0, .int 0, .int 0, .int 0, .int 0, .long 0, .int 0, .int 0, .int 0, .int (bI false), .int 0, .int 0])), (q1, .inl (E.2.1 0, 47, .inl g7))] := hDn
  have hS := hSn
  clear hPn hDn hSn
  refine lv_dup hx hb d_M_init_27 rfl ?_
  refine lv_iconst (v := 3) hx hb d_M_init_28 (by decide) ?_
  refine lv_sipush (v := 2753) hx hb d_M_init_29 (by decide) ?_
  refine va_iast (D := E.1) (x := 2753) hx hb hK hP hD hS 1 0 rfl rfl (vp_in_iff.mpr (by decide)) d_M_init_32 (fun Hn locsn hPn hDn hSn => ?_)
  obtain ⟨g9, eg9⟩ : ∃ g : Nat → Int32, g = upd g7 (Int32.toNatClampNeg 3) 2753 := ⟨_, rfl⟩
  have hq10 : ∀ j, j < 4 → g9 j = zF 0 j := by rw [eg9]; exact tb_s hq8 (by decide) (by decide)
  rw [← eg9] at hPn hDn
  clear eg9 hq8
  clear hP hD hS
  have hP : va_P E.1 classes [(mo, .inr (5, [.null, .null, .null, .int 0, .int 0, .null, .int 0, .null, .int 0, .null, .null, .int 0, .null, .int (bI false), .int 0, .int 0, .int 0, .int 0, .int 0, .int 0, .int 0, .int 0, .long 0, .int 0, .int 0, .int 0, .int (bI false), .int 0, .int 0])), (q1, .inl (E.2.1 0, 47, .inl g9))] Hn := hPn
  have hD : va_D A [(mo, .inr (5, [.null, .null, .null, .int 0, .int 0, .null, .int 0, .null, .int 0, .null, .null, .int 0, .null, .int (bI false), .int 0, .int 0, .int 0, .int 0, .int 0, .int 0, .int 0, .int 0, .long 0, .int 0, .int 0, .int 0, .int (bI false), .int 0, .int 0])), (q1, .inl (E.2.1 0, 47, .inl g9))] := hDn
  have hS := hSn
  clear hPn hDn hSn
  refine lv_dup hx hb d_M_init_33 rfl ?_
  refine lv_iconst (v := 4) hx hb d_M_init_34 (by decide) ?_
  refine lv_sipush (v := 1313) hx hb d_M_init_35 (by decide) ?_
  refine va_iast (D := E.1) (x := 1313) hx hb hK hP hD hS 1 0 rfl rfl (vp_in_iff.mpr (by decide)) d_M_init_38 (fun Hn locsn hPn hDn hSn => ?_)
  obtain ⟨g11, eg11⟩ : ∃ g : Nat → Int32, g = upd g9 (Int32.toNatClampNeg 4) 1313 := ⟨_, rfl⟩
  have hq12 : ∀ j, j < 5 → g11 j = zF 0 j := by rw [eg11]; exact tb_s hq10 (by decide) (by decide)
  rw [← eg11] at hPn hDn
  clear eg11 hq10
  clear hP hD hS
  have hP : va_P E.1 classes [(mo, .inr (5, [.null, .null, .null, .int 0, .int 0, .null, .int 0, .null, .int 0, .null, .null, .int 0, .null, .int (bI false), .int 0, .int 0, .int 0, .int 0, .int 0, .int 0, .int 0, .int 0, .long 0, .int 0, .int 0, .int 0, .int (bI false), .int 0, .int 0])), (q1, .inl (E.2.1 0, 47, .inl g11))] Hn := hPn
  have hD : va_D A [(mo, .inr (5, [.null, .null, .null, .int 0, .int 0, .null, .int 0, .null, .int 0, .null, .null, .int 0, .null, .int (bI false), .int 0, .int 0, .int 0, .int 0, .int 0, .int 0, .int 0, .int 0, .long 0, .int 0, .int 0, .int 0, .int (bI false), .int 0, .int 0])), (q1, .inl (E.2.1 0, 47, .inl g11))] := hDn
  have hS := hSn
  clear hPn hDn hSn
  refine lv_dup hx hb d_M_init_39 rfl ?_
  refine lv_iconst (v := 5) hx hb d_M_init_40 (by decide) ?_
  refine lv_sipush (v := 545) hx hb d_M_init_41 (by decide) ?_
  refine va_iast (D := E.1) (x := 545) hx hb hK hP hD hS 1 0 rfl rfl (vp_in_iff.mpr (by decide)) d_M_init_44 (fun Hn locsn hPn hDn hSn => ?_)
  obtain ⟨g13, eg13⟩ : ∃ g : Nat → Int32, g = upd g11 (Int32.toNatClampNeg 5) 545 := ⟨_, rfl⟩
  have hq14 : ∀ j, j < 6 → g13 j = zF 0 j := by rw [eg13]; exact tb_s hq12 (by decide) (by decide)
  rw [← eg13] at hPn hDn
  clear eg13 hq12
  clear hP hD hS
  have hP : va_P E.1 classes [(mo, .inr (5, [.null, .null, .null, .int 0, .int 0, .null, .int 0, .null, .int 0, .null, .null, .int 0, .null, .int (bI false), .int 0, .int 0, .int 0, .int 0, .int 0, .int 0, .int 0, .int 0, .long 0, .int 0, .int 0, .int 0, .int (bI false), .int 0, .int 0])), (q1, .inl (E.2.1 0, 47, .inl g13))] Hn := hPn
  have hD : va_D A [(mo, .inr (5, [.null, .null, .null, .int 0, .int 0, .null, .int 0, .null, .int 0, .null, .null, .int 0, .null, .int (bI false), .int 0, .int 0, .int 0, .int 0, .int 0, .int 0, .int 0, .int 0, .long 0, .int 0, .int 0, .int 0, .int (bI false), .int 0, .int 0])), (q1, .inl (E.2.1 0, 47, .inl g13))] := hDn
  have hS := hSn
  clear hPn hDn hSn
  refine lv_dup hx hb d_M_init_45 rfl ?_
  refine lv_bipush (v := 6) hx hb d_M_init_46 (by decide) ?_
  refine lv_sipush (v := 22017) hx hb d_M_init_48 (by decide) ?_
  refine va_iast (D := E.1) (x := 22017) hx hb hK hP hD hS 1 0 rfl rfl (vp_in_iff.mpr (by decide)) d_M_init_51 (fun Hn locsn hPn hDn hSn => ?_)
  obtain ⟨g15, eg15⟩ : ∃ g : Nat → Int32, g = upd g13 (Int32.toNatClampNeg 6) 22017 := ⟨_, rfl⟩
  have hq16 : ∀ j, j < 7 → g15 j = zF 0 j := by rw [eg15]; exact tb_s hq14 (by decide) (by decide)
  rw [← eg15] at hPn hDn
  clear eg15 hq14
  clear hP hD hS
  have hP : va_P E.1 classes [(mo, .inr (5, [.null, .null, .null, .int 0, .int 0, .null, .int 0, .null, .int 0, .null, .null, .int 0, .null, .int (bI false), .int 0, .int 0, .int 0, .int 0, .int 0, .int 0, .int 0, .int 0, .long 0, .int 0, .int 0, .int 0, .int (bI false), .int 0, .int 0])), (q1, .inl (E.2.1 0, 47, .inl g15))] Hn := hPn
  have hD : va_D A [(mo, .inr (5, [.null, .null, .null, .int 0, .int 0, .null, .int 0, .null, .int 0, .null, .null, .int 0, .null, .int (bI false), .int 0, .int 0, .int 0, .int 0, .int 0, .int 0, .int 0, .int 0, .long 0, .int 0, .int 0, .int 0, .int (bI false), .int 0, .int 0])), (q1, .inl (E.2.1 0, 47, .inl g15))] := hDn
  have hS := hSn
  clear hPn hDn hSn
  refine lv_dup hx hb d_M_init_52 rfl ?_
  refine lv_bipush (v := 7) hx hb d_M_init_53 (by decide) ?_
  refine lv_sipush (v := 21505) hx hb d_M_init_55 (by decide) ?_
  refine va_iast (D := E.1) (x := 21505) hx hb hK hP hD hS 1 0 rfl rfl (vp_in_iff.mpr (by decide)) d_M_init_58 (fun Hn locsn hPn hDn hSn => ?_)
  obtain ⟨g17, eg17⟩ : ∃ g : Nat → Int32, g = upd g15 (Int32.toNatClampNeg 7) 21505 := ⟨_, rfl⟩
  have hq18 : ∀ j, j < 8 → g17 j = zF 0 j := by rw [eg17]; exact tb_s hq16 (by decide) (by decide)
  rw [← eg17] at hPn hDn
  clear eg17 hq16
  clear hP hD hS
  have hP : va_P E.1 classes [(mo, .inr (5, [.null, .null, .null, .int 0, .int 0, .null, .int 0, .null, .int 0, .null, .null, .int 0, .null, .int (bI false), .int 0, .int 0, .int 0, .int 0, .int 0, .int 0, .int 0, .int 0, .long 0, .int 0, .int 0, .int 0, .int (bI false), .int 0, .int 0])), (q1, .inl (E.2.1 0, 47, .inl g17))] Hn := hPn
  have hD : va_D A [(mo, .inr (5, [.null, .null, .null, .int 0, .int 0, .null, .int 0, .null, .int 0, .null, .null, .int 0, .null, .int (bI false), .int 0, .int 0, .int 0, .int 0, .int 0, .int 0, .int 0, .int 0, .long 0, .int 0, .int 0, .int 0, .int (bI false), .int 0, .int 0])), (q1, .inl (E.2.1 0, 47, .inl g17))] := hDn
  have hS := hSn
  clear hPn hDn hSn
  refine lv_dup hx hb d_M_init_59 rfl ?_
  refine lv_bipush (v := 8) hx hb d_M_init_60 (by decide) ?_
  refine lv_sipush (v := 18433) hx hb d_M_init_62 (by decide) ?_
  refine va_iast (D := E.1) (x := 18433) hx hb hK hP hD hS 1 0 rfl rfl (vp_in_iff.mpr (by decide)) d_M_init_65 (fun Hn locsn hPn hDn hSn => ?_)
  obtain ⟨g19, eg19⟩ : ∃ g : Nat → Int32, g = upd g17 (Int32.toNatClampNeg 8) 18433 := ⟨_, rfl⟩
  have hq20 : ∀ j, j < 9 → g19 j = zF 0 j := by rw [eg19]; exact tb_s hq18 (by decide) (by decide)
  rw [← eg19] at hPn hDn
  clear eg19 hq18
  clear hP hD hS
  have hP : va_P E.1 classes [(mo, .inr (5, [.null, .null, .null, .int 0, .int 0, .null, .int 0, .null, .int 0, .null, .null, .int 0, .null, .int (bI false), .int 0, .int 0, .int 0, .int 0, .int 0, .int 0, .int 0, .int 0, .long 0, .int 0, .int 0, .int 0, .int (bI false), .int 0, .int 0])), (q1, .inl (E.2.1 0, 47, .inl g19))] Hn := hPn
  have hD : va_D A [(mo, .inr (5, [.null, .null, .null, .int 0, .int 0, .null, .int 0, .null, .int 0, .null, .null, .int 0, .null, .int (bI false), .int 0, .int 0, .int 0, .int 0, .int 0, .int 0, .int 0, .int 0, .long 0, .int 0, .int 0, .int 0, .int (bI false), .int 0, .int 0])), (q1, .inl (E.2.1 0, 47, .inl g19))] := hDn
  have hS := hSn
  clear hPn hDn hSn
  refine lv_dup hx hb d_M_init_66 rfl ?_
  refine lv_bipush (v := 9) hx hb d_M_init_67 (by decide) ?_
  refine lv_sipush (v := 14337) hx hb d_M_init_69 (by decide) ?_
  refine va_iast (D := E.1) (x := 14337) hx hb hK hP hD hS 1 0 rfl rfl (vp_in_iff.mpr (by decide)) d_M_init_72 (fun Hn locsn hPn hDn hSn => ?_)
  obtain ⟨g21, eg21⟩ : ∃ g : Nat → Int32, g = upd g19 (Int32.toNatClampNeg 9) 14337 := ⟨_, rfl⟩
  have hq22 : ∀ j, j < 10 → g21 j = zF 0 j := by rw [eg21]; exact tb_s hq20 (by decide) (by decide)
  rw [← eg21] at hPn hDn
  clear eg21 hq20
  clear hP hD hS
  have hP : va_P E.1 classes [(mo, .inr (5, [.null, .null, .null, .int 0, .int 0, .null, .int 0, .null, .int 0, .null, .null, .int 0, .null, .int (bI false), .int 0, .int 0, .int 0, .int 0, .int 0, .int 0, .int 0, .int 0, .long 0, .int 0, .int 0, .int 0, .int (bI false), .int 0, .int 0])), (q1, .inl (E.2.1 0, 47, .inl g21))] Hn := hPn
  have hD : va_D A [(mo, .inr (5, [.null, .null, .null, .int 0, .int 0, .null, .int 0, .null, .int 0, .null, .null, .int 0, .null, .int (bI false), .int 0, .int 0, .int 0, .int 0, .int 0, .int 0, .int 0, .int 0, .long 0, .int 0, .int 0, .int 0, .int (bI false), .int 0, .int 0])), (q1, .inl (E.2.1 0, 47, .inl g21))] := hDn
  have hS := hSn
  clear hPn hDn hSn
  refine lv_dup hx hb d_M_init_73 rfl ?_
  refine lv_bipush (v := 10) hx hb d_M_init_74 (by decide) ?_
  refine lv_sipush (v := 12289) hx hb d_M_init_76 (by decide) ?_
  refine va_iast (D := E.1) (x := 12289) hx hb hK hP hD hS 1 0 rfl rfl (vp_in_iff.mpr (by decide)) d_M_init_79 (fun Hn locsn hPn hDn hSn => ?_)
  obtain ⟨g23, eg23⟩ : ∃ g : Nat → Int32, g = upd g21 (Int32.toNatClampNeg 10) 12289 := ⟨_, rfl⟩
  have hq24 : ∀ j, j < 11 → g23 j = zF 0 j := by rw [eg23]; exact tb_s hq22 (by decide) (by decide)
  rw [← eg23] at hPn hDn
  clear eg23 hq22
  clear hP hD hS
  have hP : va_P E.1 classes [(mo, .inr (5, [.null, .null, .null, .int 0, .int 0, .null, .int 0, .null, .int 0, .null, .null, .int 0, .null, .int (bI false), .int 0, .int 0, .int 0, .int 0, .int 0, .int 0, .int 0, .int 0, .long 0, .int 0, .int 0, .int 0, .int (bI false), .int 0, .int 0])), (q1, .inl (E.2.1 0, 47, .inl g23))] Hn := hPn
  have hD : va_D A [(mo, .inr (5, [.null, .null, .null, .int 0, .int 0, .null, .int 0, .null, .int 0, .null, .null, .int 0, .null, .int (bI false), .int 0, .int 0, .int 0, .int 0, .int 0, .int 0, .int 0, .int 0, .long 0, .int 0, .int 0, .int 0, .int (bI false), .int 0, .int 0])), (q1, .inl (E.2.1 0, 47, .inl g23))] := hDn
  have hS := hSn
  clear hPn hDn hSn
  refine lv_dup hx hb d_M_init_80 rfl ?_
  refine lv_bipush (v := 11) hx hb d_M_init_81 (by decide) ?_
  refine lv_sipush (v := 9217) hx hb d_M_init_83 (by decide) ?_
  refine va_iast (D := E.1) (x := 9217) hx hb hK hP hD hS 1 0 rfl rfl (vp_in_iff.mpr (by decide)) d_M_init_86 (fun Hn locsn hPn hDn hSn => ?_)
  obtain ⟨g25, eg25⟩ : ∃ g : Nat → Int32, g = upd g23 (Int32.toNatClampNeg 11) 9217 := ⟨_, rfl⟩
  have hq26 : ∀ j, j < 12 → g25 j = zF 0 j := by rw [eg25]; exact tb_s hq24 (by decide) (by decide)
  rw [← eg25] at hPn hDn
  clear eg25 hq24
  clear hP hD hS
  have hP : va_P E.1 classes [(mo, .inr (5, [.null, .null, .null, .int 0, .int 0, .null, .int 0, .null, .int 0, .null, .null, .int 0, .null, .int (bI false), .int 0, .int 0, .int 0, .int 0, .int 0, .int 0, .int 0, .int 0, .long 0, .int 0, .int 0, .int 0, .int (bI false), .int 0, .int 0])), (q1, .inl (E.2.1 0, 47, .inl g25))] Hn := hPn
  have hD : va_D A [(mo, .inr (5, [.null, .null, .null, .int 0, .int 0, .null, .int 0, .null, .int 0, .null, .null, .int 0, .null, .int (bI false), .int 0, .int 0, .int 0, .int 0, .int 0, .int 0, .int 0, .int 0, .long 0, .int 0, .int 0, .int 0, .int (bI false), .int 0, .int 0])), (q1, .inl (E.2.1 0, 47, .inl g25))] := hDn
  have hS := hSn
  clear hPn hDn hSn
  refine lv_dup hx hb d_M_init_87 rfl ?_
  refine lv_bipush (v := 12) hx hb d_M_init_88 (by decide) ?_
  refine lv_sipush (v := 7169) hx hb d_M_init_90 (by decide) ?_
  refine va_iast (D := E.1) (x := 7169) hx hb hK hP hD hS 1 0 rfl rfl (vp_in_iff.mpr (by decide)) d_M_init_93 (fun Hn locsn hPn hDn hSn => ?_)
  obtain ⟨g27, eg27⟩ : ∃ g : Nat → Int32, g = upd g25 (Int32.toNatClampNeg 12) 7169 := ⟨_, rfl⟩
  have hq28 : ∀ j, j < 13 → g27 j = zF 0 j := by rw [eg27]; exact tb_s hq26 (by decide) (by decide)
  rw [← eg27] at hPn hDn
  clear eg27 hq26
  clear hP hD hS
  have hP : va_P E.1 classes [(mo, .inr (5, [.null, .null, .null, .int 0, .int 0, .null, .int 0, .null, .int 0, .null, .null, .int 0, .null, .int (bI false), .int 0, .int 0, .int 0, .int 0, .int 0, .int 0, .int 0, .int 0, .long 0, .int 0, .int 0, .int 0, .int (bI false), .int 0, .int 0])), (q1, .inl (E.2.1 0, 47, .inl g27))] Hn := hPn
  have hD : va_D A [(mo, .inr (5, [.null, .null, .null, .int 0, .int 0, .null, .int 0, .null, .int 0, .null, .null, .int 0, .null, .int (bI false), .int 0, .int 0, .int 0, .int 0, .int 0, .int 0, .int 0, .int 0, .long 0, .int 0, .int 0, .int 0, .int (bI false), .int 0, .int 0])), (q1, .inl (E.2.1 0, 47, .inl g27))] := hDn
  have hS := hSn
  clear hPn hDn hSn
  refine lv_dup hx hb d_M_init_94 rfl ?_
  refine lv_bipush (v := 13) hx hb d_M_init_95 (by decide) ?_
  refine lv_sipush (v := 5633) hx hb d_M_init_97 (by decide) ?_
  refine va_iast (D := E.1) (x := 5633) hx hb hK hP hD hS 1 0 rfl rfl (vp_in_iff.mpr (by decide)) d_M_init_100 (fun Hn locsn hPn hDn hSn => ?_)
  obtain ⟨g29, eg29⟩ : ∃ g : Nat → Int32, g = upd g27 (Int32.toNatClampNeg 13) 5633 := ⟨_, rfl⟩
  have hq30 : ∀ j, j < 14 → g29 j = zF 0 j := by rw [eg29]; exact tb_s hq28 (by decide) (by decide)
  rw [← eg29] at hPn hDn
  clear eg29 hq28
  clear hP hD hS
  have hP : va_P E.1 classes [(mo, .inr (5, [.null, .null, .null, .int 0, .int 0, .null, .int 0, .null, .int 0, .null, .null, .int 0, .null, .int (bI false), .int 0, .int 0, .int 0, .int 0, .int 0, .int 0, .int 0, .int 0, .long 0, .int 0, .int 0, .int 0, .int (bI false), .int 0, .int 0])), (q1, .inl (E.2.1 0, 47, .inl g29))] Hn := hPn
  have hD : va_D A [(mo, .inr (5, [.null, .null, .null, .int 0, .int 0, .null, .int 0, .null, .int 0, .null, .null, .int 0, .null, .int (bI false), .int 0, .int 0, .int 0, .int 0, .int 0, .int 0, .int 0, .int 0, .long 0, .int 0, .int 0, .int 0, .int (bI false), .int 0, .int 0])), (q1, .inl (E.2.1 0, 47, .inl g29))] := hDn
  have hS := hSn
  clear hPn hDn hSn
  refine lv_dup hx hb d_M_init_101 rfl ?_
  refine lv_bipush (v := 14) hx hb d_M_init_102 (by decide) ?_
  refine lv_sipush (v := 22017) hx hb d_M_init_104 (by decide) ?_
  refine va_iast (D := E.1) (x := 22017) hx hb hK hP hD hS 1 0 rfl rfl (vp_in_iff.mpr (by decide)) d_M_init_107 (fun Hn locsn hPn hDn hSn => ?_)
  obtain ⟨g31, eg31⟩ : ∃ g : Nat → Int32, g = upd g29 (Int32.toNatClampNeg 14) 22017 := ⟨_, rfl⟩
  have hq32 : ∀ j, j < 15 → g31 j = zF 0 j := by rw [eg31]; exact tb_s hq30 (by decide) (by decide)
  rw [← eg31] at hPn hDn
  clear eg31 hq30
  clear hP hD hS
  have hP : va_P E.1 classes [(mo, .inr (5, [.null, .null, .null, .int 0, .int 0, .null, .int 0, .null, .int 0, .null, .null, .int 0, .null, .int (bI false), .int 0, .int 0, .int 0, .int 0, .int 0, .int 0, .int 0, .int 0, .long 0, .int 0, .int 0, .int 0, .int (bI false), .int 0, .int 0])), (q1, .inl (E.2.1 0, 47, .inl g31))] Hn := hPn
  have hD : va_D A [(mo, .inr (5, [.null, .null, .null, .int 0, .int 0, .null, .int 0, .null, .int 0, .null, .null, .int 0, .null, .int (bI false), .int 0, .int 0, .int 0, .int 0, .int 0, .int 0, .int 0, .int 0, .long 0, .int 0, .int 0, .int 0, .int (bI false), .int 0, .int 0])), (q1, .inl (E.2.1 0, 47, .inl g31))] := hDn
  have hS := hSn
  clear hPn hDn hSn
  refine lv_dup hx hb d_M_init_108 rfl ?_
  refine lv_bipush (v := 15) hx hb d_M_init_109 (by decide) ?_
  refine lv_sipush (v := 21505) hx hb d_M_init_111 (by decide) ?_
  refine va_iast (D := E.1) (x := 21505) hx hb hK hP hD hS 1 0 rfl rfl (vp_in_iff.mpr (by decide)) d_M_init_114 (fun Hn locsn hPn hDn hSn => ?_)
  obtain ⟨g33, eg33⟩ : ∃ g : Nat → Int32, g = upd g31 (Int32.toNatClampNeg 15) 21505 := ⟨_, rfl⟩
  have hq34 : ∀ j, j < 16 → g33 j = zF 0 j := by rw [eg33]; exact tb_s hq32 (by decide) (by decide)
  rw [← eg33] at hPn hDn
  clear eg33 hq32
  clear hP hD hS
  have hP : va_P E.1 classes [(mo, .inr (5, [.null, .null, .null, .int 0, .int 0, .null, .int 0, .null, .int 0, .null, .null, .int 0, .null, .int (bI false), .int 0, .int 0, .int 0, .int 0, .int 0, .int 0, .int 0, .int 0, .long 0, .int 0, .int 0, .int 0, .int (bI false), .int 0, .int 0])), (q1, .inl (E.2.1 0, 47, .inl g33))] Hn := hPn
  have hD : va_D A [(mo, .inr (5, [.null, .null, .null, .int 0, .int 0, .null, .int 0, .null, .int 0, .null, .null, .int 0, .null, .int (bI false), .int 0, .int 0, .int 0, .int 0, .int 0, .int 0, .int 0, .int 0, .long 0, .int 0, .int 0, .int 0, .int (bI false), .int 0, .int 0])), (q1, .inl (E.2.1 0, 47, .inl g33))] := hDn
  have hS := hSn
  clear hPn hDn hSn
  refine lv_dup hx hb d_M_init_115 rfl ?_
  refine lv_bipush (v := 16) hx hb d_M_init_116 (by decide) ?_
  refine lv_sipush (v := 20737) hx hb d_M_init_118 (by decide) ?_
  refine va_iast (D := E.1) (x := 20737) hx hb hK hP hD hS 1 0 rfl rfl (vp_in_iff.mpr (by decide)) d_M_init_121 (fun Hn locsn hPn hDn hSn => ?_)
  obtain ⟨g35, eg35⟩ : ∃ g : Nat → Int32, g = upd g33 (Int32.toNatClampNeg 16) 20737 := ⟨_, rfl⟩
  have hq36 : ∀ j, j < 17 → g35 j = zF 0 j := by rw [eg35]; exact tb_s hq34 (by decide) (by decide)
  rw [← eg35] at hPn hDn
  clear eg35 hq34
  clear hP hD hS
  have hP : va_P E.1 classes [(mo, .inr (5, [.null, .null, .null, .int 0, .int 0, .null, .int 0, .null, .int 0, .null, .null, .int 0, .null, .int (bI false), .int 0, .int 0, .int 0, .int 0, .int 0, .int 0, .int 0, .int 0, .long 0, .int 0, .int 0, .int 0, .int (bI false), .int 0, .int 0])), (q1, .inl (E.2.1 0, 47, .inl g35))] Hn := hPn
  have hD : va_D A [(mo, .inr (5, [.null, .null, .null, .int 0, .int 0, .null, .int 0, .null, .int 0, .null, .null, .int 0, .null, .int (bI false), .int 0, .int 0, .int 0, .int 0, .int 0, .int 0, .int 0, .int 0, .long 0, .int 0, .int 0, .int 0, .int (bI false), .int 0, .int 0])), (q1, .inl (E.2.1 0, 47, .inl g35))] := hDn
  have hS := hSn
  clear hPn hDn hSn
  refine lv_dup hx hb d_M_init_122 rfl ?_
  refine lv_bipush (v := 17) hx hb d_M_init_123 (by decide) ?_
  refine lv_sipush (v := 18433) hx hb d_M_init_125 (by decide) ?_
  refine va_iast (D := E.1) (x := 18433) hx hb hK hP hD hS 1 0 rfl rfl (vp_in_iff.mpr (by decide)) d_M_init_128 (fun Hn locsn hPn hDn hSn => ?_)
  obtain ⟨g37, eg37⟩ : ∃ g : Nat → Int32, g = upd g35 (Int32.toNatClampNeg 17) 18433 := ⟨_, rfl⟩
  have hq38 : ∀ j, j < 18 → g37 j = zF 0 j := by rw [eg37]; exact tb_s hq36 (by decide) (by decide)
  rw [← eg37] at hPn hDn
  clear eg37 hq36
  clear hP hD hS
  have hP : va_P E.1 classes [(mo, .inr (5, [.null, .null, .null, .int 0, .int 0, .null, .int 0, .null, .int 0, .null, .null, .int 0, .null, .int (bI false), .int 0, .int 0, .int 0, .int 0, .int 0, .int 0, .int 0, .int 0, .long 0, .int 0, .int 0, .int 0, .int (bI false), .int 0, .int 0])), (q1, .inl (E.2.1 0, 47, .inl g37))] Hn := hPn
  have hD : va_D A [(mo, .inr (5, [.null, .null, .null, .int 0, .int 0, .null, .int 0, .null, .int 0, .null, .null, .int 0, .null, .int (bI false), .int 0, .int 0, .int 0, .int 0, .int 0, .int 0, .int 0, .int 0, .long 0, .int 0, .int 0, .int 0, .int (bI false), .int 0, .int 0])), (q1, .inl (E.2.1 0, 47, .inl g37))] := hDn
  have hS := hSn
  clear hPn hDn hSn
  refine lv_dup hx hb d_M_init_129 rfl ?_
  refine lv_bipush (v := 18) hx hb d_M_init_130 (by decide) ?_
  refine lv_sipush (v := 14337) hx hb d_M_init_132 (by decide) ?_
  refine va_iast (D := E.1) (x := 14337) hx hb hK hP hD hS 1 0 rfl rfl (vp_in_iff.mpr (by decide)) d_M_init_135 (fun Hn locsn hPn hDn hSn => ?_)
  obtain ⟨g39, eg39⟩ : ∃ g : Nat → Int32, g = upd g37 (Int32.toNatClampNeg 18) 14337 := ⟨_, rfl⟩
  have hq40 : ∀ j, j < 19 → g39 j = zF 0 j := by rw [eg39]; exact tb_s hq38 (by decide) (by decide)
  rw [← eg39] at hPn hDn
  clear eg39 hq38
  clear hP hD hS
  have hP : va_P E.1 classes [(mo, .inr (5, [.null, .null, .null, .int 0, .int 0, .null, .int 0, .null, .int 0, .null, .null, .int 0, .null, .int (bI false), .int 0, .int 0, .int 0, .int 0, .int 0, .int 0, .int 0, .int 0, .long 0, .int 0, .int 0, .int 0, .int (bI false), .int 0, .int 0])), (q1, .inl (E.2.1 0, 47, .inl g39))] Hn := hPn
  have hD : va_D A [(mo, .inr (5, [.null, .null, .null, .int 0, .int 0, .null, .int 0, .null, .int 0, .null, .null, .int 0, .null, .int (bI false), .int 0, .int 0, .int 0, .int 0, .int 0, .int 0, .int 0, .int 0, .long 0, .int 0, .int 0, .int 0, .int (bI false), .int 0, .int 0])), (q1, .inl (E.2.1 0, 47, .inl g39))] := hDn
  have hS := hSn
  clear hPn hDn hSn
  refine lv_dup hx hb d_M_init_136 rfl ?_
  refine lv_bipush (v := 19) hx hb d_M_init_137 (by decide) ?_
  refine lv_sipush (v := 13313) hx hb d_M_init_139 (by decide) ?_
  refine va_iast (D := E.1) (x := 13313) hx hb hK hP hD hS 1 0 rfl rfl (vp_in_iff.mpr (by decide)) d_M_init_142 (fun Hn locsn hPn hDn hSn => ?_)
  obtain ⟨g41, eg41⟩ : ∃ g : Nat → Int32, g = upd g39 (Int32.toNatClampNeg 19) 13313 := ⟨_, rfl⟩
  have hq42 : ∀ j, j < 20 → g41 j = zF 0 j := by rw [eg41]; exact tb_s hq40 (by decide) (by decide)
  rw [← eg41] at hPn hDn
  clear eg41 hq40
  clear hP hD hS
  have hP : va_P E.1 classes [(mo, .inr (5, [.null, .null, .null, .int 0, .int 0, .null, .int 0, .null, .int 0, .null, .null, .int 0, .null, .int (bI false), .int 0, .int 0, .int 0, .int 0, .int 0, .int 0, .int 0, .int 0, .long 0, .int 0, .int 0, .int 0, .int (bI false), .int 0, .int 0])), (q1, .inl (E.2.1 0, 47, .inl g41))] Hn := hPn
  have hD : va_D A [(mo, .inr (5, [.null, .null, .null, .int 0, .int 0, .null, .int 0, .null, .int 0, .null, .null, .int 0, .null, .int (bI false), .int 0, .int 0, .int 0, .int 0, .int 0, .int 0, .int 0, .int 0, .long 0, .int 0, .int 0, .int 0, .int (bI false), .int 0, .int 0])), (q1, .inl (E.2.1 0, 47, .inl g41))] := hDn
  have hS := hSn
  clear hPn hDn hSn
  refine lv_dup hx hb d_M_init_143 rfl ?_
  refine lv_bipush (v := 20) hx hb d_M_init_144 (by decide) ?_
  refine lv_sipush (v := 12289) hx hb d_M_init_146 (by decide) ?_
  refine va_iast (D := E.1) (x := 12289) hx hb hK hP hD hS 1 0 rfl rfl (vp_in_iff.mpr (by decide)) d_M_init_149 (fun Hn locsn hPn hDn hSn => ?_)
  obtain ⟨g43, eg43⟩ : ∃ g : Nat → Int32, g = upd g41 (Int32.toNatClampNeg 20) 12289 := ⟨_, rfl⟩
  have hq44 : ∀ j, j < 21 → g43 j = zF 0 j := by rw [eg43]; exact tb_s hq42 (by decide) (by decide)
  rw [← eg43] at hPn hDn
  clear eg43 hq42
  clear hP hD hS
  have hP : va_P E.1 classes [(mo, .inr (5, [.null, .null, .null, .int 0, .int 0, .null, .int 0, .null, .int 0, .null, .null, .int 0, .null, .int (bI false), .int 0, .int 0, .int 0, .int 0, .int 0, .int 0, .int 0, .int 0, .long 0, .int 0, .int 0, .int 0, .int (bI false), .int 0, .int 0])), (q1, .inl (E.2.1 0, 47, .inl g43))] Hn := hPn
  have hD : va_D A [(mo, .inr (5, [.null, .null, .null, .int 0, .int 0, .null, .int 0, .null, .int 0, .null, .null, .int 0, .null, .int (bI false), .int 0, .int 0, .int 0, .int 0, .int 0, .int 0, .int 0, .int 0, .long 0, .int 0, .int 0, .int 0, .int (bI false), .int 0, .int 0])), (q1, .inl (E.2.1 0, 47, .inl g43))] := hDn
  have hS := hSn
  clear hPn hDn hSn
  refine lv_dup hx hb d_M_init_150 rfl ?_
  refine lv_bipush (v := 21) hx hb d_M_init_151 (by decide) ?_
  refine lv_sipush (v := 10241) hx hb d_M_init_153 (by decide) ?_
  refine va_iast (D := E.1) (x := 10241) hx hb hK hP hD hS 1 0 rfl rfl (vp_in_iff.mpr (by decide)) d_M_init_156 (fun Hn locsn hPn hDn hSn => ?_)
  obtain ⟨g45, eg45⟩ : ∃ g : Nat → Int32, g = upd g43 (Int32.toNatClampNeg 21) 10241 := ⟨_, rfl⟩
  have hq46 : ∀ j, j < 22 → g45 j = zF 0 j := by rw [eg45]; exact tb_s hq44 (by decide) (by decide)
  rw [← eg45] at hPn hDn
  clear eg45 hq44
  clear hP hD hS
  have hP : va_P E.1 classes [(mo, .inr (5, [.null, .null, .null, .int 0, .int 0, .null, .int 0, .null, .int 0, .null, .null, .int 0, .null, .int (bI false), .int 0, .int 0, .int 0, .int 0, .int 0, .int 0, .int 0, .int 0, .long 0, .int 0, .int 0, .int 0, .int (bI false), .int 0, .int 0])), (q1, .inl (E.2.1 0, 47, .inl g45))] Hn := hPn
  have hD : va_D A [(mo, .inr (5, [.null, .null, .null, .int 0, .int 0, .null, .int 0, .null, .int 0, .null, .null, .int 0, .null, .int (bI false), .int 0, .int 0, .int 0, .int 0, .int 0, .int 0, .int 0, .int 0, .long 0, .int 0, .int 0, .int 0, .int (bI false), .int 0, .int 0])), (q1, .inl (E.2.1 0, 47, .inl g45))] := hDn
  have hS := hSn
  clear hPn hDn hSn
  refine lv_dup hx hb d_M_init_157 rfl ?_
  refine lv_bipush (v := 22) hx hb d_M_init_158 (by decide) ?_
  refine lv_sipush (v := 9217) hx hb d_M_init_160 (by decide) ?_
  refine va_iast (D := E.1) (x := 9217) hx hb hK hP hD hS 1 0 rfl rfl (vp_in_iff.mpr (by decide)) d_M_init_163 (fun Hn locsn hPn hDn hSn => ?_)
  obtain ⟨g47, eg47⟩ : ∃ g : Nat → Int32, g = upd g45 (Int32.toNatClampNeg 22) 9217 := ⟨_, rfl⟩
  have hq48 : ∀ j, j < 23 → g47 j = zF 0 j := by rw [eg47]; exact tb_s hq46 (by decide) (by decide)
  rw [← eg47] at hPn hDn
  clear eg47 hq46
  clear hP hD hS
  have hP : va_P E.1 classes [(mo, .inr (5, [.null, .null, .null, .int 0, .int 0, .null, .int 0, .null, .int 0, .null, .null, .int 0, .null, .int (bI false), .int 0, .int 0, .int 0, .int 0, .int 0, .int 0, .int 0, .int 0, .long 0, .int 0, .int 0, .int 0, .int (bI false), .int 0, .int 0])), (q1, .inl (E.2.1 0, 47, .inl g47))] Hn := hPn
  have hD : va_D A [(mo, .inr (5, [.null, .null, .null, .int 0, .int 0, .null, .int 0, .null, .int 0, .null, .null, .int 0, .null, .int (bI false), .int 0, .int 0, .int 0, .int 0, .int 0, .int 0, .int 0, .int 0, .long 0, .int 0, .int 0, .int 0, .int (bI false), .int 0, .int 0])), (q1, .inl (E.2.1 0, 47, .inl g47))] := hDn
  have hS := hSn
  clear hPn hDn hSn
  refine lv_dup hx hb d_M_init_164 rfl ?_
  refine lv_bipush (v := 23) hx hb d_M_init_165 (by decide) ?_
  refine lv_sipush (v := 8705) hx hb d_M_init_167 (by decide) ?_
  refine va_iast (D := E.1) (x := 8705) hx hb hK hP hD hS 1 0 rfl rfl (vp_in_iff.mpr (by decide)) d_M_init_170 (fun Hn locsn hPn hDn hSn => ?_)
  obtain ⟨g49, eg49⟩ : ∃ g : Nat → Int32, g = upd g47 (Int32.toNatClampNeg 23) 8705 := ⟨_, rfl⟩
  have hq50 : ∀ j, j < 24 → g49 j = zF 0 j := by rw [eg49]; exact tb_s hq48 (by decide) (by decide)
  rw [← eg49] at hPn hDn
  clear eg49 hq48
  clear hP hD hS
  have hP : va_P E.1 classes [(mo, .inr (5, [.null, .null, .null, .int 0, .int 0, .null, .int 0, .null, .int 0, .null, .null, .int 0, .null, .int (bI false), .int 0, .int 0, .int 0, .int 0, .int 0, .int 0, .int 0, .int 0, .long 0, .int 0, .int 0, .int 0, .int (bI false), .int 0, .int 0])), (q1, .inl (E.2.1 0, 47, .inl g49))] Hn := hPn
  have hD : va_D A [(mo, .inr (5, [.null, .null, .null, .int 0, .int 0, .null, .int 0, .null, .int 0, .null, .null, .int 0, .null, .int (bI false), .int 0, .int 0, .int 0, .int 0, .int 0, .int 0, .int 0, .int 0, .long 0, .int 0, .int 0, .int 0, .int (bI false), .int 0, .int 0])), (q1, .inl (E.2.1 0, 47, .inl g49))] := hDn
  have hS := hSn
  clear hPn hDn hSn
  refine lv_dup hx hb d_M_init_171 rfl ?_
  refine lv_bipush (v := 24) hx hb d_M_init_172 (by decide) ?_
  refine lv_sipush (v := 7169) hx hb d_M_init_174 (by decide) ?_
  refine va_iast (D := E.1) (x := 7169) hx hb hK hP hD hS 1 0 rfl rfl (vp_in_iff.mpr (by decide)) d_M_init_177 (fun Hn locsn hPn hDn hSn => ?_)
  obtain ⟨g51, eg51⟩ : ∃ g : Nat → Int32, g = upd g49 (Int32.toNatClampNeg 24) 7169 := ⟨_, rfl⟩
  have hq52 : ∀ j, j < 25 → g51 j = zF 0 j := by rw [eg51]; exact tb_s hq50 (by decide) (by decide)
  rw [← eg51] at hPn hDn
  clear eg51 hq50
  clear hP hD hS
  have hP : va_P E.1 classes [(mo, .inr (5, [.null, .null, .null, .int 0, .int 0, .null, .int 0, .null, .int 0, .null, .null, .int 0, .null, .int (bI false), .int 0, .int 0, .int 0, .int 0, .int 0, .int 0, .int 0, .int 0, .long 0, .int 0, .int 0, .int 0, .int (bI false), .int 0, .int 0])), (q1, .inl (E.2.1 0, 47, .inl g51))] Hn := hPn
  have hD : va_D A [(mo, .inr (5, [.null, .null, .null, .int 0, .int 0, .null, .int 0, .null, .int 0, .null, .null, .int 0, .null, .int (bI false), .int 0, .int 0, .int 0, .int 0, .int 0, .int 0, .int 0, .int 0, .long 0, .int 0, .int 0, .int 0, .int (bI false), .int 0, .int 0])), (q1, .inl (E.2.1 0, 47, .inl g51))] := hDn
  have hS := hSn
  clear hPn hDn hSn
  refine lv_dup hx hb d_M_init_178 rfl ?_
  refine lv_bipush (v := 25) hx hb d_M_init_179 (by decide) ?_
  refine lv_sipush (v := 6145) hx hb d_M_init_181 (by decide) ?_
  refine va_iast (D := E.1) (x := 6145) hx hb hK hP hD hS 1 0 rfl rfl (vp_in_iff.mpr (by decide)) d_M_init_184 (fun Hn locsn hPn hDn hSn => ?_)
  obtain ⟨g53, eg53⟩ : ∃ g : Nat → Int32, g = upd g51 (Int32.toNatClampNeg 25) 6145 := ⟨_, rfl⟩
  have hq54 : ∀ j, j < 26 → g53 j = zF 0 j := by rw [eg53]; exact tb_s hq52 (by decide) (by decide)
  rw [← eg53] at hPn hDn
  clear eg53 hq52
  clear hP hD hS
  have hP : va_P E.1 classes [(mo, .inr (5, [.null, .null, .null, .int 0, .int 0, .null, .int 0, .null, .int 0, .null, .null, .int 0, .null, .int (bI false), .int 0, .int 0, .int 0, .int 0, .int 0, .int 0, .int 0, .int 0, .long 0, .int 0, .int 0, .int 0, .int (bI false), .int 0, .int 0])), (q1, .inl (E.2.1 0, 47, .inl g53))] Hn := hPn
  have hD : va_D A [(mo, .inr (5, [.null, .null, .null, .int 0, .int 0, .null, .int 0, .null, .int 0, .null, .null, .int 0, .null, .int (bI false), .int 0, .int 0, .int 0, .int 0, .int 0, .int 0, .int 0, .int 0, .long 0, .int 0, .int 0, .int 0, .int (bI false), .int 0, .int 0])), (q1, .inl (E.2.1 0, 47, .inl g53))] := hDn
  have hS := hSn
  clear hPn hDn hSn
  refine lv_dup hx hb d_M_init_185 rfl ?_
  refine lv_bipush (v := 26) hx hb d_M_init_186 (by decide) ?_
  refine lv_sipush (v := 5633) hx hb d_M_init_188 (by decide) ?_
  refine va_iast (D := E.1) (x := 5633) hx hb hK hP hD hS 1 0 rfl rfl (vp_in_iff.mpr (by decide)) d_M_init_191 (fun Hn locsn hPn hDn hSn => ?_)
  obtain ⟨g55, eg55⟩ : ∃ g : Nat → Int32, g = upd g53 (Int32.toNatClampNeg 26) 5633 := ⟨_, rfl⟩
  have hq56 : ∀ j, j < 27 → g55 j = zF 0 j := by rw [eg55]; exact tb_s hq54 (by decide) (by decide)
  rw [← eg55] at hPn hDn
  clear eg55 hq54
  clear hP hD hS
  have hP : va_P E.1 classes [(mo, .inr (5, [.null, .null, .null, .int 0, .int 0, .null, .int 0, .null, .int 0, .null, .null, .int 0, .null, .int (bI false), .int 0, .int 0, .int 0, .int 0, .int 0, .int 0, .int 0, .int 0, .long 0, .int 0, .int 0, .int 0, .int (bI false), .int 0, .int 0])), (q1, .inl (E.2.1 0, 47, .inl g55))] Hn := hPn
  have hD : va_D A [(mo, .inr (5, [.null, .null, .null, .int 0, .int 0, .null, .int 0, .null, .int 0, .null, .null, .int 0, .null, .int (bI false), .int 0, .int 0, .int 0, .int 0, .int 0, .int 0, .int 0, .int 0, .long 0, .int 0, .int 0, .int 0, .int (bI false), .int 0, .int 0])), (q1, .inl (E.2.1 0, 47, .inl g55))] := hDn
  have hS := hSn
  clear hPn hDn hSn
  refine lv_dup hx hb d_M_init_192 rfl ?_
  refine lv_bipush (v := 27) hx hb d_M_init_193 (by decide) ?_
  refine lv_sipush (v := 5121) hx hb d_M_init_195 (by decide) ?_
  refine va_iast (D := E.1) (x := 5121) hx hb hK hP hD hS 1 0 rfl rfl (vp_in_iff.mpr (by decide)) d_M_init_198 (fun Hn locsn hPn hDn hSn => ?_)
  obtain ⟨g57, eg57⟩ : ∃ g : Nat → Int32, g = upd g55 (Int32.toNatClampNeg 27) 5121 := ⟨_, rfl⟩
  have hq58 : ∀ j, j < 28 → g57 j = zF 0 j := by rw [eg57]; exact tb_s hq56 (by decide) (by decide)
  rw [← eg57] at hPn hDn
  clear eg57 hq56
  clear hP hD hS
  have hP : va_P E.1 classes [(mo, .inr (5, [.null, .null, .null, .int 0, .int 0, .null, .int 0, .null, .int 0, .null, .null, .int 0, .null, .int (bI false), .int 0, .int 0, .int 0, .int 0, .int 0, .int 0, .int 0, .int 0, .long 0, .int 0, .int 0, .int 0, .int (bI false), .int 0, .int 0])), (q1, .inl (E.2.1 0, 47, .inl g57))] Hn := hPn
  have hD : va_D A [(mo, .inr (5, [.null, .null, .null, .int 0, .int 0, .null, .int 0, .null, .int 0, .null, .null, .int 0, .null, .int (bI false), .int 0, .int 0, .int 0, .int 0, .int 0, .int 0, .int 0, .int 0, .long 0, .int 0, .int 0, .int 0, .int (bI false), .int 0, .int 0])), (q1, .inl (E.2.1 0, 47, .inl g57))] := hDn
  have hS := hSn
  clear hPn hDn hSn
  refine lv_dup hx hb d_M_init_199 rfl ?_
  refine lv_bipush (v := 28) hx hb d_M_init_200 (by decide) ?_
  refine lv_sipush (v := 4609) hx hb d_M_init_202 (by decide) ?_
  refine va_iast (D := E.1) (x := 4609) hx hb hK hP hD hS 1 0 rfl rfl (vp_in_iff.mpr (by decide)) d_M_init_205 (fun Hn locsn hPn hDn hSn => ?_)
  obtain ⟨g59, eg59⟩ : ∃ g : Nat → Int32, g = upd g57 (Int32.toNatClampNeg 28) 4609 := ⟨_, rfl⟩
  have hq60 : ∀ j, j < 29 → g59 j = zF 0 j := by rw [eg59]; exact tb_s hq58 (by decide) (by decide)
  rw [← eg59] at hPn hDn
  clear eg59 hq58
  clear hP hD hS
  have hP : va_P E.1 classes [(mo, .inr (5, [.null, .null, .null, .int 0, .int 0, .null, .int 0, .null, .int 0, .null, .null, .int 0, .null, .int (bI false), .int 0, .int 0, .int 0, .int 0, .int 0, .int 0, .int 0, .int 0, .long 0, .int 0, .int 0, .int 0, .int (bI false), .int 0, .int 0])), (q1, .inl (E.2.1 0, 47, .inl g59))] Hn := hPn
  have hD : va_D A [(mo, .inr (5, [.null, .null, .null, .int 0, .int 0, .null, .int 0, .null, .int 0, .null, .null, .int 0, .null, .int (bI false), .int 0, .int 0, .int 0, .int 0, .int 0, .int 0, .int 0, .int 0, .long 0, .int 0, .int 0, .int 0, .int (bI false), .int 0, .int 0])), (q1, .inl (E.2.1 0, 47, .inl g59))] := hDn
  have hS := hSn
  clear hPn hDn hSn
  refine lv_dup hx hb d_M_init_206 rfl ?_
  refine lv_bipush (v := 29) hx hb d_M_init_207 (by decide) ?_
  refine lv_sipush (v := 4353) hx hb d_M_init_209 (by decide) ?_
  refine va_iast (D := E.1) (x := 4353) hx hb hK hP hD hS 1 0 rfl rfl (vp_in_iff.mpr (by decide)) d_M_init_212 (fun Hn locsn hPn hDn hSn => ?_)
  obtain ⟨g61, eg61⟩ : ∃ g : Nat → Int32, g = upd g59 (Int32.toNatClampNeg 29) 4353 := ⟨_, rfl⟩
  have hq62 : ∀ j, j < 30 → g61 j = zF 0 j := by rw [eg61]; exact tb_s hq60 (by decide) (by decide)
  rw [← eg61] at hPn hDn
  clear eg61 hq60
  clear hP hD hS
  have hP : va_P E.1 classes [(mo, .inr (5, [.null, .null, .null, .int 0, .int 0, .null, .int 0, .null, .int 0, .null, .null, .int 0, .null, .int (bI false), .int 0, .int 0, .int 0, .int 0, .int 0, .int 0, .int 0, .int 0, .long 0, .int 0, .int 0, .int 0, .int (bI false), .int 0, .int 0])), (q1, .inl (E.2.1 0, 47, .inl g61))] Hn := hPn
  have hD : va_D A [(mo, .inr (5, [.null, .null, .null, .int 0, .int 0, .null, .int 0, .null, .int 0, .null, .null, .int 0, .null, .int (bI false), .int 0, .int 0, .int 0, .int 0, .int 0, .int 0, .int 0, .int 0, .long 0, .int 0, .int 0, .int 0, .int (bI false), .int 0, .int 0])), (q1, .inl (E.2.1 0, 47, .inl g61))] := hDn
  have hS := hSn
  clear hPn hDn hSn
  refine lv_dup hx hb d_M_init_213 rfl ?_
  refine lv_bipush (v := 30) hx hb d_M_init_214 (by decide) ?_
  refine lv_sipush (v := 2753) hx hb d_M_init_216 (by decide) ?_
  refine va_iast (D := E.1) (x := 2753) hx hb hK hP hD hS 1 0 rfl rfl (vp_in_iff.mpr (by decide)) d_M_init_219 (fun Hn locsn hPn hDn hSn => ?_)
  obtain ⟨g63, eg63⟩ : ∃ g : Nat → Int32, g = upd g61 (Int32.toNatClampNeg 30) 2753 := ⟨_, rfl⟩
  have hq64 : ∀ j, j < 31 → g63 j = zF 0 j := by rw [eg63]; exact tb_s hq62 (by decide) (by decide)
  rw [← eg63] at hPn hDn
  clear eg63 hq62
  clear hP hD hS
  have hP : va_P E.1 classes [(mo, .inr (5, [.null, .null, .null, .int 0, .int 0, .null, .int 0, .null, .int 0, .null, .null, .int 0, .null, .int (bI false), .int 0, .int 0, .int 0, .int 0, .int 0, .int 0, .int 0, .int 0, .long 0, .int 0, .int 0, .int 0, .int (bI false), .int 0, .int 0])), (q1, .inl (E.2.1 0, 47, .inl g63))] Hn := hPn
  have hD : va_D A [(mo, .inr (5, [.null, .null, .null, .int 0, .int 0, .null, .int 0, .null, .int 0, .null, .null, .int 0, .null, .int (bI false), .int 0, .int 0, .int 0, .int 0, .int 0, .int 0, .int 0, .int 0, .long 0, .int 0, .int 0, .int 0, .int (bI false), .int 0, .int 0])), (q1, .inl (E.2.1 0, 47, .inl g63))] := hDn
  have hS := hSn
  clear hPn hDn hSn
  refine lv_dup hx hb d_M_init_220 rfl ?_
  refine lv_bipush (v := 31) hx hb d_M_init_221 (by decide) ?_
  refine lv_sipush (v := 2497) hx hb d_M_init_223 (by decide) ?_
  refine va_iast (D := E.1) (x := 2497) hx hb hK hP hD hS 1 0 rfl rfl (vp_in_iff.mpr (by decide)) d_M_init_226 (fun Hn locsn hPn hDn hSn => ?_)
  obtain ⟨g65, eg65⟩ : ∃ g : Nat → Int32, g = upd g63 (Int32.toNatClampNeg 31) 2497 := ⟨_, rfl⟩
  have hq66 : ∀ j, j < 32 → g65 j = zF 0 j := by rw [eg65]; exact tb_s hq64 (by decide) (by decide)
  rw [← eg65] at hPn hDn
  clear eg65 hq64
  clear hP hD hS
  have hP : va_P E.1 classes [(mo, .inr (5, [.null, .null, .null, .int 0, .int 0, .null, .int 0, .null, .int 0, .null, .null, .int 0, .null, .int (bI false), .int 0, .int 0, .int 0, .int 0, .int 0, .int 0, .int 0, .int 0, .long 0, .int 0, .int 0, .int 0, .int (bI false), .int 0, .int 0])), (q1, .inl (E.2.1 0, 47, .inl g65))] Hn := hPn
  have hD : va_D A [(mo, .inr (5, [.null, .null, .null, .int 0, .int 0, .null, .int 0, .null, .int 0, .null, .null, .int 0, .null, .int (bI false), .int 0, .int 0, .int 0, .int 0, .int 0, .int 0, .int 0, .int 0, .long 0, .int 0, .int 0, .int 0, .int (bI false), .int 0, .int 0])), (q1, .inl (E.2.1 0, 47, .inl g65))] := hDn
  have hS := hSn
  clear hPn hDn hSn
  refine lv_dup hx hb d_M_init_227 rfl ?_
  refine lv_bipush (v := 32) hx hb d_M_init_228 (by decide) ?_
  refine lv_sipush (v := 2209) hx hb d_M_init_230 (by decide) ?_
  refine va_iast (D := E.1) (x := 2209) hx hb hK hP hD hS 1 0 rfl rfl (vp_in_iff.mpr (by decide)) d_M_init_233 (fun Hn locsn hPn hDn hSn => ?_)
  obtain ⟨g67, eg67⟩ : ∃ g : Nat → Int32, g = upd g65 (Int32.toNatClampNeg 32) 2209 := ⟨_, rfl⟩
  have hq68 : ∀ j, j < 33 → g67 j = zF 0 j := by rw [eg67]; exact tb_s hq66 (by decide) (by decide)
  rw [← eg67] at hPn hDn
  clear eg67 hq66
  clear hP hD hS
  have hP : va_P E.1 classes [(mo, .inr (5, [.null, .null, .null, .int 0, .int 0, .null, .int 0, .null, .int 0, .null, .null, .int 0, .null, .int (bI false), .int 0, .int 0, .int 0, .int 0, .int 0, .int 0, .int 0, .int 0, .long 0, .int 0, .int 0, .int 0, .int (bI false), .int 0, .int 0])), (q1, .inl (E.2.1 0, 47, .inl g67))] Hn := hPn
  have hD : va_D A [(mo, .inr (5, [.null, .null, .null, .int 0, .int 0, .null, .int 0, .null, .int 0, .null, .null, .int 0, .null, .int (bI false), .int 0, .int 0, .int 0, .int 0, .int 0, .int 0, .int 0, .int 0, .long 0, .int 0, .int 0, .int 0, .int (bI false), .int 0, .int 0])), (q1, .inl (E.2.1 0, 47, .inl g67))] := hDn
  have hS := hSn
  clear hPn hDn hSn
  refine lv_dup hx hb d_M_init_234 rfl ?_
  refine lv_bipush (v := 33) hx hb d_M_init_235 (by decide) ?_
  refine lv_sipush (v := 1313) hx hb d_M_init_237 (by decide) ?_
  refine va_iast (D := E.1) (x := 1313) hx hb hK hP hD hS 1 0 rfl rfl (vp_in_iff.mpr (by decide)) d_M_init_240 (fun Hn locsn hPn hDn hSn => ?_)
  obtain ⟨g69, eg69⟩ : ∃ g : Nat → Int32, g = upd g67 (Int32.toNatClampNeg 33) 1313 := ⟨_, rfl⟩
  have hq70 : ∀ j, j < 34 → g69 j = zF 0 j := by rw [eg69]; exact tb_s hq68 (by decide) (by decide)
  rw [← eg69] at hPn hDn
  clear eg69 hq68
  clear hP hD hS
  have hP : va_P E.1 classes [(mo, .inr (5, [.null, .null, .null, .int 0, .int 0, .null, .int 0, .null, .int 0, .null, .null, .int 0, .null, .int (bI false), .int 0, .int 0, .int 0, .int 0, .int 0, .int 0, .int 0, .int 0, .long 0, .int 0, .int 0, .int 0, .int (bI false), .int 0, .int 0])), (q1, .inl (E.2.1 0, 47, .inl g69))] Hn := hPn
  have hD : va_D A [(mo, .inr (5, [.null, .null, .null, .int 0, .int 0, .null, .int 0, .null, .int 0, .null, .null, .int 0, .null, .int (bI false), .int 0, .int 0, .int 0, .int 0, .int 0, .int 0, .int 0, .int 0, .long 0, .int 0, .int 0, .int 0, .int (bI false), .int 0, .int 0])), (q1, .inl (E.2.1 0, 47, .inl g69))] := hDn
  have hS := hSn
  clear hPn hDn hSn
  refine lv_dup hx hb d_M_init_241 rfl ?_
  refine lv_bipush (v := 34) hx hb d_M_init_242 (by decide) ?_
  refine lv_sipush (v := 1089) hx hb d_M_init_244 (by decide) ?_
  refine va_iast (D := E.1) (x := 1089) hx hb hK hP hD hS 1 0 rfl rfl (vp_in_iff.mpr (by decide)) d_M_init_247 (fun Hn locsn hPn hDn hSn => ?_)
  obtain ⟨g71, eg71⟩ : ∃ g : Nat → Int32, g = upd g69 (Int32.toNatClampNeg 34) 1089 := ⟨_, rfl⟩
  have hq72 : ∀ j, j < 35 → g71 j = zF 0 j := by rw [eg71]; exact tb_s hq70 (by decide) (by decide)
  rw [← eg71] at hPn hDn
  clear eg71 hq70
  clear hP hD hS
  have hP : va_P E.1 classes [(mo, .inr (5, [.null, .null, .null, .int 0, .int 0, .null, .int 0, .null, .int 0, .null, .null, .int 0, .null, .int (bI false), .int 0, .int 0, .int 0, .int 0, .int 0, .int 0, .int 0, .int 0, .long 0, .int 0, .int 0, .int 0, .int (bI false), .int 0, .int 0])), (q1, .inl (E.2.1 0, 47, .inl g71))] Hn := hPn
  have hD : va_D A [(mo, .inr (5, [.null, .null, .null, .int 0, .int 0, .null, .int 0, .null, .int 0, .null, .null, .int 0, .null, .int (bI false), .int 0, .int 0, .int 0, .int 0, .int 0, .int 0, .int 0, .int 0, .long 0, .int 0, .int 0, .int 0, .int (bI false), .int 0, .int 0])), (q1, .inl (E.2.1 0, 47, .inl g71))] := hDn
  have hS := hSn
  clear hPn hDn hSn
  refine lv_dup hx hb d_M_init_248 rfl ?_
  refine lv_bipush (v := 35) hx hb d_M_init_249 (by decide) ?_
  refine lv_sipush (v := 673) hx hb d_M_init_251 (by decide) ?_
  refine va_iast (D := E.1) (x := 673) hx hb hK hP hD hS 1 0 rfl rfl (vp_in_iff.mpr (by decide)) d_M_init_254 (fun Hn locsn hPn hDn hSn => ?_)
  obtain ⟨g73, eg73⟩ : ∃ g : Nat → Int32, g = upd g71 (Int32.toNatClampNeg 35) 673 := ⟨_, rfl⟩
  have hq74 : ∀ j, j < 36 → g73 j = zF 0 j := by rw [eg73]; exact tb_s hq72 (by decide) (by decide)
  rw [← eg73] at hPn hDn
  clear eg73 hq72
  clear hP hD hS
  have hP : va_P E.1 classes [(mo, .inr (5, [.null, .null, .null, .int 0, .int 0, .null, .int 0, .null, .int 0, .null, .null, .int 0, .null, .int (bI false), .int 0, .int 0, .int 0, .int 0, .int 0, .int 0, .int 0, .int 0, .long 0, .int 0, .int 0, .int 0, .int (bI false), .int 0, .int 0])), (q1, .inl (E.2.1 0, 47, .inl g73))] Hn := hPn
  have hD : va_D A [(mo, .inr (5, [.null, .null, .null, .int 0, .int 0, .null, .int 0, .null, .int 0, .null, .null, .int 0, .null, .int (bI false), .int 0, .int 0, .int 0, .int 0, .int 0, .int 0, .int 0, .int 0, .long 0, .int 0, .int 0, .int 0, .int (bI false), .int 0, .int 0])), (q1, .inl (E.2.1 0, 47, .inl g73))] := hDn
  have hS := hSn
  clear hPn hDn hSn
  refine lv_dup hx hb d_M_init_255 rfl ?_
  refine lv_bipush (v := 36) hx hb d_M_init_256 (by decide) ?_
  refine lv_sipush (v := 545) hx hb d_M_init_258 (by decide) ?_
  refine va_iast (D := E.1) (x := 545) hx hb hK hP hD hS 1 0 rfl rfl (vp_in_iff.mpr (by decide)) d_M_init_261 (fun Hn locsn hPn hDn hSn => ?_)
  obtain ⟨g75, eg75⟩ : ∃ g : Nat → Int32, g = upd g73 (Int32.toNatClampNeg 36) 545 := ⟨_, rfl⟩
  have hq76 : ∀ j, j < 37 → g75 j = zF 0 j := by rw [eg75]; exact tb_s hq74 (by decide) (by decide)
  rw [← eg75] at hPn hDn
  clear eg75 hq74
  clear hP hD hS
  have hP : va_P E.1 classes [(mo, .inr (5, [.null, .null, .null, .int 0, .int 0, .null, .int 0, .null, .int 0, .null, .null, .int 0, .null, .int (bI false), .int 0, .int 0, .int 0, .int 0, .int 0, .int 0, .int 0, .int 0, .long 0, .int 0, .int 0, .int 0, .int (bI false), .int 0, .int 0])), (q1, .inl (E.2.1 0, 47, .inl g75))] Hn := hPn
  have hD : va_D A [(mo, .inr (5, [.null, .null, .null, .int 0, .int 0, .null, .int 0, .null, .int 0, .null, .null, .int 0, .null, .int (bI false), .int 0, .int 0, .int 0, .int 0, .int 0, .int 0, .int 0, .int 0, .long 0, .int 0, .int 0, .int 0, .int (bI false), .int 0, .int 0])), (q1, .inl (E.2.1 0, 47, .inl g75))] := hDn
  have hS := hSn
  clear hPn hDn hSn
  refine lv_dup hx hb d_M_init_262 rfl ?_
  refine lv_bipush (v := 37) hx hb d_M_init_263 (by decide) ?_
  refine lv_sipush (v := 321) hx hb d_M_init_265 (by decide) ?_
  refine va_iast (D := E.1) (x := 321) hx hb hK hP hD hS 1 0 rfl rfl (vp_in_iff.mpr (by decide)) d_M_init_268 (fun Hn locsn hPn hDn hSn => ?_)
  obtain ⟨g77, eg77⟩ : ∃ g : Nat → Int32, g = upd g75 (Int32.toNatClampNeg 37) 321 := ⟨_, rfl⟩
  have hq78 : ∀ j, j < 38 → g77 j = zF 0 j := by rw [eg77]; exact tb_s hq76 (by decide) (by decide)
  rw [← eg77] at hPn hDn
  clear eg77 hq76
  clear hP hD hS
  have hP : va_P E.1 classes [(mo, .inr (5, [.null, .null, .null, .int 0, .int 0, .null, .int 0, .null, .int 0, .null, .null, .int 0, .null, .int (bI false), .int 0, .int 0, .int 0, .int 0, .int 0, .int 0, .int 0, .int 0, .long 0, .int 0, .int 0, .int 0, .int (bI false), .int 0, .int 0])), (q1, .inl (E.2.1 0, 47, .inl g77))] Hn := hPn
  have hD : va_D A [(mo, .inr (5, [.null, .null, .null, .int 0, .int 0, .null, .int 0, .null, .int 0, .null, .null, .int 0, .null, .int (bI false), .int 0, .int 0, .int 0, .int 0, .int 0, .int 0, .int 0, .int 0, .long 0, .int 0, .int 0, .int 0, .int (bI false), .int 0, .int 0])), (q1, .inl (E.2.1 0, 47, .inl g77))] := hDn
  have hS := hSn
  clear hPn hDn hSn
  refine lv_dup hx hb d_M_init_269 rfl ?_
  refine lv_bipush (v := 38) hx hb d_M_init_270 (by decide) ?_
  refine lv_sipush (v := 273) hx hb d_M_init_272 (by decide) ?_
  refine va_iast (D := E.1) (x := 273) hx hb hK hP hD hS 1 0 rfl rfl (vp_in_iff.mpr (by decide)) d_M_init_275 (fun Hn locsn hPn hDn hSn => ?_)
  obtain ⟨g79, eg79⟩ : ∃ g : Nat → Int32, g = upd g77 (Int32.toNatClampNeg 38) 273 := ⟨_, rfl⟩
  have hq80 : ∀ j, j < 39 → g79 j = zF 0 j := by rw [eg79]; exact tb_s hq78 (by decide) (by decide)
  rw [← eg79] at hPn hDn
  clear eg79 hq78
  clear hP hD hS
  have hP : va_P E.1 classes [(mo, .inr (5, [.null, .null, .null, .int 0, .int 0, .null, .int 0, .null, .int 0, .null, .null, .int 0, .null, .int (bI false), .int 0, .int 0, .int 0, .int 0, .int 0, .int 0, .int 0, .int 0, .long 0, .int 0, .int 0, .int 0, .int (bI false), .int 0, .int 0])), (q1, .inl (E.2.1 0, 47, .inl g79))] Hn := hPn
  have hD : va_D A [(mo, .inr (5, [.null, .null, .null, .int 0, .int 0, .null, .int 0, .null, .int 0, .null, .null, .int 0, .null, .int (bI false), .int 0, .int 0, .int 0, .int 0, .int 0, .int 0, .int 0, .int 0, .long 0, .int 0, .int 0, .int 0, .int (bI false), .int 0, .int 0])), (q1, .inl (E.2.1 0, 47, .inl g79))] := hDn
  have hS := hSn
  clear hPn hDn hSn
  refine lv_dup hx hb d_M_init_276 rfl ?_
  refine lv_bipush (v := 39) hx hb d_M_init_277 (by decide) ?_
  refine lv_sipush (v := 133) hx hb d_M_init_279 (by decide) ?_
  refine va_iast (D := E.1) (x := 133) hx hb hK hP hD hS 1 0 rfl rfl (vp_in_iff.mpr (by decide)) d_M_init_282 (fun Hn locsn hPn hDn hSn => ?_)
  obtain ⟨g81, eg81⟩ : ∃ g : Nat → Int32, g = upd g79 (Int32.toNatClampNeg 39) 133 := ⟨_, rfl⟩
  have hq82 : ∀ j, j < 40 → g81 j = zF 0 j := by rw [eg81]; exact tb_s hq80 (by decide) (by decide)
  rw [← eg81] at hPn hDn
  clear eg81 hq80
  clear hP hD hS
  have hP : va_P E.1 classes [(mo, .inr (5, [.null, .null, .null, .int 0, .int 0, .null, .int 0, .null, .int 0, .null, .null, .int 0, .null, .int (bI false), .int 0, .int 0, .int 0, .int 0, .int 0, .int 0, .int 0, .int 0, .long 0, .int 0, .int 0, .int 0, .int (bI false), .int 0, .int 0])), (q1, .inl (E.2.1 0, 47, .inl g81))] Hn := hPn
  have hD : va_D A [(mo, .inr (5, [.null, .null, .null, .int 0, .int 0, .null, .int 0, .null, .int 0, .null, .null, .int 0, .null, .int (bI false), .int 0, .int 0, .int 0, .int 0, .int 0, .int 0, .int 0, .int 0, .long 0, .int 0, .int 0, .int 0, .int (bI false), .int 0, .int 0])), (q1, .inl (E.2.1 0, 47, .inl g81))] := hDn
  have hS := hSn
  clear hPn hDn hSn
  refine lv_dup hx hb d_M_init_283 rfl ?_
  refine lv_bipush (v := 40) hx hb d_M_init_284 (by decide) ?_
  refine lv_bipush (v := 73) hx hb d_M_init_286 (by decide) ?_
  refine va_iast (D := E.1) (x := 73) hx hb hK hP hD hS 1 0 rfl rfl (vp_in_iff.mpr (by decide)) d_M_init_288 (fun Hn locsn hPn hDn hSn => ?_)
  obtain ⟨g83, eg83⟩ : ∃ g : Nat → Int32, g = upd g81 (Int32.toNatClampNeg 40) 73 := ⟨_, rfl⟩
  have hq84 : ∀ j, j < 41 → g83 j = zF 0 j := by rw [eg83]; exact tb_s hq82 (by decide) (by decide)
  rw [← eg83] at hPn hDn
  clear eg83 hq82
  clear hP hD hS
  have hP : va_P E.1 classes [(mo, .inr (5, [.null, .null, .null, .int 0, .int 0, .null, .int 0, .null, .int 0, .null, .null, .int 0, .null, .int (bI false), .int 0, .int 0, .int 0, .int 0, .int 0, .int 0, .int 0, .int 0, .long 0, .int 0, .int 0, .int 0, .int (bI false), .int 0, .int 0])), (q1, .inl (E.2.1 0, 47, .inl g83))] Hn := hPn
  have hD : va_D A [(mo, .inr (5, [.null, .null, .null, .int 0, .int 0, .null, .int 0, .null, .int 0, .null, .null, .int 0, .null, .int (bI false), .int 0, .int 0, .int 0, .int 0, .int 0, .int 0, .int 0, .int 0, .long 0, .int 0, .int 0, .int 0, .int (bI false), .int 0, .int 0])), (q1, .inl (E.2.1 0, 47, .inl g83))] := hDn
  have hS := hSn
  clear hPn hDn hSn
  refine lv_dup hx hb d_M_init_289 rfl ?_
  refine lv_bipush (v := 41) hx hb d_M_init_290 (by decide) ?_
  refine lv_bipush (v := 37) hx hb d_M_init_292 (by decide) ?_
  refine va_iast (D := E.1) (x := 37) hx hb hK hP hD hS 1 0 rfl rfl (vp_in_iff.mpr (by decide)) d_M_init_294 (fun Hn locsn hPn hDn hSn => ?_)
  obtain ⟨g85, eg85⟩ : ∃ g : Nat → Int32, g = upd g83 (Int32.toNatClampNeg 41) 37 := ⟨_, rfl⟩
  have hq86 : ∀ j, j < 42 → g85 j = zF 0 j := by rw [eg85]; exact tb_s hq84 (by decide) (by decide)
  rw [← eg85] at hPn hDn
  clear eg85 hq84
  clear hP hD hS
  have hP : va_P E.1 classes [(mo, .inr (5, [.null, .null, .null, .int 0, .int 0, .null, .int 0, .null, .int 0, .null, .null, .int 0, .null, .int (bI false), .int 0, .int 0, .int 0, .int 0, .int 0, .int 0, .int 0, .int 0, .long 0, .int 0, .int 0, .int 0, .int (bI false), .int 0, .int 0])), (q1, .inl (E.2.1 0, 47, .inl g85))] Hn := hPn
  have hD : va_D A [(mo, .inr (5, [.null, .null, .null, .int 0, .int 0, .null, .int 0, .null, .int 0, .null, .null, .int 0, .null, .int (bI false), .int 0, .int 0, .int 0, .int 0, .int 0, .int 0, .int 0, .int 0, .long 0, .int 0, .int 0, .int 0, .int (bI false), .int 0, .int 0])), (q1, .inl (E.2.1 0, 47, .inl g85))] := hDn
  have hS := hSn
  clear hPn hDn hSn
  refine lv_dup hx hb d_M_init_295 rfl ?_
  refine lv_bipush (v := 42) hx hb d_M_init_296 (by decide) ?_
  refine lv_bipush (v := 21) hx hb d_M_init_298 (by decide) ?_
  refine va_iast (D := E.1) (x := 21) hx hb hK hP hD hS 1 0 rfl rfl (vp_in_iff.mpr (by decide)) d_M_init_300 (fun Hn locsn hPn hDn hSn => ?_)
  obtain ⟨g87, eg87⟩ : ∃ g : Nat → Int32, g = upd g85 (Int32.toNatClampNeg 42) 21 := ⟨_, rfl⟩
  have hq88 : ∀ j, j < 43 → g87 j = zF 0 j := by rw [eg87]; exact tb_s hq86 (by decide) (by decide)
  rw [← eg87] at hPn hDn
  clear eg87 hq86
  clear hP hD hS
  have hP : va_P E.1 classes [(mo, .inr (5, [.null, .null, .null, .int 0, .int 0, .null, .int 0, .null, .int 0, .null, .null, .int 0, .null, .int (bI false), .int 0, .int 0, .int 0, .int 0, .int 0, .int 0, .int 0, .int 0, .long 0, .int 0, .int 0, .int 0, .int (bI false), .int 0, .int 0])), (q1, .inl (E.2.1 0, 47, .inl g87))] Hn := hPn
  have hD : va_D A [(mo, .inr (5, [.null, .null, .null, .int 0, .int 0, .null, .int 0, .null, .int 0, .null, .null, .int 0, .null, .int (bI false), .int 0, .int 0, .int 0, .int 0, .int 0, .int 0, .int 0, .int 0, .long 0, .int 0, .int 0, .int 0, .int (bI false), .int 0, .int 0])), (q1, .inl (E.2.1 0, 47, .inl g87))] := hDn
  have hS := hSn
  clear hPn hDn hSn
  refine lv_dup hx hb d_M_init_301 rfl ?_
  refine lv_bipush (v := 43) hx hb d_M_init_302 (by decide) ?_
  refine lv_bipush (v := 9) hx hb d_M_init_304 (by decide) ?_
  refine va_iast (D := E.1) (x := 9) hx hb hK hP hD hS 1 0 rfl rfl (vp_in_iff.mpr (by decide)) d_M_init_306 (fun Hn locsn hPn hDn hSn => ?_)
  obtain ⟨g89, eg89⟩ : ∃ g : Nat → Int32, g = upd g87 (Int32.toNatClampNeg 43) 9 := ⟨_, rfl⟩
  have hq90 : ∀ j, j < 44 → g89 j = zF 0 j := by rw [eg89]; exact tb_s hq88 (by decide) (by decide)
  rw [← eg89] at hPn hDn
  clear eg89 hq88
  clear hP hD hS
  have hP : va_P E.1 classes [(mo, .inr (5, [.null, .null, .null, .int 0, .int 0, .null, .int 0, .null, .int 0, .null, .null, .int 0, .null, .int (bI false), .int 0, .int 0, .int 0, .int 0, .int 0, .int 0, .int 0, .int 0, .long 0, .int 0, .int 0, .int 0, .int (bI false), .int 0, .int 0])), (q1, .inl (E.2.1 0, 47, .inl g89))] Hn := hPn
  have hD : va_D A [(mo, .inr (5, [.null, .null, .null, .int 0, .int 0, .null, .int 0, .null, .int 0, .null, .null, .int 0, .null, .int (bI false), .int 0, .int 0, .int 0, .int 0, .int 0, .int 0, .int 0, .int 0, .long 0, .int 0, .int 0, .int 0, .int (bI false), .int 0, .int 0])), (q1, .inl (E.2.1 0, 47, .inl g89))] := hDn
  have hS := hSn
  clear hPn hDn hSn
  refine lv_dup hx hb d_M_init_307 rfl ?_
  refine lv_bipush (v := 44) hx hb d_M_init_308 (by decide) ?_
  refine lv_iconst (v := 5) hx hb d_M_init_310 (by decide) ?_
  refine va_iast (D := E.1) (x := 5) hx hb hK hP hD hS 1 0 rfl rfl (vp_in_iff.mpr (by decide)) d_M_init_311 (fun Hn locsn hPn hDn hSn => ?_)
  obtain ⟨g91, eg91⟩ : ∃ g : Nat → Int32, g = upd g89 (Int32.toNatClampNeg 44) 5 := ⟨_, rfl⟩
  have hq92 : ∀ j, j < 45 → g91 j = zF 0 j := by rw [eg91]; exact tb_s hq90 (by decide) (by decide)
  rw [← eg91] at hPn hDn
  clear eg91 hq90
  clear hP hD hS
  have hP : va_P E.1 classes [(mo, .inr (5, [.null, .null, .null, .int 0, .int 0, .null, .int 0, .null, .int 0, .null, .null, .int 0, .null, .int (bI false), .int 0, .int 0, .int 0, .int 0, .int 0, .int 0, .int 0, .int 0, .long 0, .int 0, .int 0, .int 0, .int (bI false), .int 0, .int 0])), (q1, .inl (E.2.1 0, 47, .inl g91))] Hn := hPn
  have hD : va_D A [(mo, .inr (5, [.null, .null, .null, .int 0, .int 0, .null, .int 0, .null, .int 0, .null, .null, .int 0, .null, .int (bI false), .int 0, .int 0, .int 0, .int 0, .int 0, .int 0, .int 0, .int 0, .long 0, .int 0, .int 0, .int 0, .int (bI false), .int 0, .int 0])), (q1, .inl (E.2.1 0, 47, .inl g91))] := hDn
  have hS := hSn
  clear hPn hDn hSn
  refine lv_dup hx hb d_M_init_312 rfl ?_
  refine lv_bipush (v := 45) hx hb d_M_init_313 (by decide) ?_
  refine lv_iconst (v := 1) hx hb d_M_init_315 (by decide) ?_
  refine va_iast (D := E.1) (x := 1) hx hb hK hP hD hS 1 0 rfl rfl (vp_in_iff.mpr (by decide)) d_M_init_316 (fun Hn locsn hPn hDn hSn => ?_)
  obtain ⟨g93, eg93⟩ : ∃ g : Nat → Int32, g = upd g91 (Int32.toNatClampNeg 45) 1 := ⟨_, rfl⟩
  have hq94 : ∀ j, j < 46 → g93 j = zF 0 j := by rw [eg93]; exact tb_s hq92 (by decide) (by decide)
  rw [← eg93] at hPn hDn
  clear eg93 hq92
  clear hP hD hS
  have hP : va_P E.1 classes [(mo, .inr (5, [.null, .null, .null, .int 0, .int 0, .null, .int 0, .null, .int 0, .null, .null, .int 0, .null, .int (bI false), .int 0, .int 0, .int 0, .int 0, .int 0, .int 0, .int 0, .int 0, .long 0, .int 0, .int 0, .int 0, .int (bI false), .int 0, .int 0])), (q1, .inl (E.2.1 0, 47, .inl g93))] Hn := hPn
  have hD : va_D A [(mo, .inr (5, [.null, .null, .null, .int 0, .int 0, .null, .int 0, .null, .int 0, .null, .null, .int 0, .null, .int (bI false), .int 0, .int 0, .int 0, .int 0, .int 0, .int 0, .int 0, .int 0, .long 0, .int 0, .int 0, .int 0, .int (bI false), .int 0, .int 0])), (q1, .inl (E.2.1 0, 47, .inl g93))] := hDn
  have hS := hSn
  clear hPn hDn hSn
  refine lv_dup hx hb d_M_init_317 rfl ?_
  refine lv_bipush (v := 46) hx hb d_M_init_318 (by decide) ?_
  refine lv_sipush (v := 22017) hx hb d_M_init_320 (by decide) ?_
  refine va_iast (D := E.1) (x := 22017) hx hb hK hP hD hS 1 0 rfl rfl (vp_in_iff.mpr (by decide)) d_M_init_323 (fun Hn locsn hPn hDn hSn => ?_)
  obtain ⟨g95, eg95⟩ : ∃ g : Nat → Int32, g = upd g93 (Int32.toNatClampNeg 46) 22017 := ⟨_, rfl⟩
  have hq96 : ∀ j, j < 47 → g95 j = zF 0 j := by rw [eg95]; exact tb_s hq94 (by decide) (by decide)
  rw [← eg95] at hPn hDn
  clear eg95 hq94
  clear hP hD hS
  have hP : va_P E.1 classes [(mo, .inr (5, [.null, .null, .null, .int 0, .int 0, .null, .int 0, .null, .int 0, .null, .null, .int 0, .null, .int (bI false), .int 0, .int 0, .int 0, .int 0, .int 0, .int 0, .int 0, .int 0, .long 0, .int 0, .int 0, .int 0, .int (bI false), .int 0, .int 0])), (q1, .inl (E.2.1 0, 47, .inl g95))] Hn := hPn
  have hD : va_D A [(mo, .inr (5, [.null, .null, .null, .int 0, .int 0, .null, .int 0, .null, .int 0, .null, .null, .int 0, .null, .int (bI false), .int 0, .int 0, .int 0, .int 0, .int 0, .int 0, .int 0, .int 0, .long 0, .int 0, .int 0, .int 0, .int (bI false), .int 0, .int 0])), (q1, .inl (E.2.1 0, 47, .inl g95))] := hDn
  have hS := hSn
  clear hPn hDn hSn
  refine va_putF (D := E.1) (ci := 5) (v := .ref q1) (ty := (.array .int)) (C := R_M) (T := T_M) (N := 29) hx hb hts in_M t_M t_M_ok n_M hown hK hP hD hS 0 rfl rfl 0 (by decide) (hts _ m_610) (fun _ h9 => h9) rfl hin rfl (by decide +kernel) rfl rfl (Nat.le_of_ble_eq_true rfl) d_M_init_324 (fun Hn locsn hPn hDn hSn => ?_)
  clear hP hD hS
  have hP : va_P E.1 classes [(mo, .inr (5, [.ref q1, .null, .null, .int 0, .int 0, .null, .int 0, .null, .int 0, .null, .null, .int 0, .null, .int (bI false), .int 0, .int 0, .int 0, .int 0, .int 0, .int 0, .int 0, .int 0, .long 0, .int 0, .int 0, .int 0, .int (bI false), .int 0, .int 0])), (q1, .inl (E.2.1 0, 47, .inl g95))] Hn := hPn
  have hD : va_D A [(mo, .inr (5, [.ref q1, .null, .null, .int 0, .int 0, .null, .int 0, .null, .int 0, .null, .null, .int 0, .null, .int (bI false), .int 0, .int 0, .int 0, .int 0, .int 0, .int 0, .int 0, .int 0, .long 0, .int 0, .int 0, .int 0, .int (bI false), .int 0, .int 0])), (q1, .inl (E.2.1 0, 47, .inl g95))] := hDn
  have hS := hSn
  clear hPn hDn hSn
  have hPn := ar_ext hP (k := 1) rfl hq96
  have hDn := ar_extD (e2 := .inl (E.2.1 0, 47, .inl (zF 0))) hD (k := 1) rfl
  have hSn := hS
  clear hq96
  clear hP hD hS
  have hP : va_P E.1 classes [(mo, .inr (5, [.ref q1, .null, .null, .int 0, .int 0, .null, .int 0, .null, .int 0, .null, .null, .int 0, .null, .int (bI false), .int 0, .int 0, .int 0, .int 0, .int 0, .int 0, .int 0, .int 0, .long 0, .int 0, .int 0, .int 0, .int (bI false), .int 0, .int 0])), (q1, .inl (E.2.1 0, 47, .inl (zF 0)))] _ := hPn
  have hD : va_D A [(mo, .inr (5, [.ref q1, .null, .null, .int 0, .int 0, .null, .int 0, .null, .int 0, .null, .null, .int 0, .null, .int (bI false), .int 0, .int 0, .int 0, .int 0, .int 0, .int 0, .int 0, .int 0, .long 0, .int 0, .int 0, .int 0, .int (bI false), .int 0, .int 0])), (q1, .inl (E.2.1 0, 47, .inl (zF 0)))] := hDn
  have hS := hSn
  clear hPn hDn hSn
  refine lv_aload_n hx hb d_M_init_327 rfl (lv_at hl 0 rfl) ?_
  refine lv_bipush (v := 47) hx hb d_M_init_328 (by decide) ?_
  refine ar_newI (N := 47) hx hb hts hP hD hS hA hK (by decide) rfl (by show 47 * 4 ≤ 536870912; omega) (Nat.le_of_ble_eq_true rfl) (by show 47 + 47 ≤ 654821; omega) d_M_init_330 (fun q97 Hn hPn hDn hSn => ?_)
  clear hP hD hS
  have hP : va_P E.1 classes [(mo, .inr (5, [.ref q1, .null, .null, .int 0, .int 0, .null, .int 0, .null, .int 0, .null, .null, .int 0, .null, .int (bI false), .int 0, .int 0, .int 0, .int 0, .int 0, .int 0, .int 0, .int 0, .long 0, .int 0, .int 0, .int 0, .int (bI false), .int 0, .int 0])), (q1, .inl (E.2.1 0, 47, .inl (zF 0))), (q97, .inl (E.2.1 0, 47, .inl (fun _ => 0)))] Hn := hPn
  have hD : va_D A [(mo, .inr (5, [.ref q1, .null, .null, .int 0, .int 0, .null, .int 0, .null, .int 0, .null, .null, .int 0, .null, .int (bI false), .int 0, .int 0, .int 0, .int 0, .int 0, .int 0, .int 0, .int 0, .long 0, .int 0, .int 0, .int 0, .int (bI false), .int 0, .int 0])), (q1, .inl (E.2.1 0, 47, .inl (zF 0))), (q97, .inl (E.2.1 0, 47, .inl (fun _ => 0)))] := hDn
  have hS := hSn
  clear hPn hDn hSn
  refine W.widen (k := 2) (n := 94) (by omega) (by omega) ?_
  have hq98 : ∀ j, j < 0 → (fun _ : Nat => (0 : Int32)) j = zF 1 j := fun j hj => absurd hj (Nat.not_lt_zero j)
  refine lv_dup hx hb d_M_init_332 rfl ?_
  refine lv_iconst (v := 0) hx hb d_M_init_333 (by decide) ?_
  refine lv_iconst (v := 1) hx hb d_M_init_334 (by decide) ?_
  refine va_iast (D := E.1) (x := 1) hx hb hK hP hD hS 2 0 rfl rfl (vp_in_iff.mpr (by decide)) d_M_init_335 (fun Hn locsn hPn hDn hSn => ?_)
  obtain ⟨g99, eg99⟩ : ∃ g : Nat → Int32, g = upd (fun _ => 0) (Int32.toNatClampNeg 0) 1 := ⟨_, rfl⟩
  have hq100 : ∀ j, j < 1 → g99 j = zF 1 j := by rw [eg99]; exact tb_s hq98 (by decide) (by decide)
  rw [← eg99] at hPn hDn
  clear eg99 hq98
  clear hP hD hS
  have hP : va_P E.1 classes [(mo, .inr (5, [.ref q1, .null, .null, .int 0, .int 0, .null, .int 0, .null, .int 0, .null, .null, .int 0, .null, .int (bI false), .int 0, .int 0, .int 0, .int 0, .int 0, .int 0, .int 0, .int 0, .long 0, .int 0, .int 0, .int 0, .int (bI false), .int 0, .int 0])), (q1, .inl (E.2.1 0, 47, .inl (zF 0))), (q97, .inl (E.2.1 0, 47, .inl g99))] Hn := hPn
  have hD : va_D A [(mo, .inr (5, [.ref q1, .null, .null, .int 0, .int 0, .null, .int 0, .null, .int 0, .null, .null, .int 0, .null, .int (bI false), .int 0, .int 0, .int 0, .int 0, .int 0, .int 0, .int 0, .int 0, .long 0, .int 0, .int 0, .int 0, .int (bI false), .int 0, .int 0])), (q1, .inl (E.2.1 0, 47, .inl (zF 0))), (q97, .inl (E.2.1 0, 47, .inl g99))] := hDn
  have hS := hSn
  clear hPn hDn hSn
  refine lv_dup hx hb d_M_init_336 rfl ?_
  refine lv_iconst (v := 1) hx hb d_M_init_337 (by decide) ?_
  refine lv_iconst (v := 2) hx hb d_M_init_338 (by decide) ?_
  refine va_iast (D := E.1) (x := 2) hx hb hK hP hD hS 2 0 rfl rfl (vp_in_iff.mpr (by decide)) d_M_init_339 (fun Hn locsn hPn hDn hSn => ?_)
  obtain ⟨g101, eg101⟩ : ∃ g : Nat → Int32, g = upd g99 (Int32.toNatClampNeg 1) 2 := ⟨_, rfl⟩
  have hq102 : ∀ j, j < 2 → g101 j = zF 1 j := by rw [eg101]; exact tb_s hq100 (by decide) (by decide)
  rw [← eg101] at hPn hDn
  clear eg101 hq100
  clear hP hD hS
  have hP : va_P E.1 classes [(mo, .inr (5, [.ref q1, .null, .null, .int 0, .int 0, .null, .int 0, .null, .int 0, .null, .null, .int 0, .null, .int (bI false), .int 0, .int 0, .int 0, .int 0, .int 0, .int 0, .int 0, .int 0, .long 0, .int 0, .int 0, .int 0, .int (bI false), .int 0, .int 0])), (q1, .inl (E.2.1 0, 47, .inl (zF 0))), (q97, .inl (E.2.1 0, 47, .inl g101))] Hn := hPn
  have hD : va_D A [(mo, .inr (5, [.ref q1, .null, .null, .int 0, .int 0, .null, .int 0, .null, .int 0, .null, .null, .int 0, .null, .int (bI false), .int 0, .int 0, .int 0, .int 0, .int 0, .int 0, .int 0, .int 0, .long 0, .int 0, .int 0, .int 0, .int (bI false), .int 0, .int 0])), (q1, .inl (E.2.1 0, 47, .inl (zF 0))), (q97, .inl (E.2.1 0, 47, .inl g101))] := hDn
  have hS := hSn
  clear hPn hDn hSn
  refine lv_dup hx hb d_M_init_340 rfl ?_
  refine lv_iconst (v := 2) hx hb d_M_init_341 (by decide) ?_
  refine lv_iconst (v := 3) hx hb d_M_init_342 (by decide) ?_
  refine va_iast (D := E.1) (x := 3) hx hb hK hP hD hS 2 0 rfl rfl (vp_in_iff.mpr (by decide)) d_M_init_343 (fun Hn locsn hPn hDn hSn => ?_)
  obtain ⟨g103, eg103⟩ : ∃ g : Nat → Int32, g = upd g101 (Int32.toNatClampNeg 2) 3 := ⟨_, rfl⟩
  have hq104 : ∀ j, j < 3 → g103 j = zF 1 j := by rw [eg103]; exact tb_s hq102 (by decide) (by decide)
  rw [← eg103] at hPn hDn
  clear eg103 hq102
  clear hP hD hS
  have hP : va_P E.1 classes [(mo, .inr (5, [.ref q1, .null, .null, .int 0, .int 0, .null, .int 0, .null, .int 0, .null, .null, .int 0, .null, .int (bI false), .int 0, .int 0, .int 0, .int 0, .int 0, .int 0, .int 0, .int 0, .long 0, .int 0, .int 0, .int 0, .int (bI false), .int 0, .int 0])), (q1, .inl (E.2.1 0, 47, .inl (zF 0))), (q97, .inl (E.2.1 0, 47, .inl g103))] Hn := hPn
  have hD : va_D A [(mo, .inr (5, [.ref q1, .null, .null, .int 0, .int 0, .null, .int 0, .null, .int 0, .null, .null, .int 0, .null, .int (bI false), .int 0, .int 0, .int 0, .int 0, .int 0, .int 0, .int 0, .int 0, .long 0, .int 0, .int 0, .int 0, .int (bI false), .int 0, .int 0])), (q1, .inl (E.2.1 0, 47, .inl (zF 0))), (q97, .inl (E.2.1 0, 47, .inl g103))] := hDn
  have hS := hSn
  clear hPn hDn hSn
  refine lv_dup hx hb d_M_init_344 rfl ?_
  refine lv_iconst (v := 3) hx hb d_M_init_345 (by decide) ?_
  refine lv_iconst (v := 4) hx hb d_M_init_346 (by decide) ?_
  refine va_iast (D := E.1) (x := 4) hx hb hK hP hD hS 2 0 rfl rfl (vp_in_iff.mpr (by decide)) d_M_init_347 (fun Hn locsn hPn hDn hSn => ?_)
  obtain ⟨g105, eg105⟩ : ∃ g : Nat → Int32, g = upd g103 (Int32.toNatClampNeg 3) 4 := ⟨_, rfl⟩
  have hq106 : ∀ j, j < 4 → g105 j = zF 1 j := by rw [eg105]; exact tb_s hq104 (by decide) (by decide)
  rw [← eg105] at hPn hDn
  clear eg105 hq104
  clear hP hD hS
  have hP : va_P E.1 classes [(mo, .inr (5, [.ref q1, .null, .null, .int 0, .int 0, .null, .int 0, .null, .int 0, .null, .null, .int 0, .null, .int (bI false), .int 0, .int 0, .int 0, .int 0, .int 0, .int 0, .int 0, .int 0, .long 0, .int 0, .int 0, .int 0, .int (bI false), .int 0, .int 0])), (q1, .inl (E.2.1 0, 47, .inl (zF 0))), (q97, .inl (E.2.1 0, 47, .inl g105))] Hn := hPn
  have hD : va_D A [(mo, .inr (5, [.ref q1, .null, .null, .int 0, .int 0, .null, .int 0, .null, .int 0, .null, .null, .int 0, .null, .int (bI false), .int 0, .int 0, .int 0, .int 0, .int 0, .int 0, .int 0, .int 0, .long 0, .int 0, .int 0, .int 0, .int (bI false), .int 0, .int 0])), (q1, .inl (E.2.1 0, 47, .inl (zF 0))), (q97, .inl (E.2.1 0, 47, .inl g105))] := hDn
  have hS := hSn
  clear hPn hDn hSn
  refine lv_dup hx hb d_M_init_348 rfl ?_
  refine lv_iconst (v := 4) hx hb d_M_init_349 (by decide) ?_
  refine lv_iconst (v := 5) hx hb d_M_init_350 (by decide) ?_
  refine va_iast (D := E.1) (x := 5) hx hb hK hP hD hS 2 0 rfl rfl (vp_in_iff.mpr (by decide)) d_M_init_351 (fun Hn locsn hPn hDn hSn => ?_)
  obtain ⟨g107, eg107⟩ : ∃ g : Nat → Int32, g = upd g105 (Int32.toNatClampNeg 4) 5 := ⟨_, rfl⟩
  have hq108 : ∀ j, j < 5 → g107 j = zF 1 j := by rw [eg107]; exact tb_s hq106 (by decide) (by decide)
  rw [← eg107] at hPn hDn
  clear eg107 hq106
  clear hP hD hS
  have hP : va_P E.1 classes [(mo, .inr (5, [.ref q1, .null, .null, .int 0, .int 0, .null, .int 0, .null, .int 0, .null, .null, .int 0, .null, .int (bI false), .int 0, .int 0, .int 0, .int 0, .int 0, .int 0, .int 0, .int 0, .long 0, .int 0, .int 0, .int 0, .int (bI false), .int 0, .int 0])), (q1, .inl (E.2.1 0, 47, .inl (zF 0))), (q97, .inl (E.2.1 0, 47, .inl g107))] Hn := hPn
  have hD : va_D A [(mo, .inr (5, [.ref q1, .null, .null, .int 0, .int 0, .null, .int 0, .null, .int 0, .null, .null, .int 0, .null, .int (bI false), .int 0, .int 0, .int 0, .int 0, .int 0, .int 0, .int 0, .int 0, .long 0, .int 0, .int 0, .int 0, .int (bI false), .int 0, .int 0])), (q1, .inl (E.2.1 0, 47, .inl (zF 0))), (q97, .inl (E.2.1 0, 47, .inl g107))] := hDn
  have hS := hSn
  clear hPn hDn hSn
  refine lv_dup hx hb d_M_init_352 rfl ?_
  refine lv_iconst (v := 5) hx hb d_M_init_353 (by decide) ?_
  refine lv_bipush (v := 38) hx hb d_M_init_354 (by decide) ?_
  refine va_iast (D := E.1) (x := 38) hx hb hK hP hD hS 2 0 rfl rfl (vp_in_iff.mpr (by decide)) d_M_init_356 (fun Hn locsn hPn hDn hSn => ?_)
  obtain ⟨g109, eg109⟩ : ∃ g : Nat → Int32, g = upd g107 (Int32.toNatClampNeg 5) 38 := ⟨_, rfl⟩
  have hq110 : ∀ j, j < 6 → g109 j = zF 1 j := by rw [eg109]; exact tb_s hq108 (by decide) (by decide)
  rw [← eg109] at hPn hDn
  clear eg109 hq108
  clear hP hD hS
  have hP : va_P E.1 classes [(mo, .inr (5, [.ref q1, .null, .null, .int 0, .int 0, .null, .int 0, .null, .int 0, .null, .null, .int 0, .null, .int (bI false), .int 0, .int 0, .int 0, .int 0, .int 0, .int 0, .int 0, .int 0, .long 0, .int 0, .int 0, .int 0, .int (bI false), .int 0, .int 0])), (q1, .inl (E.2.1 0, 47, .inl (zF 0))), (q97, .inl (E.2.1 0, 47, .inl g109))] Hn := hPn
  have hD : va_D A [(mo, .inr (5, [.ref q1, .null, .null, .int 0, .int 0, .null, .int 0, .null, .int 0, .null, .null, .int 0, .null, .int (bI false), .int 0, .int 0, .int 0, .int 0, .int 0, .int 0, .int 0, .int 0, .long 0, .int 0, .int 0, .int 0, .int (bI false), .int 0, .int 0])), (q1, .inl (E.2.1 0, 47, .inl (zF 0))), (q97, .inl (E.2.1 0, 47, .inl g109))] := hDn
  have hS := hSn
  clear hPn hDn hSn
  refine lv_dup hx hb d_M_init_357 rfl ?_
  refine lv_bipush (v := 6) hx hb d_M_init_358 (by decide) ?_
  refine lv_bipush (v := 7) hx hb d_M_init_360 (by decide) ?_
  refine va_iast (D := E.1) (x := 7) hx hb hK hP hD hS 2 0 rfl rfl (vp_in_iff.mpr (by decide)) d_M_init_362 (fun Hn locsn hPn hDn hSn => ?_)
  obtain ⟨g111, eg111⟩ : ∃ g : Nat → Int32, g = upd g109 (Int32.toNatClampNeg 6) 7 := ⟨_, rfl⟩
  have hq112 : ∀ j, j < 7 → g111 j = zF 1 j := by rw [eg111]; exact tb_s hq110 (by decide) (by decide)
  rw [← eg111] at hPn hDn
  clear eg111 hq110
  clear hP hD hS
  have hP : va_P E.1 classes [(mo, .inr (5, [.ref q1, .null, .null, .int 0, .int 0, .null, .int 0, .null, .int 0, .null, .null, .int 0, .null, .int (bI false), .int 0, .int 0, .int 0, .int 0, .int 0, .int 0, .int 0, .int 0, .long 0, .int 0, .int 0, .int 0, .int (bI false), .int 0, .int 0])), (q1, .inl (E.2.1 0, 47, .inl (zF 0))), (q97, .inl (E.2.1 0, 47, .inl g111))] Hn := hPn
  have hD : va_D A [(mo, .inr (5, [.ref q1, .null, .null, .int 0, .int 0, .null, .int 0, .null, .int 0, .null, .null, .int 0, .null, .int (bI false), .int 0, .int 0, .int 0, .int 0, .int 0, .int 0, .int 0, .int 0, .long 0, .int 0, .int 0, .int 0, .int (bI false), .int 0, .int 0])), (q1, .inl (E.2.1 0, 47, .inl (zF 0))), (q97, .inl (E.2.1 0, 47, .inl g111))] := hDn
  have hS := hSn
  clear hPn hDn hSn
  refine lv_dup hx hb d_M_init_363 rfl ?_
  refine lv_bipush (v := 7) hx hb d_M_init_364 (by decide) ?_
  refine lv_bipush (v := 8) hx hb d_M_init_366 (by decide) ?_
  refine va_iast (D := E.1) (x := 8) hx hb hK hP hD hS 2 0 rfl rfl (vp_in_iff.mpr (by decide)) d_M_init_368 (fun Hn locsn hPn hDn hSn => ?_)
  obtain ⟨g113, eg113⟩ : ∃ g : Nat → Int32, g = upd g111 (Int32.toNatClampNeg 7) 8 := ⟨_, rfl⟩
  have hq114 : ∀ j, j < 8 → g113 j = zF 1 j := by rw [eg113]; exact tb_s hq112 (by decide) (by decide)
  rw [← eg113] at hPn hDn
  clear eg113 hq112
  clear hP hD hS
  have hP : va_P E.1 classes [(mo, .inr (5, [.ref q1, .null, .null, .int 0, .int 0, .null, .int 0, .null, .int 0, .null, .null, .int 0, .null, .int (bI false), .int 0, .int 0, .int 0, .int 0, .int 0, .int 0, .int 0, .int 0, .long 0, .int 0, .int 0, .int 0, .int (bI false), .int 0, .int 0])), (q1, .inl (E.2.1 0, 47, .inl (zF 0))), (q97, .inl (E.2.1 0, 47, .inl g113))] Hn := hPn
  have hD : va_D A [(mo, .inr (5, [.ref q1, .null, .null, .int 0, .int 0, .null, .int 0, .null, .int 0, .null, .null, .int 0, .null, .int (bI false), .int 0, .int 0, .int 0, .int 0, .int 0, .int 0, .int 0, .int 0, .long 0, .int 0, .int 0, .int 0, .int (bI false), .int 0, .int 0])), (q1, .inl (E.2.1 0, 47, .inl (zF 0))), (q97, .inl (E.2.1 0, 47, .inl g113))] := hDn
  have hS := hSn
  clear hPn hDn hSn
  refine lv_dup hx hb d_M_init_369 rfl ?_
  refine lv_bipush (v := 8) hx hb d_M_init_370 (by decide) ?_
  refine lv_bipush (v := 9) hx hb d_M_init_372 (by decide) ?_
  refine va_iast (D := E.1) (x := 9) hx hb hK hP hD hS 2 0 rfl rfl (vp_in_iff.mpr (by decide)) d_M_init_374 (fun Hn locsn hPn hDn hSn => ?_)
  obtain ⟨g115, eg115⟩ : ∃ g : Nat → Int32, g = upd g113 (Int32.toNatClampNeg 8) 9 := ⟨_, rfl⟩
  have hq116 : ∀ j, j < 9 → g115 j = zF 1 j := by rw [eg115]; exact tb_s hq114 (by decide) (by decide)
  rw [← eg115] at hPn hDn
  clear eg115 hq114
  clear hP hD hS
  have hP : va_P E.1 classes [(mo, .inr (5, [.ref q1, .null, .null, .int 0, .int 0, .null, .int 0, .null, .int 0, .null, .null, .int 0, .null, .int (bI false), .int 0, .int 0, .int 0, .int 0, .int 0, .int 0, .int 0, .int 0, .long 0, .int 0, .int 0, .int 0, .int (bI false), .int 0, .int 0])), (q1, .inl (E.2.1 0, 47, .inl (zF 0))), (q97, .inl (E.2.1 0, 47, .inl g115))] Hn := hPn
  have hD : va_D A [(mo, .inr (5, [.ref q1, .null, .null, .int 0, .int 0, .null, .int 0, .null, .int 0, .null, .null, .int 0, .null, .int (bI false), .int 0, .int 0, .int 0, .int 0, .int 0, .int 0, .int 0, .int 0, .long 0, .int 0, .int 0, .int 0, .int (bI false), .int 0, .int 0])), (q1, .inl (E.2.1 0, 47, .inl (zF 0))), (q97, .inl (E.2.1 0, 47, .inl g115))] := hDn
  have hS := hSn
  clear hPn hDn hSn
  refine lv_dup hx hb d_M_init_375 rfl ?_
  refine lv_bipush (v := 9) hx hb d_M_init_376 (by decide) ?_
  refine lv_bipush (v := 10) hx hb d_M_init_378 (by decide) ?_
  refine va_iast (D := E.1) (x := 10) hx hb hK hP hD hS 2 0 rfl rfl (vp_in_iff.mpr (by decide)) d_M_init_380 (fun Hn locsn hPn hDn hSn => ?_)
  obtain ⟨g117, eg117⟩ : ∃ g : Nat → Int32, g = upd g115 (Int32.toNatClampNeg 9) 10 := ⟨_, rfl⟩
  have hq118 : ∀ j, j < 10 → g117 j = zF 1 j := by rw [eg117]; exact tb_s hq116 (by decide) (by decide)
  rw [← eg117] at hPn hDn
  clear eg117 hq116
  clear hP hD hS
  have hP : va_P E.1 classes [(mo, .inr (5, [.ref q1, .null, .null, .int 0, .int 0, .null, .int 0, .null, .int 0, .null, .null, .int 0, .null, .int (bI false), .int 0, .int 0, .int 0, .int 0, .int 0, .int 0, .int 0, .int 0, .long 0, .int 0, .int 0, .int 0, .int (bI false), .int 0, .int 0])), (q1, .inl (E.2.1 0, 47, .inl (zF 0))), (q97, .inl (E.2.1 0, 47, .inl g117))] Hn := hPn
  have hD : va_D A [(mo, .inr (5, [.ref q1, .null, .null, .int 0, .int 0, .null, .int 0, .null, .int 0, .null, .null, .int 0, .null, .int (bI false), .int 0, .int 0, .int 0, .int 0, .int 0, .int 0, .int 0, .int 0, .long 0, .int 0, .int 0, .int 0, .int (bI false), .int 0, .int 0])), (q1, .inl (E.2.1 0, 47, .inl (zF 0))), (q97, .inl (E.2.1 0, 47, .inl g117))] := hDn
  have hS := hSn
  clear hPn hDn hSn
  refine lv_dup hx hb d_M_init_381 rfl ?_
  refine lv_bipush (v := 10) hx hb d_M_init_382 (by decide) ?_
  refine lv_bipush (v := 11) hx hb d_M_init_384 (by decide) ?_
  refine va_iast (D := E.1) (x := 11) hx hb hK hP hD hS 2 0 rfl rfl (vp_in_iff.mpr (by decide)) d_M_init_386 (fun Hn locsn hPn hDn hSn => ?_)
  obtain ⟨g119, eg119⟩ : ∃ g : Nat → Int32, g = upd g117 (Int32.toNatClampNeg 10) 11 := ⟨_, rfl⟩
  have hq120 : ∀ j, j < 11 → g119 j = zF 1 j := by rw [eg119]; exact tb_s hq118 (by decide) (by decide)
  rw [← eg119] at hPn hDn
  clear eg119 hq118
  clear hP hD hS
  have hP : va_P E.1 classes [(mo, .inr (5, [.ref q1, .null, .null, .int 0, .int 0, .null, .int 0, .null, .int 0, .null, .null, .int 0, .null, .int (bI false), .int 0, .int 0, .int 0, .int 0, .int 0, .int 0, .int 0, .int 0, .long 0, .int 0, .int 0, .int 0, .int (bI false), .int 0, .int 0])), (q1, .inl (E.2.1 0, 47, .inl (zF 0))), (q97, .inl (E.2.1 0, 47, .inl g119))] Hn := hPn
  have hD : va_D A [(mo, .inr (5, [.ref q1, .null, .null, .int 0, .int 0, .null, .int 0, .null, .int 0, .null, .null, .int 0, .null, .int (bI false), .int 0, .int 0, .int 0, .int 0, .int 0, .int 0, .int 0, .int 0, .long 0, .int 0, .int 0, .int 0, .int (bI false), .int 0, .int 0])), (q1, .inl (E.2.1 0, 47, .inl (zF 0))), (q97, .inl (E.2.1 0, 47, .inl g119))] := hDn
  have hS := hSn
  clear hPn hDn hSn
  refine lv_dup hx hb d_M_init_387 rfl ?_
  refine lv_bipush (v := 11) hx hb d_M_init_388 (by decide) ?_
  refine lv_bipush (v := 12) hx hb d_M_init_390 (by decide) ?_
  refine va_iast (D := E.1) (x := 12) hx hb hK hP hD hS 2 0 rfl rfl (vp_in_iff.mpr (by decide)) d_M_init_392 (fun Hn locsn hPn hDn hSn => ?_)
  obtain ⟨g121, eg121⟩ : ∃ g : Nat → Int32, g = upd g119 (Int32.toNatClampNeg 11) 12 := ⟨_, rfl⟩
  have hq122 : ∀ j, j < 12 → g121 j = zF 1 j := by rw [eg121]; exact tb_s hq120 (by decide) (by decide)
  rw [← eg121] at hPn hDn
  clear eg121 hq120
  clear hP hD hS
  have hP : va_P E.1 classes [(mo, .inr (5, [.ref q1, .null, .null, .int 0, .int 0, .null, .int 0, .null, .int 0, .null, .null, .int 0, .null, .int (bI false), .int 0, .int 0, .int 0, .int 0, .int 0, .int 0, .int 0, .int 0, .long 0, .int 0, .int 0, .int 0, .int (bI false), .int 0, .int 0])), (q1, .inl (E.2.1 0, 47, .inl (zF 0))), (q97, .inl (E.2.1 0, 47, .inl g121))] Hn := hPn
  have hD : va_D A [(mo, .inr (5, [.ref q1, .null, .null, .int 0, .int 0, .null, .int 0, .null, .int 0, .null, .null, .int 0, .null, .int (bI false), .int 0, .int 0, .int 0, .int 0, .int 0, .int 0, .int 0, .int 0, .long 0, .int 0, .int 0, .int 0, .int (bI false), .int 0, .int 0])), (q1, .inl (E.2.1 0, 47, .inl (zF 0))), (q97, .inl (E.2.1 0, 47, .inl g121))] := hDn
  have hS := hSn
  clear hPn hDn hSn
  refine lv_dup hx hb d_M_init_393 rfl ?_
  refine lv_bipush (v := 12) hx hb d_M_init_394 (by decide) ?_
  refine lv_bipush (v := 13) hx hb d_M_init_396 (by decide) ?_
  refine va_iast (D := E.1) (x := 13) hx hb hK hP hD hS 2 0 rfl rfl (vp_in_iff.mpr (by decide)) d_M_init_398 (fun Hn locsn hPn hDn hSn => ?_)
  obtain ⟨g123, eg123⟩ : ∃ g : Nat → Int32, g = upd g121 (Int32.toNatClampNeg 12) 13 := ⟨_, rfl⟩
  have hq124 : ∀ j, j < 13 → g123 j = zF 1 j := by rw [eg123]; exact tb_s hq122 (by decide) (by decide)
  rw [← eg123] at hPn hDn
  clear eg123 hq122
  clear hP hD hS
  have hP : va_P E.1 classes [(mo, .inr (5, [.ref q1, .null, .null, .int 0, .int 0, .null, .int 0, .null, .int 0, .null, .null, .int 0, .null, .int (bI false), .int 0, .int 0, .int 0, .int 0, .int 0, .int 0, .int 0, .int 0, .long 0, .int 0, .int 0, .int 0, .int (bI false), .int 0, .int 0])), (q1, .inl (E.2.1 0, 47, .inl (zF 0))), (q97, .inl (E.2.1 0, 47, .inl g123))] Hn := hPn
  have hD : va_D A [(mo, .inr (5, [.ref q1, .null, .null, .int 0, .int 0, .null, .int 0, .null, .int 0, .null, .null, .int 0, .null, .int (bI false), .int 0, .int 0, .int 0, .int 0, .int 0, .int 0, .int 0, .int 0, .long 0, .int 0, .int 0, .int 0, .int (bI false), .int 0, .int 0])), (q1, .inl (E.2.1 0, 47, .inl (zF 0))), (q97, .inl (E.2.1 0, 47, .inl g123))] := hDn
  have hS := hSn
  clear hPn hDn hSn
  refine lv_dup hx hb d_M_init_399 rfl ?_
  refine lv_bipush (v := 13) hx hb d_M_init_400 (by decide) ?_
  refine lv_bipush (v := 29) hx hb d_M_init_402 (by decide) ?_
  refine va_iast (D := E.1) (x := 29) hx hb hK hP hD hS 2 0 rfl rfl (vp_in_iff.mpr (by decide)) d_M_init_404 (fun Hn locsn hPn hDn hSn => ?_)
  obtain ⟨g125, eg125⟩ : ∃ g : Nat → Int32, g = upd g123 (Int32.toNatClampNeg 13) 29 := ⟨_, rfl⟩
  have hq126 : ∀ j, j < 14 → g125 j = zF 1 j := by rw [eg125]; exact tb_s hq124 (by decide) (by decide)
  rw [← eg125] at hPn hDn
  clear eg125 hq124
  clear hP hD hS
  have hP : va_P E.1 classes [(mo, .inr (5, [.ref q1, .null, .null, .int 0, .int 0, .null, .int 0, .null, .int 0, .null, .null, .int 0, .null, .int (bI false), .int 0, .int 0, .int 0, .int 0, .int 0, .int 0, .int 0, .int 0, .long 0, .int 0, .int 0, .int 0, .int (bI false), .int 0, .int 0])), (q1, .inl (E.2.1 0, 47, .inl (zF 0))), (q97, .inl (E.2.1 0, 47, .inl g125))] Hn := hPn
  have hD : va_D A [(mo, .inr (5, [.ref q1, .null, .null, .int 0, .int 0, .null, .int 0, .null, .int 0, .null, .null, .int 0, .null, .int (bI false), .int 0, .int 0, .int 0, .int 0, .int 0, .int 0, .int 0, .int 0, .long 0, .int 0, .int 0, .int 0, .int (bI false), .int 0, .int 0])), (q1, .inl (E.2.1 0, 47, .inl (zF 0))), (q97, .inl (E.2.1 0, 47, .inl g125))] := hDn
  have hS := hSn
  clear hPn hDn hSn
  refine lv_dup hx hb d_M_init_405 rfl ?_
  refine lv_bipush (v := 14) hx hb d_M_init_406 (by decide) ?_
  refine lv_bipush (v := 15) hx hb d_M_init_408 (by decide) ?_
  refine va_iast (D := E.1) (x := 15) hx hb hK hP hD hS 2 0 rfl rfl (vp_in_iff.mpr (by decide)) d_M_init_410 (fun Hn locsn hPn hDn hSn => ?_)
  obtain ⟨g127, eg127⟩ : ∃ g : Nat → Int32, g = upd g125 (Int32.toNatClampNeg 14) 15 := ⟨_, rfl⟩
  have hq128 : ∀ j, j < 15 → g127 j = zF 1 j := by rw [eg127]; exact tb_s hq126 (by decide) (by decide)
  rw [← eg127] at hPn hDn
  clear eg127 hq126
  clear hP hD hS
  have hP : va_P E.1 classes [(mo, .inr (5, [.ref q1, .null, .null, .int 0, .int 0, .null, .int 0, .null, .int 0, .null, .null, .int 0, .null, .int (bI false), .int 0, .int 0, .int 0, .int 0, .int 0, .int 0, .int 0, .int 0, .long 0, .int 0, .int 0, .int 0, .int (bI false), .int 0, .int 0])), (q1, .inl (E.2.1 0, 47, .inl (zF 0))), (q97, .inl (E.2.1 0, 47, .inl g127))] Hn := hPn
  have hD : va_D A [(mo, .inr (5, [.ref q1, .null, .null, .int 0, .int 0, .null, .int 0, .null, .int 0, .null, .null, .int 0, .null, .int (bI false), .int 0, .int 0, .int 0, .int 0, .int 0, .int 0, .int 0, .int 0, .long 0, .int 0, .int 0, .int 0, .int (bI false), .int 0, .int 0])), (q1, .inl (E.2.1 0, 47, .inl (zF 0))), (q97, .inl (E.2.1 0, 47, .inl g127))] := hDn
  have hS := hSn
  clear hPn hDn hSn
  refine lv_dup hx hb d_M_init_411 rfl ?_
  refine lv_bipush (v := 15) hx hb d_M_init_412 (by decide) ?_
  refine lv_bipush (v := 16) hx hb d_M_init_414 (by decide) ?_
  refine va_iast (D := E.1) (x := 16) hx hb hK hP hD hS 2 0 rfl rfl (vp_in_iff.mpr (by decide)) d_M_init_416 (fun Hn locsn hPn hDn hSn => ?_)
  obtain ⟨g129, eg129⟩ : ∃ g : Nat → Int32, g = upd g127 (Int32.toNatClampNeg 15) 16 := ⟨_, rfl⟩
  have hq130 : ∀ j, j < 16 → g129 j = zF 1 j := by rw [eg129]; exact tb_s hq128 (by decide) (by decide)
  rw [← eg129] at hPn hDn
  clear eg129 hq128
  clear hP hD hS
  have hP : va_P E.1 classes [(mo, .inr (5, [.ref q1, .null, .null, .int 0, .int 0, .null, .int 0, .null, .int 0, .null, .null, .int 0, .null, .int (bI false), .int 0, .int 0, .int 0, .int 0, .int 0, .int 0, .int 0, .int 0, .long 0, .int 0, .int 0, .int 0, .int (bI false), .int 0, .int 0])), (q1, .inl (E.2.1 0, 47, .inl (zF 0))), (q97, .inl (E.2.1 0, 47, .inl g129))] Hn := hPn
  have hD : va_D A [(mo, .inr (5, [.ref q1, .null, .null, .int 0, .int 0, .null, .int 0, .null, .int 0, .null, .null, .int 0, .null, .int (bI false), .int 0, .int 0, .int 0, .int 0, .int 0, .int 0, .int 0, .int 0, .long 0, .int 0, .int 0, .int 0, .int (bI false), .int 0, .int 0])), (q1, .inl (E.2.1 0, 47, .inl (zF 0))), (q97, .inl (E.2.1 0, 47, .inl g129))] := hDn
  have hS := hSn
  clear hPn hDn hSn
  refine lv_dup hx hb d_M_init_417 rfl ?_
  refine lv_bipush (v := 16) hx hb d_M_init_418 (by decide) ?_
  refine lv_bipush (v := 17) hx hb d_M_init_420 (by decide) ?_
  refine va_iast (D := E.1) (x := 17) hx hb hK hP hD hS 2 0 rfl rfl (vp_in_iff.mpr (by decide)) d_M_init_422 (fun Hn locsn hPn hDn hSn => ?_)
  obtain ⟨g131, eg131⟩ : ∃ g : Nat → Int32, g = upd g129 (Int32.toNatClampNeg 16) 17 := ⟨_, rfl⟩
  have hq132 : ∀ j, j < 17 → g131 j = zF 1 j := by rw [eg131]; exact tb_s hq130 (by decide) (by decide)
  rw [← eg131] at hPn hDn
  clear eg131 hq130
  clear hP hD hS
  have hP : va_P E.1 classes [(mo, .inr (5, [.ref q1, .null, .null, .int 0, .int 0, .null, .int 0, .null, .int 0, .null, .null, .int 0, .null, .int (bI false), .int 0, .int 0, .int 0, .int 0, .int 0, .int 0, .int 0, .int 0, .long 0, .int 0, .int 0, .int 0, .int (bI false), .int 0, .int 0])), (q1, .inl (E.2.1 0, 47, .inl (zF 0))), (q97, .inl (E.2.1 0, 47, .inl g131))] Hn := hPn
  have hD : va_D A [(mo, .inr (5, [.ref q1, .null, .null, .int 0, .int 0, .null, .int 0, .null, .int 0, .null, .null, .int 0, .null, .int (bI false), .int 0, .int 0, .int 0, .int 0, .int 0, .int 0, .int 0, .int 0, .long 0, .int 0, .int 0, .int 0, .int (bI false), .int 0, .int 0])), (q1, .inl (E.2.1 0, 47, .inl (zF 0))), (q97, .inl (E.2.1 0, 47, .inl g131))] := hDn
  have hS := hSn
  clear hPn hDn hSn
  refine lv_dup hx hb d_M_init_423 rfl ?_
  refine lv_bipush (v := 17) hx hb d_M_init_424 (by decide) ?_
  refine lv_bipush (v := 18) hx hb d_M_init_426 (by decide) ?_
  refine va_iast (D := E.1) (x := 18) hx hb hK hP hD hS 2 0 rfl rfl (vp_in_iff.mpr (by decide)) d_M_init_428 (fun Hn locsn hPn hDn hSn => ?_)
  obtain ⟨g133, eg133⟩ : ∃ g : Nat → Int32, g = upd g131 (Int32.toNatClampNeg 17) 18 := ⟨_, rfl⟩
  have hq134 : ∀ j, j < 18 → g133 j = zF 1 j := by rw [eg133]; exact tb_s hq132 (by decide) (by decide)
  rw [← eg133] at hPn hDn
  clear eg133 hq132
  clear hP hD hS
  have hP : va_P E.1 classes [(mo, .inr (5, [.ref q1, .null, .null, .int 0, .int 0, .null, .int 0, .null, .int 0, .null, .null, .int 0, .null, .int (bI false), .int 0, .int 0, .int 0, .int 0, .int 0, .int 0, .int 0, .int 0, .long 0, .int 0, .int 0, .int 0, .int (bI false), .int 0, .int 0])), (q1, .inl (E.2.1 0, 47, .inl (zF 0))), (q97, .inl (E.2.1 0, 47, .inl g133))] Hn := hPn
  have hD : va_D A [(mo, .inr (5, [.ref q1, .null, .null, .int 0, .int 0, .null, .int 0, .null, .int 0, .null, .null, .int 0, .null, .int (bI false), .int 0, .int 0, .int 0, .int 0, .int 0, .int 0, .int 0, .int 0, .long 0, .int 0, .int 0, .int 0, .int (bI false), .int 0, .int 0])), (q1, .inl (E.2.1 0, 47, .inl (zF 0))), (q97, .inl (E.2.1 0, 47, .inl g133))] := hDn
  have hS := hSn
  clear hPn hDn hSn
  refine lv_dup hx hb d_M_init_429 rfl ?_
  refine lv_bipush (v := 18) hx hb d_M_init_430 (by decide) ?_
  refine lv_bipush (v := 19) hx hb d_M_init_432 (by decide) ?_
  refine va_iast (D := E.1) (x := 19) hx hb hK hP hD hS 2 0 rfl rfl (vp_in_iff.mpr (by decide)) d_M_init_434 (fun Hn locsn hPn hDn hSn => ?_)
  obtain ⟨g135, eg135⟩ : ∃ g : Nat → Int32, g = upd g133 (Int32.toNatClampNeg 18) 19 := ⟨_, rfl⟩
  have hq136 : ∀ j, j < 19 → g135 j = zF 1 j := by rw [eg135]; exact tb_s hq134 (by decide) (by decide)
  rw [← eg135] at hPn hDn
  clear eg135 hq134
  clear hP hD hS
  have hP : va_P E.1 classes [(mo, .inr (5, [.ref q1, .null, .null, .int 0, .int 0, .null, .int 0, .null, .int 0, .null, .null, .int 0, .null, .int (bI false), .int 0, .int 0, .int 0, .int 0, .int 0, .int 0, .int 0, .int 0, .long 0, .int 0, .int 0, .int 0, .int (bI false), .int 0, .int 0])), (q1, .inl (E.2.1 0, 47, .inl (zF 0))), (q97, .inl (E.2.1 0, 47, .inl g135))] Hn := hPn
  have hD : va_D A [(mo, .inr (5, [.ref q1, .null, .null, .int 0, .int 0, .null, .int 0, .null, .int 0, .null, .null, .int 0, .null, .int (bI false), .int 0, .int 0, .int 0, .int 0, .int 0, .int 0, .int 0, .int 0, .long 0, .int 0, .int 0, .int 0, .int (bI false), .int 0, .int 0])), (q1, .inl (E.2.1 0, 47, .inl (zF 0))), (q97, .inl (E.2.1 0, 47, .inl g135))] := hDn
  have hS := hSn
  clear hPn hDn hSn
  refine lv_dup hx hb d_M_init_435 rfl ?_
  refine lv_bipush (v := 19) hx hb d_M_init_436 (by decide) ?_
  refine lv_bipush (v := 20) hx hb d_M_init_438 (by decide) ?_
  refine va_iast (D := E.1) (x := 20) hx hb hK hP hD hS 2 0 rfl rfl (vp_in_iff.mpr (by decide)) d_M_init_440 (fun Hn locsn hPn hDn hSn => ?_)
  obtain ⟨g137, eg137⟩ : ∃ g : Nat → Int32, g = upd g135 (Int32.toNatClampNeg 19) 20 := ⟨_, rfl⟩
  have hq138 : ∀ j, j < 20 → g137 j = zF 1 j := by rw [eg137]; exact tb_s hq136 (by decide) (by decide)
  rw [← eg137] at hPn hDn
  clear eg137 hq136
  clear hP hD hS
  have hP : va_P E.1 classes [(mo, .inr (5, [.ref q1, .null, .null, .int 0, .int 0, .null, .int 0, .null, .int 0, .null, .null, .int 0, .null, .int (bI false), .int 0, .int 0, .int 0, .int 0, .int 0, .int 0, .int 0, .int 0, .long 0, .int 0, .int 0, .int 0, .int (bI false), .int 0, .int 0])), (q1, .inl (E.2.1 0, 47, .inl (zF 0))), (q97, .inl (E.2.1 0, 47, .inl g137))] Hn := hPn
  have hD : va_D A [(mo, .inr (5, [.ref q1, .null, .null, .int 0, .int 0, .null, .int 0, .null, .int 0, .null, .null, .int 0, .null, .int (bI false), .int 0, .int 0, .int 0, .int 0, .int 0, .int 0, .int 0, .int 0, .long 0, .int 0, .int 0, .int 0, .int (bI false), .int 0, .int 0])), (q1, .inl (E.2.1 0, 47, .inl (zF 0))), (q97, .inl (E.2.1 0, 47, .inl g137))] := hDn
  have hS := hSn
  clear hPn hDn hSn
  refine lv_dup hx hb d_M_init_441 rfl ?_
  refine lv_bipush (v := 20) hx hb d_M_init_442 (by decide) ?_
  refine lv_bipush (v := 21) hx hb d_M_init_444 (by decide) ?_
  refine va_iast (D := E.1) (x := 21) hx hb hK hP hD hS 2 0 rfl rfl (vp_in_iff.mpr (by decide)) d_M_init_446 (fun Hn locsn hPn hDn hSn => ?_)
  obtain ⟨g139, eg139⟩ : ∃ g : Nat → Int32, g = upd g137 (Int32.toNatClampNeg 20) 21 := ⟨_, rfl⟩
  have hq140 : ∀ j, j < 21 → g139 j = zF 1 j := by rw [eg139]; exact tb_s hq138 (by decide) (by decide)
  rw [← eg139] at hPn hDn
  clear eg139 hq138
  clear hP hD hS
  have hP : va_P E.1 classes [(mo, .inr (5, [.ref q1, .null, .null, .int 0, .int 0, .null, .int 0, .null, .int 0, .null, .null, .int 0, .null, .int (bI false), .int 0, .int 0, .int 0, .int 0, .int 0, .int 0, .int 0, .int 0, .long 0, .int 0, .int 0, .int 0, .int (bI false), .int 0, .int 0])), (q1, .inl (E.2.1 0, 47, .inl (zF 0))), (q97, .inl (E.2.1 0, 47, .inl g139))] Hn := hPn
  have hD : va_D A [(mo, .inr (5, [.ref q1, .null, .null, .int 0, .int 0, .null, .int 0, .null, .int 0, .null, .null, .int 0, .null, .int (bI false), .int 0, .int 0, .int 0, .int 0, .int 0, .int 0, .int 0, .int 0, .long 0, .int 0, .int 0, .int 0, .int (bI false), .int 0, .int 0])), (q1, .inl (E.2.1 0, 47, .inl (zF 0))), (q97, .inl (E.2.1 0, 47, .inl g139))] := hDn
  have hS := hSn
  clear hPn hDn hSn
  refine lv_dup hx hb d_M_init_447 rfl ?_
  refine lv_bipush (v := 21) hx hb d_M_init_448 (by decide) ?_
  refine lv_bipush (v := 22) hx hb d_M_init_450 (by decide) ?_
  refine va_iast (D := E.1) (x := 22) hx hb hK hP hD hS 2 0 rfl rfl (vp_in_iff.mpr (by decide)) d_M_init_452 (fun Hn locsn hPn hDn hSn => ?_)
  obtain ⟨g141, eg141⟩ : ∃ g : Nat → Int32, g = upd g139 (Int32.toNatClampNeg 21) 22 := ⟨_, rfl⟩
  have hq142 : ∀ j, j < 22 → g141 j = zF 1 j := by rw [eg141]; exact tb_s hq140 (by decide) (by decide)
  rw [← eg141] at hPn hDn
  clear eg141 hq140
  clear hP hD hS
  have hP : va_P E.1 classes [(mo, .inr (5, [.ref q1, .null, .null, .int 0, .int 0, .null, .int 0, .null, .int 0, .null, .null, .int 0, .null, .int (bI false), .int 0, .int 0, .int 0, .int 0, .int 0, .int 0, .int 0, .int 0, .long 0, .int 0, .int 0, .int 0, .int (bI false), .int 0, .int 0])), (q1, .inl (E.2.1 0, 47, .inl (zF 0))), (q97, .inl (E.2.1 0, 47, .inl g141))] Hn := hPn
  have hD : va_D A [(mo, .inr (5, [.ref q1, .null, .null, .int 0, .int 0, .null, .int 0, .null, .int 0, .null, .null, .int 0, .null, .int (bI false), .int 0, .int 0, .int 0, .int 0, .int 0, .int 0, .int 0, .int 0, .long 0, .int 0, .int 0, .int 0, .int (bI false), .int 0, .int 0])), (q1, .inl (E.2.1 0, 47, .inl (zF 0))), (q97, .inl (E.2.1 0, 47, .inl g141))] := hDn
  have hS := hSn
  clear hPn hDn hSn
  refine lv_dup hx hb d_M_init_453 rfl ?_
  refine lv_bipush (v := 22) hx hb d_M_init_454 (by decide) ?_
  refine lv_bipush (v := 23) hx hb d_M_init_456 (by decide) ?_
  refine va_iast (D := E.1) (x := 23) hx hb hK hP hD hS 2 0 rfl rfl (vp_in_iff.mpr (by decide)) d_M_init_458 (fun Hn locsn hPn hDn hSn => ?_)
  obtain ⟨g143, eg143⟩ : ∃ g : Nat → Int32, g = upd g141 (Int32.toNatClampNeg 22) 23 := ⟨_, rfl⟩
  have hq144 : ∀ j, j < 23 → g143 j = zF 1 j := by rw [eg143]; exact tb_s hq142 (by decide) (by decide)
  rw [← eg143] at hPn hDn
  clear eg143 hq142
  clear hP hD hS
  have hP : va_P E.1 classes [(mo, .inr (5, [.ref q1, .null, .null, .int 0, .int 0, .null, .int 0, .null, .int 0, .null, .null, .int 0, .null, .int (bI false), .int 0, .int 0, .int 0, .int 0, .int 0, .int 0, .int 0, .int 0, .long 0, .int 0, .int 0, .int 0, .int (bI false), .int 0, .int 0])), (q1, .inl (E.2.1 0, 47, .inl (zF 0))), (q97, .inl (E.2.1 0, 47, .inl g143))] Hn := hPn
  have hD : va_D A [(mo, .inr (5, [.ref q1, .null, .null, .int 0, .int 0, .null, .int 0, .null, .int 0, .null, .null, .int 0, .null, .int (bI false), .int 0, .int 0, .int 0, .int 0, .int 0, .int 0, .int 0, .int 0, .long 0, .int 0, .int 0, .int 0, .int (bI false), .int 0, .int 0])), (q1, .inl (E.2.1 0, 47, .inl (zF 0))), (q97, .inl (E.2.1 0, 47, .inl g143))] := hDn
  have hS := hSn
  clear hPn hDn hSn
  refine lv_dup hx hb d_M_init_459 rfl ?_
  refine lv_bipush (v := 23) hx hb d_M_init_460 (by decide) ?_
  refine lv_bipush (v := 24) hx hb d_M_init_462 (by decide) ?_
  refine va_iast (D := E.1) (x := 24) hx hb hK hP hD hS 2 0 rfl rfl (vp_in_iff.mpr (by decide)) d_M_init_464 (fun Hn locsn hPn hDn hSn => ?_)
  obtain ⟨g145, eg145⟩ : ∃ g : Nat → Int32, g = upd g143 (Int32.toNatClampNeg 23) 24 := ⟨_, rfl⟩
  have hq146 : ∀ j, j < 24 → g145 j = zF 1 j := by rw [eg145]; exact tb_s hq144 (by decide) (by decide)
  rw [← eg145] at hPn hDn
  clear eg145 hq144
  clear hP hD hS
  have hP : va_P E.1 classes [(mo, .inr (5, [.ref q1, .null, .null, .int 0, .int 0, .null, .int 0, .null, .int 0, .null, .null, .int 0, .null, .int (bI false), .int 0, .int 0, .int 0, .int 0, .int 0, .int 0, .int 0, .int 0, .long 0, .int 0, .int 0, .int 0, .int (bI false), .int 0, .int 0])), (q1, .inl (E.2.1 0, 47, .inl (zF 0))), (q97, .inl (E.2.1 0, 47, .inl g145))] Hn := hPn
  have hD : va_D A [(mo, .inr (5, [.ref q1, .null, .null, .int 0, .int 0, .null, .int 0, .null, .int 0, .null, .null, .int 0, .null, .int (bI false), .int 0, .int 0, .int 0, .int 0, .int 0, .int 0, .int 0, .int 0, .long 0, .int 0, .int 0, .int 0, .int (bI false), .int 0, .int 0])), (q1, .inl (E.2.1 0, 47, .inl (zF 0))), (q97, .inl (E.2.1 0, 47, .inl g145))] := hDn
  have hS := hSn
  clear hPn hDn hSn
  refine lv_dup hx hb d_M_init_465 rfl ?_
  refine lv_bipush (v := 24) hx hb d_M_init_466 (by decide) ?_
  refine lv_bipush (v := 25) hx hb d_M_init_468 (by decide) ?_
  refine va_iast (D := E.1) (x := 25) hx hb hK hP hD hS 2 0 rfl rfl (vp_in_iff.mpr (by decide)) d_M_init_470 (fun Hn locsn hPn hDn hSn => ?_)
  obtain ⟨g147, eg147⟩ : ∃ g : Nat → Int32, g = upd g145 (Int32.toNatClampNeg 24) 25 := ⟨_, rfl⟩
  have hq148 : ∀ j, j < 25 → g147 j = zF 1 j := by rw [eg147]; exact tb_s hq146 (by decide) (by decide)
  rw [← eg147] at hPn hDn
  clear eg147 hq146
  clear hP hD hS
  have hP : va_P E.1 classes [(mo, .inr (5, [.ref q1, .null, .null, .int 0, .int 0, .null, .int 0, .null, .int 0, .null, .null, .int 0, .null, .int (bI false), .int 0, .int 0, .int 0, .int 0, .int 0, .int 0, .int 0, .int 0, .long 0, .int 0, .int 0, .int 0, .int (bI false), .int 0, .int 0])), (q1, .inl (E.2.1 0, 47, .inl (zF 0))), (q97, .inl (E.2.1 0, 47, .inl g147))] Hn := hPn
  have hD : va_D A [(mo, .inr (5, [.ref q1, .null, .null, .int 0, .int 0, .null, .int 0, .null, .int 0, .null, .null, .int 0, .null, .int (bI false), .int 0, .int 0, .int 0, .int 0, .int 0, .int 0, .int 0, .int 0, .long 0, .int 0, .int 0, .int 0, .int (bI false), .int 0, .int 0])), (q1, .inl (E.2.1 0, 47, .inl (zF 0))), (q97, .inl (E.2.1 0, 47, .inl g147))] := hDn
  have hS := hSn
  clear hPn hDn hSn
  refine lv_dup hx hb d_M_init_471 rfl ?_
  refine lv_bipush (v := 25) hx hb d_M_init_472 (by decide) ?_
  refine lv_bipush (v := 26) hx hb d_M_init_474 (by decide) ?_
  refine va_iast (D := E.1) (x := 26) hx hb hK hP hD hS 2 0 rfl rfl (vp_in_iff.mpr (by decide)) d_M_init_476 (fun Hn locsn hPn hDn hSn => ?_)
  obtain ⟨g149, eg149⟩ : ∃ g : Nat → Int32, g = upd g147 (Int32.toNatClampNeg 25) 26 := ⟨_, rfl⟩
  have hq150 : ∀ j, j < 26 → g149 j = zF 1 j := by rw [eg149]; exact tb_s hq148 (by decide) (by decide)
  rw [← eg149] at hPn hDn
  clear eg149 hq148
  clear hP hD hS
  have hP : va_P E.1 classes [(mo, .inr (5, [.ref q1, .null, .null, .int 0, .int 0, .null, .int 0, .null, .int 0, .null, .null, .int 0, .null, .int (bI false), .int 0, .int 0, .int 0, .int 0, .int 0, .int 0, .int 0, .int 0, .long 0, .int 0, .int 0, .int 0, .int (bI false), .int 0, .int 0])), (q1, .inl (E.2.1 0, 47, .inl (zF 0))), (q97, .inl (E.2.1 0, 47, .inl g149))] Hn := hPn
  have hD : va_D A [(mo, .inr (5, [.ref q1, .null, .null, .int 0, .int 0, .null, .int 0, .null, .int 0, .null, .null, .int 0, .null, .int (bI false), .int 0, .int 0, .int 0, .int 0, .int 0, .int 0, .int 0, .int 0, .long 0, .int 0, .int 0, .int 0, .int (bI false), .int 0, .int 0])), (q1, .inl (E.2.1 0, 47, .inl (zF 0))), (q97, .inl (E.2.1 0, 47, .inl g149))] := hDn
  have hS := hSn
  clear hPn hDn hSn
  refine lv_dup hx hb d_M_init_477 rfl ?_
  refine lv_bipush (v := 26) hx hb d_M_init_478 (by decide) ?_
  refine lv_bipush (v := 27) hx hb d_M_init_480 (by decide) ?_
  refine va_iast (D := E.1) (x := 27) hx hb hK hP hD hS 2 0 rfl rfl (vp_in_iff.mpr (by decide)) d_M_init_482 (fun Hn locsn hPn hDn hSn => ?_)
  obtain ⟨g151, eg151⟩ : ∃ g : Nat → Int32, g = upd g149 (Int32.toNatClampNeg 26) 27 := ⟨_, rfl⟩
  have hq152 : ∀ j, j < 27 → g151 j = zF 1 j := by rw [eg151]; exact tb_s hq150 (by decide) (by decide)
  rw [← eg151] at hPn hDn
  clear eg151 hq150
  clear hP hD hS
  have hP : va_P E.1 classes [(mo, .inr (5, [.ref q1, .null, .null, .int 0, .int 0, .null, .int 0, .null, .int 0, .null, .null, .int 0, .null, .int (bI false), .int 0, .int 0, .int 0, .int 0, .int 0, .int 0, .int 0, .int 0, .long 0, .int 0, .int 0, .int 0, .int (bI false), .int 0, .int 0])), (q1, .inl (E.2.1 0, 47, .inl (zF 0))), (q97, .inl (E.2.1 0, 47, .inl g151))] Hn := hPn
  have hD : va_D A [(mo, .inr (5, [.ref q1, .null, .null, .int 0, .int 0, .null, .int 0, .null, .int 0, .null, .null, .int 0, .null, .int (bI false), .int 0, .int 0, .int 0, .int 0, .int 0, .int 0, .int 0, .int 0, .long 0, .int 0, .int 0, .int 0, .int (bI false), .int 0, .int 0])), (q1, .inl (E.2.1 0, 47, .inl (zF 0))), (q97, .inl (E.2.1 0, 47, .inl g151))] := hDn
  have hS := hSn
  clear hPn hDn hSn
  refine lv_dup hx hb d_M_init_483 rfl ?_
  refine lv_bipush (v := 27) hx hb d_M_init_484 (by decide) ?_
  refine lv_bipush (v := 28) hx hb d_M_init_486 (by decide) ?_
  refine va_iast (D := E.1) (x := 28) hx hb hK hP hD hS 2 0 rfl rfl (vp_in_iff.mpr (by decide)) d_M_init_488 (fun Hn locsn hPn hDn hSn => ?_)
  obtain ⟨g153, eg153⟩ : ∃ g : Nat → Int32, g = upd g151 (Int32.toNatClampNeg 27) 28 := ⟨_, rfl⟩
  have hq154 : ∀ j, j < 28 → g153 j = zF 1 j := by rw [eg153]; exact tb_s hq152 (by decide) (by decide)
  rw [← eg153] at hPn hDn
  clear eg153 hq152
  clear hP hD hS
  have hP : va_P E.1 classes [(mo, .inr (5, [.ref q1, .null, .null, .int 0, .int 0, .null, .int 0, .null, .int 0, .null, .null, .int 0, .null, .int (bI false), .int 0, .int 0, .int 0, .int 0, .int 0, .int 0, .int 0, .int 0, .long 0, .int 0, .int 0, .int 0, .int (bI false), .int 0, .int 0])), (q1, .inl (E.2.1 0, 47, .inl (zF 0))), (q97, .inl (E.2.1 0, 47, .inl g153))] Hn := hPn
  have hD : va_D A [(mo, .inr (5, [.ref q1, .null, .null, .int 0, .int 0, .null, .int 0, .null, .int 0, .null, .null, .int 0, .null, .int (bI false), .int 0, .int 0, .int 0, .int 0, .int 0, .int 0, .int 0, .int 0, .long 0, .int 0, .int 0, .int 0, .int (bI false), .int 0, .int 0])), (q1, .inl (E.2.1 0, 47, .inl (zF 0))), (q97, .inl (E.2.1 0, 47, .inl g153))] := hDn
  have hS := hSn
  clear hPn hDn hSn
  refine lv_dup hx hb d_M_init_489 rfl ?_
  refine lv_bipush (v := 28) hx hb d_M_init_490 (by decide) ?_
  refine lv_bipush (v := 29) hx hb d_M_init_492 (by decide) ?_
  refine va_iast (D := E.1) (x := 29) hx hb hK hP hD hS 2 0 rfl rfl (vp_in_iff.mpr (by decide)) d_M_init_494 (fun Hn locsn hPn hDn hSn => ?_)
  obtain ⟨g155, eg155⟩ : ∃ g : Nat → Int32, g = upd g153 (Int32.toNatClampNeg 28) 29 := ⟨_, rfl⟩
  have hq156 : ∀ j, j < 29 → g155 j = zF 1 j := by rw [eg155]; exact tb_s hq154 (by decide) (by decide)
  rw [← eg155] at hPn hDn
  clear eg155 hq154
  clear hP hD hS
  have hP : va_P E.1 classes [(mo, .inr (5, [.ref q1, .null, .null, .int 0, .int 0, .null, .int 0, .null, .int 0, .null, .null, .int 0, .null, .int (bI false), .int 0, .int 0, .int 0, .int 0, .int 0, .int 0, .int 0, .int 0, .long 0, .int 0, .int 0, .int 0, .int (bI false), .int 0, .int 0])), (q1, .inl (E.2.1 0, 47, .inl (zF 0))), (q97, .inl (E.2.1 0, 47, .inl g155))] Hn := hPn
  have hD : va_D A [(mo, .inr (5, [.ref q1, .null, .null, .int 0, .int 0, .null, .int 0, .null, .int 0, .null, .null, .int 0, .null, .int (bI false), .int 0, .int 0, .int 0, .int 0, .int 0, .int 0, .int 0, .int 0, .long 0, .int 0, .int 0, .int 0, .int (bI false), .int 0, .int 0])), (q1, .inl (E.2.1 0, 47, .inl (zF 0))), (q97, .inl (E.2.1 0, 47, .inl g155))] := hDn
  have hS := hSn
  clear hPn hDn hSn
  refine lv_dup hx hb d_M_init_495 rfl ?_
  refine lv_bipush (v := 29) hx hb d_M_init_496 (by decide) ?_
  refine lv_bipush (v := 30) hx hb d_M_init_498 (by decide) ?_
  refine va_iast (D := E.1) (x := 30) hx hb hK hP hD hS 2 0 rfl rfl (vp_in_iff.mpr (by decide)) d_M_init_500 (fun Hn locsn hPn hDn hSn => ?_)
  obtain ⟨g157, eg157⟩ : ∃ g : Nat → Int32, g = upd g155 (Int32.toNatClampNeg 29) 30 := ⟨_, rfl⟩
  have hq158 : ∀ j, j < 30 → g157 j = zF 1 j := by rw [eg157]; exact tb_s hq156 (by decide) (by decide)
  rw [← eg157] at hPn hDn
  clear eg157 hq156
  clear hP hD hS
  have hP : va_P E.1 classes [(mo, .inr (5, [.ref q1, .null, .null, .int 0, .int 0, .null, .int 0, .null, .int 0, .null, .null, .int 0, .null, .int (bI false), .int 0, .int 0, .int 0, .int 0, .int 0, .int 0, .int 0, .int 0, .long 0, .int 0, .int 0, .int 0, .int (bI false), .int 0, .int 0])), (q1, .inl (E.2.1 0, 47, .inl (zF 0))), (q97, .inl (E.2.1 0, 47, .inl g157))] Hn := hPn
  have hD : va_D A [(mo, .inr (5, [.ref q1, .null, .null, .int 0, .int 0, .null, .int 0, .null, .int 0, .null, .null, .int 0, .null, .int (bI false), .int 0, .int 0, .int 0, .int 0, .int 0, .int 0, .int 0, .int 0, .long 0, .int 0, .int 0, .int 0, .int (bI false), .int 0, .int 0])), (q1, .inl (E.2.1 0, 47, .inl (zF 0))), (q97, .inl (E.2.1 0, 47, .inl g157))] := hDn
  have hS := hSn
  clear hPn hDn hSn
  refine lv_dup hx hb d_M_init_501 rfl ?_
  refine lv_bipush (v := 30) hx hb d_M_init_502 (by decide) ?_
  refine lv_bipush (v := 31) hx hb d_M_init_504 (by decide) ?_
  refine va_iast (D := E.1) (x := 31) hx hb hK hP hD hS 2 0 rfl rfl (vp_in_iff.mpr (by decide)) d_M_init_506 (fun Hn locsn hPn hDn hSn => ?_)
  obtain ⟨g159, eg159⟩ : ∃ g : Nat → Int32, g = upd g157 (Int32.toNatClampNeg 30) 31 := ⟨_, rfl⟩
  have hq160 : ∀ j, j < 31 → g159 j = zF 1 j := by rw [eg159]; exact tb_s hq158 (by decide) (by decide)
  rw [← eg159] at hPn hDn
  clear eg159 hq158
  clear hP hD hS
  have hP : va_P E.1 classes [(mo, .inr (5, [.ref q1, .null, .null, .int 0, .int 0, .null, .int 0, .null, .int 0, .null, .null, .int 0, .null, .int (bI false), .int 0, .int 0, .int 0, .int 0, .int 0, .int 0, .int 0, .int 0, .long 0, .int 0, .int 0, .int 0, .int (bI false), .int 0, .int 0])), (q1, .inl (E.2.1 0, 47, .inl (zF 0))), (q97, .inl (E.2.1 0, 47, .inl g159))] Hn := hPn
  have hD : va_D A [(mo, .inr (5, [.ref q1, .null, .null, .int 0, .int 0, .null, .int 0, .null, .int 0, .null, .null, .int 0, .null, .int (bI false), .int 0, .int 0, .int 0, .int 0, .int 0, .int 0, .int 0, .int 0, .long 0, .int 0, .int 0, .int 0, .int (bI false), .int 0, .int 0])), (q1, .inl (E.2.1 0, 47, .inl (zF 0))), (q97, .inl (E.2.1 0, 47, .inl g159))] := hDn
  have hS := hSn
  clear hPn hDn hSn
  refine lv_dup hx hb d_M_init_507 rfl ?_
  refine lv_bipush (v := 31) hx hb d_M_init_508 (by decide) ?_
  refine lv_bipush (v := 32) hx hb d_M_init_510 (by decide) ?_
  refine va_iast (D := E.1) (x := 32) hx hb hK hP hD hS 2 0 rfl rfl (vp_in_iff.mpr (by decide)) d_M_init_512 (fun Hn locsn hPn hDn hSn => ?_)
  obtain ⟨g161, eg161⟩ : ∃ g : Nat → Int32, g = upd g159 (Int32.toNatClampNeg 31) 32 := ⟨_, rfl⟩
  have hq162 : ∀ j, j < 32 → g161 j = zF 1 j := by rw [eg161]; exact tb_s hq160 (by decide) (by decide)
  rw [← eg161] at hPn hDn
  clear eg161 hq160
  clear hP hD hS
  have hP : va_P E.1 classes [(mo, .inr (5, [.ref q1, .null, .null, .int 0, .int 0, .null, .int 0, .null, .int 0, .null, .null, .int 0, .null, .int (bI false), .int 0, .int 0, .int 0, .int 0, .int 0, .int 0, .int 0, .int 0, .long 0, .int 0, .int 0, .int 0, .int (bI false), .int 0, .int 0])), (q1, .inl (E.2.1 0, 47, .inl (zF 0))), (q97, .inl (E.2.1 0, 47, .inl g161))] Hn := hPn
  have hD : va_D A [(mo, .inr (5, [.ref q1, .null, .null, .int 0, .int 0, .null, .int 0, .null, .int 0, .null, .null, .int 0, .null, .int (bI false), .int 0, .int 0, .int 0, .int 0, .int 0, .int 0, .int 0, .int 0, .long 0, .int 0, .int 0, .int 0, .int (bI false), .int 0, .int 0])), (q1, .inl (E.2.1 0, 47, .inl (zF 0))), (q97, .inl (E.2.1 0, 47, .inl g161))] := hDn
  have hS := hSn
  clear hPn hDn hSn
  refine lv_dup hx hb d_M_init_513 rfl ?_
  refine lv_bipush (v := 32) hx hb d_M_init_514 (by decide) ?_
  refine lv_bipush (v := 33) hx hb d_M_init_516 (by decide) ?_
  refine va_iast (D := E.1) (x := 33) hx hb hK hP hD hS 2 0 rfl rfl (vp_in_iff.mpr (by decide)) d_M_init_518 (fun Hn locsn hPn hDn hSn => ?_)
  obtain ⟨g163, eg163⟩ : ∃ g : Nat → Int32, g = upd g161 (Int32.toNatClampNeg 32) 33 := ⟨_, rfl⟩
  have hq164 : ∀ j, j < 33 → g163 j = zF 1 j := by rw [eg163]; exact tb_s hq162 (by decide) (by decide)
  rw [← eg163] at hPn hDn
  clear eg163 hq162
  clear hP hD hS
  have hP : va_P E.1 classes [(mo, .inr (5, [.ref q1, .null, .null, .int 0, .int 0, .null, .int 0, .null, .int 0, .null, .null, .int 0, .null, .int (bI false), .int 0, .int 0, .int 0, .int 0, .int 0, .int 0, .int 0, .int 0, .long 0, .int 0, .int 0, .int 0, .int (bI false), .int 0, .int 0])), (q1, .inl (E.2.1 0, 47, .inl (zF 0))), (q97, .inl (E.2.1 0, 47, .inl g163))] Hn := hPn
  have hD : va_D A [(mo, .inr (5, [.ref q1, .null, .null, .int 0, .int 0, .null, .int 0, .null, .int 0, .null, .null, .int 0, .null, .int (bI false), .int 0, .int 0, .int 0, .int 0, .int 0, .int 0, .int 0, .int 0, .long 0, .int 0, .int 0, .int 0, .int (bI false), .int 0, .int 0])), (q1, .inl (E.2.1 0, 47, .inl (zF 0))), (q97, .inl (E.2.1 0, 47, .inl g163))] := hDn
  have hS := hSn
  clear hPn hDn hSn
  refine lv_dup hx hb d_M_init_519 rfl ?_
  refine lv_bipush (v := 33) hx hb d_M_init_520 (by decide) ?_
  refine lv_bipush (v := 34) hx hb d_M_init_522 (by decide) ?_
  refine va_iast (D := E.1) (x := 34) hx hb hK hP hD hS 2 0 rfl rfl (vp_in_iff.mpr (by decide)) d_M_init_524 (fun Hn locsn hPn hDn hSn => ?_)
  obtain ⟨g165, eg165⟩ : ∃ g : Nat → Int32, g = upd g163 (Int32.toNatClampNeg 33) 34 := ⟨_, rfl⟩
  have hq166 : ∀ j, j < 34 → g165 j = zF 1 j := by rw [eg165]; exact tb_s hq164 (by decide) (by decide)
  rw [← eg165] at hPn hDn
  clear eg165 hq164
  clear hP hD hS
  have hP : va_P E.1 classes [(mo, .inr (5, [.ref q1, .null, .null, .int 0, .int 0, .null, .int 0, .null, .int 0, .null, .null, .int 0, .null, .int (bI false), .int 0, .int 0, .int 0, .int 0, .int 0, .int 0, .int 0, .int 0, .long 0, .int 0, .int 0, .int 0, .int (bI false), .int 0, .int 0])), (q1, .inl (E.2.1 0, 47, .inl (zF 0))), (q97, .inl (E.2.1 0, 47, .inl g165))] Hn := hPn
  have hD : va_D A [(mo, .inr (5, [.ref q1, .null, .null, .int 0, .int 0, .null, .int 0, .null, .int 0, .null, .null, .int 0, .null, .int (bI false), .int 0, .int 0, .int 0, .int 0, .int 0, .int 0, .int 0, .int 0, .long 0, .int 0, .int 0, .int 0, .int (bI false), .int 0, .int 0])), (q1, .inl (E.2.1 0, 47, .inl (zF 0))), (q97, .inl (E.2.1 0, 47, .inl g165))] := hDn
  have hS := hSn
  clear hPn hDn hSn
  refine lv_dup hx hb d_M_init_525 rfl ?_
  refine lv_bipush (v := 34) hx hb d_M_init_526 (by decide) ?_
  refine lv_bipush (v := 35) hx hb d_M_init_528 (by decide) ?_
  refine va_iast (D := E.1) (x := 35) hx hb hK hP hD hS 2 0 rfl rfl (vp_in_iff.mpr (by decide)) d_M_init_530 (fun Hn locsn hPn hDn hSn => ?_)
  obtain ⟨g167, eg167⟩ : ∃ g : Nat → Int32, g = upd g165 (Int32.toNatClampNeg 34) 35 := ⟨_, rfl⟩
  have hq168 : ∀ j, j < 35 → g167 j = zF 1 j := by rw [eg167]; exact tb_s hq166 (by decide) (by decide)
  rw [← eg167] at hPn hDn
  clear eg167 hq166
  clear hP hD hS
  have hP : va_P E.1 classes [(mo, .inr (5, [.ref q1, .null, .null, .int 0, .int 0, .null, .int 0, .null, .int 0, .null, .null, .int 0, .null, .int (bI false), .int 0, .int 0, .int 0, .int 0, .int 0, .int 0, .int 0, .int 0, .long 0, .int 0, .int 0, .int 0, .int (bI false), .int 0, .int 0])), (q1, .inl (E.2.1 0, 47, .inl (zF 0))), (q97, .inl (E.2.1 0, 47, .inl g167))] Hn := hPn
  have hD : va_D A [(mo, .inr (5, [.ref q1, .null, .null, .int 0, .int 0, .null, .int 0, .null, .int 0, .null, .null, .int 0, .null, .int (bI false), .int 0, .int 0, .int 0, .int 0, .int 0, .int 0, .int 0, .int 0, .long 0, .int 0, .int 0, .int 0, .int (bI false), .int 0, .int 0])), (q1, .inl (E.2.1 0, 47, .inl (zF 0))), (q97, .inl (E.2.1 0, 47, .inl g167))] := hDn
  have hS := hSn
  clear hPn hDn hSn
  refine lv_dup hx hb d_M_init_531 rfl ?_
  refine lv_bipush (v := 35) hx hb d_M_init_532 (by decide) ?_
  refine lv_bipush (v := 36) hx hb d_M_init_534 (by decide) ?_
  refine va_iast (D := E.1) (x := 36) hx hb hK hP hD hS 2 0 rfl rfl (vp_in_iff.mpr (by decide)) d_M_init_536 (fun Hn locsn hPn hDn hSn => ?_)
  obtain ⟨g169, eg169⟩ : ∃ g : Nat → Int32, g = upd g167 (Int32.toNatClampNeg 35) 36 := ⟨_, rfl⟩
  have hq170 : ∀ j, j < 36 → g169 j = zF 1 j := by rw [eg169]; exact tb_s hq168 (by decide) (by decide)
  rw [← eg169] at hPn hDn
  clear eg169 hq168
  clear hP hD hS
  have hP : va_P E.1 classes [(mo, .inr (5, [.ref q1, .null, .null, .int 0, .int 0, .null, .int 0, .null, .int 0, .null, .null, .int 0, .null, .int (bI false), .int 0, .int 0, .int 0, .int 0, .int 0, .int 0, .int 0, .int 0, .long 0, .int 0, .int 0, .int 0, .int (bI false), .int 0, .int 0])), (q1, .inl (E.2.1 0, 47, .inl (zF 0))), (q97, .inl (E.2.1 0, 47, .inl g169))] Hn := hPn
  have hD : va_D A [(mo, .inr (5, [.ref q1, .null, .null, .int 0, .int 0, .null, .int 0, .null, .int 0, .null, .null, .int 0, .null, .int (bI false), .int 0, .int 0, .int 0, .int 0, .int 0, .int 0, .int 0, .int 0, .long 0, .int 0, .int 0, .int 0, .int (bI false), .int 0, .int 0])), (q1, .inl (E.2.1 0, 47, .inl (zF 0))), (q97, .inl (E.2.1 0, 47, .inl g169))] := hDn
  have hS := hSn
  clear hPn hDn hSn
  refine lv_dup hx hb d_M_init_537 rfl ?_
  refine lv_bipush (v := 36) hx hb d_M_init_538 (by decide) ?_
  refine lv_bipush (v := 37) hx hb d_M_init_540 (by decide) ?_
  refine va_iast (D := E.1) (x := 37) hx hb hK hP hD hS 2 0 rfl rfl (vp_in_iff.mpr (by decide)) d_M_init_542 (fun Hn locsn hPn hDn hSn => ?_)
  obtain ⟨g171, eg171⟩ : ∃ g : Nat → Int32, g = upd g169 (Int32.toNatClampNeg 36) 37 := ⟨_, rfl⟩
  have hq172 : ∀ j, j < 37 → g171 j = zF 1 j := by rw [eg171]; exact tb_s hq170 (by decide) (by decide)
  rw [← eg171] at hPn hDn
  clear eg171 hq170
  clear hP hD hS
  have hP : va_P E.1 classes [(mo, .inr (5, [.ref q1, .null, .null, .int 0, .int 0, .null, .int 0, .null, .int 0, .null, .null, .int 0, .null, .int (bI false), .int 0, .int 0, .int 0, .int 0, .int 0, .int 0, .int 0, .int 0, .long 0, .int 0, .int 0, .int 0, .int (bI false), .int 0, .int 0])), (q1, .inl (E.2.1 0, 47, .inl (zF 0))), (q97, .inl (E.2.1 0, 47, .inl g171))] Hn := hPn
  have hD : va_D A [(mo, .inr (5, [.ref q1, .null, .null, .int 0, .int 0, .null, .int 0, .null, .int 0, .null, .null, .int 0, .null, .int (bI false), .int 0, .int 0, .int 0, .int 0, .int 0, .int 0, .int 0, .int 0, .long 0, .int 0, .int 0, .int 0, .int (bI false), .int 0, .int 0])), (q1, .inl (E.2.1 0, 47, .inl (zF 0))), (q97, .inl (E.2.1 0, 47, .inl g171))] := hDn
  have hS := hSn
  clear hPn hDn hSn
  refine lv_dup hx hb d_M_init_543 rfl ?_
  refine lv_bipush (v := 37) hx hb d_M_init_544 (by decide) ?_
  refine lv_bipush (v := 38) hx hb d_M_init_546 (by decide) ?_
  refine va_iast (D := E.1) (x := 38) hx hb hK hP hD hS 2 0 rfl rfl (vp_in_iff.mpr (by decide)) d_M_init_548 (fun Hn locsn hPn hDn hSn => ?_)
  obtain ⟨g173, eg173⟩ : ∃ g : Nat → Int32, g = upd g171 (Int32.toNatClampNeg 37) 38 := ⟨_, rfl⟩
  have hq174 : ∀ j, j < 38 → g173 j = zF 1 j := by rw [eg173]; exact tb_s hq172 (by decide) (by decide)
  rw [← eg173] at hPn hDn
  clear eg173 hq172
  clear hP hD hS
  have hP : va_P E.1 classes [(mo, .inr (5, [.ref q1, .null, .null, .int 0, .int 0, .null, .int 0, .null, .int 0, .null, .null, .int 0, .null, .int (bI false), .int 0, .int 0, .int 0, .int 0, .int 0, .int 0, .int 0, .int 0, .long 0, .int 0, .int 0, .int 0, .int (bI false), .int 0, .int 0])), (q1, .inl (E.2.1 0, 47, .inl (zF 0))), (q97, .inl (E.2.1 0, 47, .inl g173))] Hn := hPn
  have hD : va_D A [(mo, .inr (5, [.ref q1, .null, .null, .int 0, .int 0, .null, .int 0, .null, .int 0, .null, .null, .int 0, .null, .int (bI false), .int 0, .int 0, .int 0, .int 0, .int 0, .int 0, .int 0, .int 0, .long 0, .int 0, .int 0, .int 0, .int (bI false), .int 0, .int 0])), (q1, .inl (E.2.1 0, 47, .inl (zF 0))), (q97, .inl (E.2.1 0, 47, .inl g173))] := hDn
  have hS := hSn
  clear hPn hDn hSn
  refine lv_dup hx hb d_M_init_549 rfl ?_
  refine lv_bipush (v := 38) hx hb d_M_init_550 (by decide) ?_
  refine lv_bipush (v := 39) hx hb d_M_init_552 (by decide) ?_
  refine va_iast (D := E.1) (x := 39) hx hb hK hP hD hS 2 0 rfl rfl (vp_in_iff.mpr (by decide)) d_M_init_554 (fun Hn locsn hPn hDn hSn => ?_)
  obtain ⟨g175, eg175⟩ : ∃ g : Nat → Int32, g = upd g173 (Int32.toNatClampNeg 38) 39 := ⟨_, rfl⟩
  have hq176 : ∀ j, j < 39 → g175 j = zF 1 j := by rw [eg175]; exact tb_s hq174 (by decide) (by decide)
  rw [← eg175] at hPn hDn
  clear eg175 hq174
  clear hP hD hS
  have hP : va_P E.1 classes [(mo, .inr (5, [.ref q1, .null, .null, .int 0, .int 0, .null, .int 0, .null, .int 0, .null, .null, .int 0, .null, .int (bI false), .int 0, .int 0, .int 0, .int 0, .int 0, .int 0, .int 0, .int 0, .long 0, .int 0, .int 0, .int 0, .int (bI false), .int 0, .int 0])), (q1, .inl (E.2.1 0, 47, .inl (zF 0))), (q97, .inl (E.2.1 0, 47, .inl g175))] Hn := hPn
  have hD : va_D A [(mo, .inr (5, [.ref q1, .null, .null, .int 0, .int 0, .null, .int 0, .null, .int 0, .null, .null, .int 0, .null, .int (bI false), .int 0, .int 0, .int 0, .int 0, .int 0, .int 0, .int 0, .int 0, .long 0, .int 0, .int 0, .int 0, .int (bI false), .int 0, .int 0])), (q1, .inl (E.2.1 0, 47, .inl (zF 0))), (q97, .inl (E.2.1 0, 47, .inl g175))] := hDn
  have hS := hSn
  clear hPn hDn hSn
  refine lv_dup hx hb d_M_init_555 rfl ?_
  refine lv_bipush (v := 39) hx hb d_M_init_556 (by decide) ?_
  refine lv_bipush (v := 40) hx hb d_M_init_558 (by decide) ?_
  refine va_iast (D := E.1) (x := 40) hx hb hK hP hD hS 2 0 rfl rfl (vp_in_iff.mpr (by decide)) d_M_init_560 (fun Hn locsn hPn hDn hSn => ?_)
  obtain ⟨g177, eg177⟩ : ∃ g : Nat → Int32, g = upd g175 (Int32.toNatClampNeg 39) 40 := ⟨_, rfl⟩
  have hq178 : ∀ j, j < 40 → g177 j = zF 1 j := by rw [eg177]; exact tb_s hq176 (by decide) (by decide)
  rw [← eg177] at hPn hDn
  clear eg177 hq176
  clear hP hD hS
  have hP : va_P E.1 classes [(mo, .inr (5, [.ref q1, .null, .null, .int 0, .int 0, .null, .int 0, .null, .int 0, .null, .null, .int 0, .null, .int (bI false), .int 0, .int 0, .int 0, .int 0, .int 0, .int 0, .int 0, .int 0, .long 0, .int 0, .int 0, .int 0, .int (bI false), .int 0, .int 0])), (q1, .inl (E.2.1 0, 47, .inl (zF 0))), (q97, .inl (E.2.1 0, 47, .inl g177))] Hn := hPn
  have hD : va_D A [(mo, .inr (5, [.ref q1, .null, .null, .int 0, .int 0, .null, .int 0, .null, .int 0, .null, .null, .int 0, .null, .int (bI false), .int 0, .int 0, .int 0, .int 0, .int 0, .int 0, .int 0, .int 0, .long 0, .int 0, .int 0, .int 0, .int (bI false), .int 0, .int 0])), (q1, .inl (E.2.1 0, 47, .inl (zF 0))), (q97, .inl (E.2.1 0, 47, .inl g177))] := hDn
  have hS := hSn
  clear hPn hDn hSn
  refine lv_dup hx hb d_M_init_561 rfl ?_
  refine lv_bipush (v := 40) hx hb d_M_init_562 (by decide) ?_
  refine lv_bipush (v := 41) hx hb d_M_init_564 (by decide) ?_
  refine va_iast (D := E.1) (x := 41) hx hb hK hP hD hS 2 0 rfl rfl (vp_in_iff.mpr (by decide)) d_M_init_566 (fun Hn locsn hPn hDn hSn => ?_)
  obtain ⟨g179, eg179⟩ : ∃ g : Nat → Int32, g = upd g177 (Int32.toNatClampNeg 40) 41 := ⟨_, rfl⟩
  have hq180 : ∀ j, j < 41 → g179 j = zF 1 j := by rw [eg179]; exact tb_s hq178 (by decide) (by decide)
  rw [← eg179] at hPn hDn
  clear eg179 hq178
  clear hP hD hS
  have hP : va_P E.1 classes [(mo, .inr (5, [.ref q1, .null, .null, .int 0, .int 0, .null, .int 0, .null, .int 0, .null, .null, .int 0, .null, .int (bI false), .int 0, .int 0, .int 0, .int 0, .int 0, .int 0, .int 0, .int 0, .long 0, .int 0, .int 0, .int 0, .int (bI false), .int 0, .int 0])), (q1, .inl (E.2.1 0, 47, .inl (zF 0))), (q97, .inl (E.2.1 0, 47, .inl g179))] Hn := hPn
  have hD : va_D A [(mo, .inr (5, [.ref q1, .null, .null, .int 0, .int 0, .null, .int 0, .null, .int 0, .null, .null, .int 0, .null, .int (bI false), .int 0, .int 0, .int 0, .int 0, .int 0, .int 0, .int 0, .int 0, .long 0, .int 0, .int 0, .int 0, .int (bI false), .int 0, .int 0])), (q1, .inl (E.2.1 0, 47, .inl (zF 0))), (q97, .inl (E.2.1 0, 47, .inl g179))] := hDn
  have hS := hSn
  clear hPn hDn hSn
  refine lv_dup hx hb d_M_init_567 rfl ?_
  refine lv_bipush (v := 41) hx hb d_M_init_568 (by decide) ?_
  refine lv_bipush (v := 42) hx hb d_M_init_570 (by decide) ?_
  refine va_iast (D := E.1) (x := 42) hx hb hK hP hD hS 2 0 rfl rfl (vp_in_iff.mpr (by decide)) d_M_init_572 (fun Hn locsn hPn hDn hSn => ?_)
  obtain ⟨g181, eg181⟩ : ∃ g : Nat → Int32, g = upd g179 (Int32.toNatClampNeg 41) 42 := ⟨_, rfl⟩
  have hq182 : ∀ j, j < 42 → g181 j = zF 1 j := by rw [eg181]; exact tb_s hq180 (by decide) (by decide)
  rw [← eg181] at hPn hDn
  clear eg181 hq180
  clear hP hD hS
  have hP : va_P E.1 classes [(mo, .inr (5, [.ref q1, .null, .null, .int 0, .int 0, .null, .int 0, .null, .int 0, .null, .null, .int 0, .null, .int (bI false), .int 0, .int 0, .int 0, .int 0, .int 0, .int 0, .int 0, .int 0, .long 0, .int 0, .int 0, .int 0, .int (bI false), .int 0, .int 0])), (q1, .inl (E.2.1 0, 47, .inl (zF 0))), (q97, .inl (E.2.1 0, 47, .inl g181))] Hn := hPn
  have hD : va_D A [(mo, .inr (5, [.ref q1, .null, .null, .int 0, .int 0, .null, .int 0, .null, .int 0, .null, .null, .int 0, .null, .int (bI false), .int 0, .int 0, .int 0, .int 0, .int 0, .int 0, .int 0, .int 0, .long 0, .int 0, .int 0, .int 0, .int (bI false), .int 0, .int 0])), (q1, .inl (E.2.1 0, 47, .inl (zF 0))), (q97, .inl (E.2.1 0, 47, .inl g181))] := hDn
  have hS := hSn
  clear hPn hDn hSn
  refine lv_dup hx hb d_M_init_573 rfl ?_
  refine lv_bipush (v := 42) hx hb d_M_init_574 (by decide) ?_
  refine lv_bipush (v := 43) hx hb d_M_init_576 (by decide) ?_
  refine va_iast (D := E.1) (x := 43) hx hb hK hP hD hS 2 0 rfl rfl (vp_in_iff.mpr (by decide)) d_M_init_578 (fun Hn locsn hPn hDn hSn => ?_)
  obtain ⟨g183, eg183⟩ : ∃ g : Nat → Int32, g = upd g181 (Int32.toNatClampNeg 42) 43 := ⟨_, rfl⟩
  have hq184 : ∀ j, j < 43 → g183 j = zF 1 j := by rw [eg183]; exact tb_s hq182 (by decide) (by decide)
  rw [← eg183] at hPn hDn
  clear eg183 hq182
  clear hP hD hS
  have hP : va_P E.1 classes [(mo, .inr (5, [.ref q1, .null, .null, .int 0, .int 0, .null, .int 0, .null, .int 0, .null, .null, .int 0, .null, .int (bI false), .int 0, .int 0, .int 0, .int 0, .int 0, .int 0, .int 0, .int 0, .long 0, .int 0, .int 0, .int 0, .int (bI false), .int 0, .int 0])), (q1, .inl (E.2.1 0, 47, .inl (zF 0))), (q97, .inl (E.2.1 0, 47, .inl g183))] Hn := hPn
  have hD : va_D A [(mo, .inr (5, [.ref q1, .null, .null, .int 0, .int 0, .null, .int 0, .null, .int 0, .null, .null, .int 0, .null, .int (bI false), .int 0, .int 0, .int 0, .int 0, .int 0, .int 0, .int 0, .int 0, .long 0, .int 0, .int 0, .int 0, .int (bI false), .int 0, .int 0])), (q1, .inl (E.2.1 0, 47, .inl (zF 0))), (q97, .inl (E.2.1 0, 47, .inl g183))] := hDn
  have hS := hSn
  clear hPn hDn hSn
  refine lv_dup hx hb d_M_init_579 rfl ?_
  refine lv_bipush (v := 43) hx hb d_M_init_580 (by decide) ?_
  refine lv_bipush (v := 44) hx hb d_M_init_582 (by decide) ?_
  refine va_iast (D := E.1) (x := 44) hx hb hK hP hD hS 2 0 rfl rfl (vp_in_iff.mpr (by decide)) d_M_init_584 (fun Hn locsn hPn hDn hSn => ?_)
  obtain ⟨g185, eg185⟩ : ∃ g : Nat → Int32, g = upd g183 (Int32.toNatClampNeg 43) 44 := ⟨_, rfl⟩
  have hq186 : ∀ j, j < 44 → g185 j = zF 1 j := by rw [eg185]; exact tb_s hq184 (by decide) (by decide)
  rw [← eg185] at hPn hDn
  clear eg185 hq184
  clear hP hD hS
  have hP : va_P E.1 classes [(mo, .inr (5, [.ref q1, .null, .null, .int 0, .int 0, .null, .int 0, .null, .int 0, .null, .null, .int 0, .null, .int (bI false), .int 0, .int 0, .int 0, .int 0, .int 0, .int 0, .int 0, .int 0, .long 0, .int 0, .int 0, .int 0, .int (bI false), .int 0, .int 0])), (q1, .inl (E.2.1 0, 47, .inl (zF 0))), (q97, .inl (E.2.1 0, 47, .inl g185))] Hn := hPn
  have hD : va_D A [(mo, .inr (5, [.ref q1, .null, .null, .int 0, .int 0, .null, .int 0, .null, .int 0, .null, .null, .int 0, .null, .int (bI false), .int 0, .int 0, .int 0, .int 0, .int 0, .int 0, .int 0, .int 0, .long 0, .int 0, .int 0, .int 0, .int (bI false), .int 0, .int 0])), (q1, .inl (E.2.1 0, 47, .inl (zF 0))), (q97, .inl (E.2.1 0, 47, .inl g185))] := hDn
  have hS := hSn
  clear hPn hDn hSn
  refine lv_dup hx hb d_M_init_585 rfl ?_
  refine lv_bipush (v := 44) hx hb d_M_init_586 (by decide) ?_
  refine lv_bipush (v := 45) hx hb d_M_init_588 (by decide) ?_
  refine va_iast (D := E.1) (x := 45) hx hb hK hP hD hS 2 0 rfl rfl (vp_in_iff.mpr (by decide)) d_M_init_590 (fun Hn locsn hPn hDn hSn => ?_)
  obtain ⟨g187, eg187⟩ : ∃ g : Nat → Int32, g = upd g185 (Int32.toNatClampNeg 44) 45 := ⟨_, rfl⟩
  have hq188 : ∀ j, j < 45 → g187 j = zF 1 j := by rw [eg187]; exact tb_s hq186 (by decide) (by decide)
  rw [← eg187] at hPn hDn
  clear eg187 hq186
  clear hP hD hS
  have hP : va_P E.1 classes [(mo, .inr (5, [.ref q1, .null, .null, .int 0, .int 0, .null, .int 0, .null, .int 0, .null, .null, .int 0, .null, .int (bI false), .int 0, .int 0, .int 0, .int 0, .int 0, .int 0, .int 0, .int 0, .long 0, .int 0, .int 0, .int 0, .int (bI false), .int 0, .int 0])), (q1, .inl (E.2.1 0, 47, .inl (zF 0))), (q97, .inl (E.2.1 0, 47, .inl g187))] Hn := hPn
  have hD : va_D A [(mo, .inr (5, [.ref q1, .null, .null, .int 0, .int 0, .null, .int 0, .null, .int 0, .null, .null, .int 0, .null, .int (bI false), .int 0, .int 0, .int 0, .int 0, .int 0, .int 0, .int 0, .int 0, .long 0, .int 0, .int 0, .int 0, .int (bI false), .int 0, .int 0])), (q1, .inl (E.2.1 0, 47, .inl (zF 0))), (q97, .inl (E.2.1 0, 47, .inl g187))] := hDn
  have hS := hSn
  clear hPn hDn hSn
  refine lv_dup hx hb d_M_init_591 rfl ?_
  refine lv_bipush (v := 45) hx hb d_M_init_592 (by decide) ?_
  refine lv_bipush (v := 45) hx hb d_M_init_594 (by decide) ?_
  refine va_iast (D := E.1) (x := 45) hx hb hK hP hD hS 2 0 rfl rfl (vp_in_iff.mpr (by decide)) d_M_init_596 (fun Hn locsn hPn hDn hSn => ?_)
  obtain ⟨g189, eg189⟩ : ∃ g : Nat → Int32, g = upd g187 (Int32.toNatClampNeg 45) 45 := ⟨_, rfl⟩
  have hq190 : ∀ j, j < 46 → g189 j = zF 1 j := by rw [eg189]; exact tb_s hq188 (by decide) (by decide)
  rw [← eg189] at hPn hDn
  clear eg189 hq188
  clear hP hD hS
  have hP : va_P E.1 classes [(mo, .inr (5, [.ref q1, .null, .null, .int 0, .int 0, .null, .int 0, .null, .int 0, .null, .null, .int 0, .null, .int (bI false), .int 0, .int 0, .int 0, .int 0, .int 0, .int 0, .int 0, .int 0, .long 0, .int 0, .int 0, .int 0, .int (bI false), .int 0, .int 0])), (q1, .inl (E.2.1 0, 47, .inl (zF 0))), (q97, .inl (E.2.1 0, 47, .inl g189))] Hn := hPn
  have hD : va_D A [(mo, .inr (5, [.ref q1, .null, .null, .int 0, .int 0, .null, .int 0, .null, .int 0, .null, .null, .int 0, .null, .int (bI false), .int 0, .int 0, .int 0, .int 0, .int 0, .int 0, .int 0, .int 0, .long 0, .int 0, .int 0, .int 0, .int (bI false), .int 0, .int 0])), (q1, .inl (E.2.1 0, 47, .inl (zF 0))), (q97, .inl (E.2.1 0, 47, .inl g189))] := hDn
  have hS := hSn
  clear hPn hDn hSn
  refine lv_dup hx hb d_M_init_597 rfl ?_
  refine lv_bipush (v := 46) hx hb d_M_init_598 (by decide) ?_
  refine lv_bipush (v := 46) hx hb d_M_init_600 (by decide) ?_
  refine va_iast (D := E.1) (x := 46) hx hb hK hP hD hS 2 0 rfl rfl (vp_in_iff.mpr (by decide)) d_M_init_602 (fun Hn locsn hPn hDn hSn => ?_)
  obtain ⟨g191, eg191⟩ : ∃ g : Nat → Int32, g = upd g189 (Int32.toNatClampNeg 46) 46 := ⟨_, rfl⟩
  have hq192 : ∀ j, j < 47 → g191 j = zF 1 j := by rw [eg191]; exact tb_s hq190 (by decide) (by decide)
  rw [← eg191] at hPn hDn
  clear eg191 hq190
  clear hP hD hS
  have hP : va_P E.1 classes [(mo, .inr (5, [.ref q1, .null, .null, .int 0, .int 0, .null, .int 0, .null, .int 0, .null, .null, .int 0, .null, .int (bI false), .int 0, .int 0, .int 0, .int 0, .int 0, .int 0, .int 0, .int 0, .long 0, .int 0, .int 0, .int 0, .int (bI false), .int 0, .int 0])), (q1, .inl (E.2.1 0, 47, .inl (zF 0))), (q97, .inl (E.2.1 0, 47, .inl g191))] Hn := hPn
  have hD : va_D A [(mo, .inr (5, [.ref q1, .null, .null, .int 0, .int 0, .null, .int 0, .null, .int 0, .null, .null, .int 0, .null, .int (bI false), .int 0, .int 0, .int 0, .int 0, .int 0, .int 0, .int 0, .int 0, .long 0, .int 0, .int 0, .int 0, .int (bI false), .int 0, .int 0])), (q1, .inl (E.2.1 0, 47, .inl (zF 0))), (q97, .inl (E.2.1 0, 47, .inl g191))] := hDn
  have hS := hSn
  clear hPn hDn hSn
  refine va_putF (D := E.1) (ci := 5) (v := .ref q97) (ty := (.array .int)) (C := R_M) (T := T_M) (N := 29) hx hb hts in_M t_M t_M_ok n_M hown hK hP hD hS 0 rfl rfl 1 (by decide) (hts _ m_611) (fun _ h9 => h9) rfl hin rfl (by decide +kernel) rfl rfl (Nat.le_of_ble_eq_true rfl) d_M_init_603 (fun Hn locsn hPn hDn hSn => ?_)
  clear hP hD hS
  have hP : va_P E.1 classes [(mo, .inr (5, [.ref q1, .ref q97, .null, .int 0, .int 0, .null, .int 0, .null, .int 0, .null, .null, .int 0, .null, .int (bI false), .int 0, .int 0, .int 0, .int 0, .int 0, .int 0, .int 0, .int 0, .long 0, .int 0, .int 0, .int 0, .int (bI false), .int 0, .int 0])), (q1, .inl (E.2.1 0, 47, .inl (zF 0))), (q97, .inl (E.2.1 0, 47, .inl g191))] Hn := hPn
  have hD : va_D A [(mo, .inr (5, [.ref q1, .ref q97, .null, .int 0, .int 0, .null, .int 0, .null, .int 0, .null, .null, .int 0, .null, .int (bI false), .int 0, .int 0, .int 0, .int 0, .int 0, .int 0, .int 0, .int 0, .long 0, .int 0, .int 0, .int 0, .int (bI false), .int 0, .int 0])), (q1, .inl (E.2.1 0, 47, .inl (zF 0))), (q97, .inl (E.2.1 0, 47, .inl g191))] := hDn
  have hS := hSn
  clear hPn hDn hSn
  have hPn := ar_ext hP (k := 2) rfl hq192
  have hDn := ar_extD (e2 := .inl (E.2.1 0, 47, .inl (zF 1))) hD (k := 2) rfl
  have hSn := hS
  clear hq192
  clear hP hD hS
  have hP : va_P E.1 classes [(mo, .inr (5, [.ref q1, .ref q97, .null, .int 0, .int 0, .null, .int 0, .null, .int 0, .null, .null, .int 0, .null, .int (bI false), .int 0, .int 0, .int 0, .int 0, .int 0, .int 0, .int 0, .int 0, .long 0, .int 0, .int 0, .int 0, .int (bI false), .int 0, .int 0])), (q1, .inl (E.2.1 0, 47, .inl (zF 0))), (q97, .inl (E.2.1 0, 47, .inl (zF 1)))] _ := hPn
  have hD : va_D A [(mo, .inr (5, [.ref q1, .ref q97, .null, .int 0, .int 0, .null, .int 0, .null, .int 0, .null, .null, .int 0, .null, .int (bI false), .int 0, .int 0, .int 0, .int 0, .int 0, .int 0, .int 0, .int 0, .long 0, .int 0, .int 0, .int 0, .int (bI false), .int 0, .int 0])), (q1, .inl (E.2.1 0, 47, .inl (zF 0))), (q97, .inl (E.2.1 0, 47, .inl (zF 1)))] := hDn
  have hS := hSn
  clear hPn hDn hSn
  refine lv_aload_n hx hb d_M_init_606 rfl (lv_at hl 0 rfl) ?_
  refine lv_bipush (v := 47) hx hb d_M_init_607 (by decide) ?_
  refine ar_newI (N := 47) hx hb hts hP hD hS hA hK (by decide) rfl (by show 47 * 4 ≤ 536870912; omega) (Nat.le_of_ble_eq_true rfl) (by show 94 + 47 ≤ 654821; omega) d_M_init_609 (fun q193 Hn hPn hDn hSn => ?_)
  clear hP hD hS
  have hP : va_P E.1 classes [(mo, .inr (5, [.ref q1, .ref q97, .null, .int 0, .int 0, .null, .int 0, .null, .int 0, .null, .null, .int 0, .null, .int (bI false), .int 0, .int 0, .int 0, .int 0, .int 0, .int 0, .int 0, .int 0, .long 0, .int 0, .int 0, .int 0, .int (bI false), .int 0, .int 0])), (q1, .inl (E.2.1 0, 47, .inl (zF 0))), (q97, .inl (E.2.1 0, 47, .inl (zF 1))), (q193, .inl (E.2.1 0, 47, .inl (fun _ => 0)))] Hn := hPn
  have hD : va_D A [(mo, .inr (5, [.ref q1, .ref q97, .null, .int 0, .int 0, .null, .int 0, .null, .int 0, .null, .null, .int 0, .null, .int (bI false), .int 0, .int 0, .int 0, .int 0, .int 0, .int 0, .int 0, .int 0, .long 0, .int 0, .int 0, .int 0, .int (bI false), .int 0, .int 0])), (q1, .inl (E.2.1 0, 47, .inl (zF 0))), (q97, .inl (E.2.1 0, 47, .inl (zF 1))), (q193, .inl (E.2.1 0, 47, .inl (fun _ => 0)))] := hDn
  have hS := hSn
  clear hPn hDn hSn
  refine W.widen (k := 3) (n := 141) (by omega) (by omega) ?_
  have hq194 : ∀ j, j < 0 → (fun _ : Nat => (0 : Int32)) j = zF 2 j := fun j hj => absurd hj (Nat.not_lt_zero j)
  refine lv_dup hx hb d_M_init_611 rfl ?_
  refine lv_iconst (v := 0) hx hb d_M_init_612 (by decide) ?_
  refine lv_iconst (v := 1) hx hb d_M_init_613 (by decide) ?_
  refine va_iast (D := E.1) (x := 1) hx hb hK hP hD hS 3 0 rfl rfl (vp_in_iff.mpr (by decide)) d_M_init_614 (fun Hn locsn hPn hDn hSn => ?_)
  obtain ⟨g195, eg195⟩ : ∃ g : Nat → Int32, g = upd (fun _ => 0) (Int32.toNatClampNeg 0) 1 := ⟨_, rfl⟩
  have hq196 : ∀ j, j < 1 → g195 j = zF 2 j := by rw [eg195]; exact tb_s hq194 (by decide) (by decide)
  rw [← eg195] at hPn hDn
  clear eg195 hq194
  clear hP hD hS
  have hP : va_P E.1 classes [(mo, .inr (5, [.ref q1, .ref q97, .null, .int 0, .int 0, .null, .int 0, .null, .int 0, .null, .null, .int 0, .null, .int (bI false), .int 0, .int 0, .int 0, .int 0, .int 0, .int 0, .int 0, .int 0, .long 0, .int 0, .int 0, .int 0, .int (bI false), .int 0, .int 0])), (q1, .inl (E.2.1 0, 47, .inl (zF 0))), (q97, .inl (E.2.1 0, 47, .inl (zF 1))), (q193, .inl (E.2.1 0, 47, .inl g195))] Hn := hPn
  have hD : va_D A [(mo, .inr (5, [.ref q1, .ref q97, .null, .int 0, .int 0, .null, .int 0, .null, .int 0, .null, .null, .int 0, .null, .int (bI false), .int 0, .int 0, .int 0, .int 0, .int 0, .int 0, .int 0, .int 0, .long 0, .int 0, .int 0, .int 0, .int (bI false), .int 0, .int 0])), (q1, .inl (E.2.1 0, 47, .inl (zF 0))), (q97, .inl (E.2.1 0, 47, .inl (zF 1))), (q193, .inl (E.2.1 0, 47, .inl g195))] := hDn
  have hS := hSn
  clear hPn hDn hSn
  refine lv_dup hx hb d_M_init_615 rfl ?_
  refine lv_iconst (v := 1) hx hb d_M_init_616 (by decide) ?_
  refine lv_bipush (v := 6) hx hb d_M_init_617 (by decide) ?_
  refine va_iast (D := E.1) (x := 6) hx hb hK hP hD hS 3 0 rfl rfl (vp_in_iff.mpr (by decide)) d_M_init_619 (fun Hn locsn hPn hDn hSn => ?_)
  obtain ⟨g197, eg197⟩ : ∃ g : Nat → Int32, g = upd g195 (Int32.toNatClampNeg 1) 6 := ⟨_, rfl⟩
  have hq198 : ∀ j, j < 2 → g197 j = zF 2 j := by rw [eg197]; exact tb_s hq196 (by decide) (by decide)
  rw [← eg197] at hPn hDn
  clear eg197 hq196
  clear hP hD hS
  have hP : va_P E.1 classes [(mo, .inr (5, [.ref q1, .ref q97, .null, .int 0, .int 0, .null, .int 0, .null, .int 0, .null, .null, .int 0, .null, .int (bI false), .int 0, .int 0, .int 0, .int 0, .int 0, .int 0, .int 0, .int 0, .long 0, .int 0, .int 0, .int 0, .int (bI false), .int 0, .int 0])), (q1, .inl (E.2.1 0, 47, .inl (zF 0))), (q97, .inl (E.2.1 0, 47, .inl (zF 1))), (q193, .inl (E.2.1 0, 47, .inl g197))] Hn := hPn
  have hD : va_D A [(mo, .inr (5, [.ref q1, .ref q97, .null, .int 0, .int 0, .null, .int 0, .null, .int 0, .null, .null, .int 0, .null, .int (bI false), .int 0, .int 0, .int 0, .int 0, .int 0, .int 0, .int 0, .int 0, .long 0, .int 0, .int 0, .int 0, .int (bI false), .int 0, .int 0])), (q1, .inl (E.2.1 0, 47, .inl (zF 0))), (q97, .inl (E.2.1 0, 47, .inl (zF 1))), (q193, .inl (E.2.1 0, 47, .inl g197))] := hDn
  have hS := hSn
  clear hPn hDn hSn
  refine lv_dup hx hb d_M_init_620 rfl ?_
  refine lv_iconst (v := 2) hx hb d_M_init_621 (by decide) ?_
  refine lv_bipush (v := 9) hx hb d_M_init_622 (by decide) ?_
  refine va_iast (D := E.1) (x := 9) hx hb hK hP hD hS 3 0 rfl rfl (vp_in_iff.mpr (by decide)) d_M_init_624 (fun Hn locsn hPn hDn hSn => ?_)
  obtain ⟨g199, eg199⟩ : ∃ g : Nat → Int32, g = upd g197 (Int32.toNatClampNeg 2) 9 := ⟨_, rfl⟩
  have hq200 : ∀ j, j < 3 → g199 j = zF 2 j := by rw [eg199]; exact tb_s hq198 (by decide) (by decide)
  rw [← eg199] at hPn hDn
  clear eg199 hq198
  clear hP hD hS
  have hP : va_P E.1 classes [(mo, .inr (5, [.ref q1, .ref q97, .null, .int 0, .int 0, .null, .int 0, .null, .int 0, .null, .null, .int 0, .null, .int (bI false), .int 0, .int 0, .int 0, .int 0, .int 0, .int 0, .int 0, .int 0, .long 0, .int 0, .int 0, .int 0, .int (bI false), .int 0, .int 0])), (q1, .inl (E.2.1 0, 47, .inl (zF 0))), (q97, .inl (E.2.1 0, 47, .inl (zF 1))), (q193, .inl (E.2.1 0, 47, .inl g199))] Hn := hPn
  have hD : va_D A [(mo, .inr (5, [.ref q1, .ref q97, .null, .int 0, .int 0, .null, .int 0, .null, .int 0, .null, .null, .int 0, .null, .int (bI false), .int 0, .int 0, .int 0, .int 0, .int 0, .int 0, .int 0, .int 0, .long 0, .int 0, .int 0, .int 0, .int (bI false), .int 0, .int 0])), (q1, .inl (E.2.1 0, 47, .inl (zF 0))), (q97, .inl (E.2.1 0, 47, .inl (zF 1))), (q193, .inl (E.2.1 0, 47, .inl g199))] := hDn
  have hS := hSn
  clear hPn hDn hSn
  refine lv_dup hx hb d_M_init_625 rfl ?_
  refine lv_iconst (v := 3) hx hb d_M_init_626 (by decide) ?_
  refine lv_bipush (v := 12) hx hb d_M_init_627 (by decide) ?_
  refine va_iast (D := E.1) (x := 12) hx hb hK hP hD hS 3 0 rfl rfl (vp_in_iff.mpr (by decide)) d_M_init_629 (fun Hn locsn hPn hDn hSn => ?_)
  obtain ⟨g201, eg201⟩ : ∃ g : Nat → Int32, g = upd g199 (Int32.toNatClampNeg 3) 12 := ⟨_, rfl⟩
  have hq202 : ∀ j, j < 4 → g201 j = zF 2 j := by rw [eg201]; exact tb_s hq200 (by decide) (by decide)
  rw [← eg201] at hPn hDn
  clear eg201 hq200
  clear hP hD hS
  have hP : va_P E.1 classes [(mo, .inr (5, [.ref q1, .ref q97, .null, .int 0, .int 0, .null, .int 0, .null, .int 0, .null, .null, .int 0, .null, .int (bI false), .int 0, .int 0, .int 0, .int 0, .int 0, .int 0, .int 0, .int 0, .long 0, .int 0, .int 0, .int 0, .int (bI false), .int 0, .int 0])), (q1, .inl (E.2.1 0, 47, .inl (zF 0))), (q97, .inl (E.2.1 0, 47, .inl (zF 1))), (q193, .inl (E.2.1 0, 47, .inl g201))] Hn := hPn
  have hD : va_D A [(mo, .inr (5, [.ref q1, .ref q97, .null, .int 0, .int 0, .null, .int 0, .null, .int 0, .null, .null, .int 0, .null, .int (bI false), .int 0, .int 0, .int 0, .int 0, .int 0, .int 0, .int 0, .int 0, .long 0, .int 0, .int 0, .int 0, .int (bI false), .int 0, .int 0])), (q1, .inl (E.2.1 0, 47, .inl (zF 0))), (q97, .inl (E.2.1 0, 47, .inl (zF 1))), (q193, .inl (E.2.1 0, 47, .inl g201))] := hDn
  have hS := hSn
  clear hPn hDn hSn
  refine lv_dup hx hb d_M_init_630 rfl ?_
  refine lv_iconst (v := 4) hx hb d_M_init_631 (by decide) ?_
  refine lv_bipush (v := 29) hx hb d_M_init_632 (by decide) ?_
  refine va_iast (D := E.1) (x := 29) hx hb hK hP hD hS 3 0 rfl rfl (vp_in_iff.mpr (by decide)) d_M_init_634 (fun Hn locsn hPn hDn hSn => ?_)
  obtain ⟨g203, eg203⟩ : ∃ g : Nat → Int32, g = upd g201 (Int32.toNatClampNeg 4) 29 := ⟨_, rfl⟩
  have hq204 : ∀ j, j < 5 → g203 j = zF 2 j := by rw [eg203]; exact tb_s hq202 (by decide) (by decide)
  rw [← eg203] at hPn hDn
  clear eg203 hq202
  clear hP hD hS
  have hP : va_P E.1 classes [(mo, .inr (5, [.ref q1, .ref q97, .null, .int 0, .int 0, .null, .int 0, .null, .int 0, .null, .null, .int 0, .null, .int (bI false), .int 0, .int 0, .int 0, .int 0, .int 0, .int 0, .int 0, .int 0, .long 0, .int 0, .int 0, .int 0, .int (bI false), .int 0, .int 0])), (q1, .inl (E.2.1 0, 47, .inl (zF 0))), (q97, .inl (E.2.1 0, 47, .inl (zF 1))), (q193, .inl (E.2.1 0, 47, .inl g203))] Hn := hPn
  have hD : va_D A [(mo, .inr (5, [.ref q1, .ref q97, .null, .int 0, .int 0, .null, .int 0, .null, .int 0, .null, .null, .int 0, .null, .int (bI false), .int 0, .int 0, .int 0, .int 0, .int 0, .int 0, .int 0, .int 0, .long 0, .int 0, .int 0, .int 0, .int (bI false), .int 0, .int 0])), (q1, .inl (E.2.1 0, 47, .inl (zF 0))), (q97, .inl (E.2.1 0, 47, .inl (zF 1))), (q193, .inl (E.2.1 0, 47, .inl g203))] := hDn
  have hS := hSn
  clear hPn hDn hSn
  refine lv_dup hx hb d_M_init_635 rfl ?_
  refine lv_iconst (v := 5) hx hb d_M_init_636 (by decide) ?_
  refine lv_bipush (v := 33) hx hb d_M_init_637 (by decide) ?_
  refine va_iast (D := E.1) (x := 33) hx hb hK hP hD hS 3 0 rfl rfl (vp_in_iff.mpr (by decide)) d_M_init_639 (fun Hn locsn hPn hDn hSn => ?_)
  obtain ⟨g205, eg205⟩ : ∃ g : Nat → Int32, g = upd g203 (Int32.toNatClampNeg 5) 33 := ⟨_, rfl⟩
  have hq206 : ∀ j, j < 6 → g205 j = zF 2 j := by rw [eg205]; exact tb_s hq204 (by decide) (by decide)
  rw [← eg205] at hPn hDn
  clear eg205 hq204
  clear hP hD hS
  have hP : va_P E.1 classes [(mo, .inr (5, [.ref q1, .ref q97, .null, .int 0, .int 0, .null, .int 0, .null, .int 0, .null, .null, .int 0, .null, .int (bI false), .int 0, .int 0, .int 0, .int 0, .int 0, .int 0, .int 0, .int 0, .long 0, .int 0, .int 0, .int 0, .int (bI false), .int 0, .int 0])), (q1, .inl (E.2.1 0, 47, .inl (zF 0))), (q97, .inl (E.2.1 0, 47, .inl (zF 1))), (q193, .inl (E.2.1 0, 47, .inl g205))] Hn := hPn
  have hD : va_D A [(mo, .inr (5, [.ref q1, .ref q97, .null, .int 0, .int 0, .null, .int 0, .null, .int 0, .null, .null, .int 0, .null, .int (bI false), .int 0, .int 0, .int 0, .int 0, .int 0, .int 0, .int 0, .int 0, .long 0, .int 0, .int 0, .int 0, .int (bI false), .int 0, .int 0])), (q1, .inl (E.2.1 0, 47, .inl (zF 0))), (q97, .inl (E.2.1 0, 47, .inl (zF 1))), (q193, .inl (E.2.1 0, 47, .inl g205))] := hDn
  have hS := hSn
  clear hPn hDn hSn
  refine lv_dup hx hb d_M_init_640 rfl ?_
  refine lv_bipush (v := 6) hx hb d_M_init_641 (by decide) ?_
  refine lv_bipush (v := 6) hx hb d_M_init_643 (by decide) ?_
  refine va_iast (D := E.1) (x := 6) hx hb hK hP hD hS 3 0 rfl rfl (vp_in_iff.mpr (by decide)) d_M_init_645 (fun Hn locsn hPn hDn hSn => ?_)
  obtain ⟨g207, eg207⟩ : ∃ g : Nat → Int32, g = upd g205 (Int32.toNatClampNeg 6) 6 := ⟨_, rfl⟩
  have hq208 : ∀ j, j < 7 → g207 j = zF 2 j := by rw [eg207]; exact tb_s hq206 (by decide) (by decide)
  rw [← eg207] at hPn hDn
  clear eg207 hq206
  clear hP hD hS
  have hP : va_P E.1 classes [(mo, .inr (5, [.ref q1, .ref q97, .null, .int 0, .int 0, .null, .int 0, .null, .int 0, .null, .null, .int 0, .null, .int (bI false), .int 0, .int 0, .int 0, .int 0, .int 0, .int 0, .int 0, .int 0, .long 0, .int 0, .int 0, .int 0, .int (bI false), .int 0, .int 0])), (q1, .inl (E.2.1 0, 47, .inl (zF 0))), (q97, .inl (E.2.1 0, 47, .inl (zF 1))), (q193, .inl (E.2.1 0, 47, .inl g207))] Hn := hPn
  have hD : va_D A [(mo, .inr (5, [.ref q1, .ref q97, .null, .int 0, .int 0, .null, .int 0, .null, .int 0, .null, .null, .int 0, .null, .int (bI false), .int 0, .int 0, .int 0, .int 0, .int 0, .int 0, .int 0, .int 0, .long 0, .int 0, .int 0, .int 0, .int (bI false), .int 0, .int 0])), (q1, .inl (E.2.1 0, 47, .inl (zF 0))), (q97, .inl (E.2.1 0, 47, .inl (zF 1))), (q193, .inl (E.2.1 0, 47, .inl g207))] := hDn
  have hS := hSn
  clear hPn hDn hSn
  refine lv_dup hx hb d_M_init_646 rfl ?_
  refine lv_bipush (v := 7) hx hb d_M_init_647 (by decide) ?_
  refine lv_bipush (v := 14) hx hb d_M_init_649 (by decide) ?_
  refine va_iast (D := E.1) (x := 14) hx hb hK hP hD hS 3 0 rfl rfl (vp_in_iff.mpr (by decide)) d_M_init_651 (fun Hn locsn hPn hDn hSn => ?_)
  obtain ⟨g209, eg209⟩ : ∃ g : Nat → Int32, g = upd g207 (Int32.toNatClampNeg 7) 14 := ⟨_, rfl⟩
  have hq210 : ∀ j, j < 8 → g209 j = zF 2 j := by rw [eg209]; exact tb_s hq208 (by decide) (by decide)
  rw [← eg209] at hPn hDn
  clear eg209 hq208
  clear hP hD hS
  have hP : va_P E.1 classes [(mo, .inr (5, [.ref q1, .ref q97, .null, .int 0, .int 0, .null, .int 0, .null, .int 0, .null, .null, .int 0, .null, .int (bI false), .int 0, .int 0, .int 0, .int 0, .int 0, .int 0, .int 0, .int 0, .long 0, .int 0, .int 0, .int 0, .int (bI false), .int 0, .int 0])), (q1, .inl (E.2.1 0, 47, .inl (zF 0))), (q97, .inl (E.2.1 0, 47, .inl (zF 1))), (q193, .inl (E.2.1 0, 47, .inl g209))] Hn := hPn
  have hD : va_D A [(mo, .inr (5, [.ref q1, .ref q97, .null, .int 0, .int 0, .null, .int 0, .null, .int 0, .null, .null, .int 0, .null, .int (bI false), .int 0, .int 0, .int 0, .int 0, .int 0, .int 0, .int 0, .int 0, .long 0, .int 0, .int 0, .int 0, .int (bI false), .int 0, .int 0])), (q1, .inl (E.2.1 0, 47, .inl (zF 0))), (q97, .inl (E.2.1 0, 47, .inl (zF 1))), (q193, .inl (E.2.1 0, 47, .inl g209))] := hDn
  have hS := hSn
  clear hPn hDn hSn
  refine lv_dup hx hb d_M_init_652 rfl ?_
  refine lv_bipush (v := 8) hx hb d_M_init_653 (by decide) ?_
  refine lv_bipush (v := 14) hx hb d_M_init_655 (by decide) ?_
  refine va_iast (D := E.1) (x := 14) hx hb hK hP hD hS 3 0 rfl rfl (vp_in_iff.mpr (by decide)) d_M_init_657 (fun Hn locsn hPn hDn hSn => ?_)
  obtain ⟨g211, eg211⟩ : ∃ g : Nat → Int32, g = upd g209 (Int32.toNatClampNeg 8) 14 := ⟨_, rfl⟩
  have hq212 : ∀ j, j < 9 → g211 j = zF 2 j := by rw [eg211]; exact tb_s hq210 (by decide) (by decide)
  rw [← eg211] at hPn hDn
  clear eg211 hq210
  clear hP hD hS
  have hP : va_P E.1 classes [(mo, .inr (5, [.ref q1, .ref q97, .null, .int 0, .int 0, .null, .int 0, .null, .int 0, .null, .null, .int 0, .null, .int (bI false), .int 0, .int 0, .int 0, .int 0, .int 0, .int 0, .int 0, .int 0, .long 0, .int 0, .int 0, .int 0, .int (bI false), .int 0, .int 0])), (q1, .inl (E.2.1 0, 47, .inl (zF 0))), (q97, .inl (E.2.1 0, 47, .inl (zF 1))), (q193, .inl (E.2.1 0, 47, .inl g211))] Hn := hPn
  have hD : va_D A [(mo, .inr (5, [.ref q1, .ref q97, .null, .int 0, .int 0, .null, .int 0, .null, .int 0, .null, .null, .int 0, .null, .int (bI false), .int 0, .int 0, .int 0, .int 0, .int 0, .int 0, .int 0, .int 0, .long 0, .int 0, .int 0, .int 0, .int (bI false), .int 0, .int 0])), (q1, .inl (E.2.1 0, 47, .inl (zF 0))), (q97, .inl (E.2.1 0, 47, .inl (zF 1))), (q193, .inl (E.2.1 0, 47, .inl g211))] := hDn
  have hS := hSn
  clear hPn hDn hSn
  refine lv_dup hx hb d_M_init_658 rfl ?_
  refine lv_bipush (v := 9) hx hb d_M_init_659 (by decide) ?_
  refine lv_bipush (v := 14) hx hb d_M_init_661 (by decide) ?_
  refine va_iast (D := E.1) (x := 14) hx hb hK hP hD hS 3 0 rfl rfl (vp_in_iff.mpr (by decide)) d_M_init_663 (fun Hn locsn hPn hDn hSn => ?_)
  obtain ⟨g213, eg213⟩ : ∃ g : Nat → Int32, g = upd g211 (Int32.toNatClampNeg 9) 14 := ⟨_, rfl⟩
  have hq214 : ∀ j, j < 10 → g213 j = zF 2 j := by rw [eg213]; exact tb_s hq212 (by decide) (by decide)
  rw [← eg213] at hPn hDn
  clear eg213 hq212
  clear hP hD hS
  have hP : va_P E.1 classes [(mo, .inr (5, [.ref q1, .ref q97, .null, .int 0, .int 0, .null, .int 0, .null, .int 0, .null, .null, .int 0, .null, .int (bI false), .int 0, .int 0, .int 0, .int 0, .int 0, .int 0, .int 0, .int 0, .long 0, .int 0, .int 0, .int 0, .int (bI false), .int 0, .int 0])), (q1, .inl (E.2.1 0, 47, .inl (zF 0))), (q97, .inl (E.2.1 0, 47, .inl (zF 1))), (q193, .inl (E.2.1 0, 47, .inl g213))] Hn := hPn
  have hD : va_D A [(mo, .inr (5, [.ref q1, .ref q97, .null, .int 0, .int 0, .null, .int 0, .null, .int 0, .null, .null, .int 0, .null, .int (bI false), .int 0, .int 0, .int 0, .int 0, .int 0, .int 0, .int 0, .int 0, .long 0, .int 0, .int 0, .int 0, .int (bI false), .int 0, .int 0])), (q1, .inl (E.2.1 0, 47, .inl (zF 0))), (q97, .inl (E.2.1 0, 47, .inl (zF 1))), (q193, .inl (E.2.1 0, 47, .inl g213))] := hDn
  have hS := hSn
  clear hPn hDn hSn
  refine lv_dup hx hb d_M_init_664 rfl ?_
  refine lv_bipush (v := 10) hx hb d_M_init_665 (by decide) ?_
  refine lv_bipush (v := 17) hx hb d_M_init_667 (by decide) ?_
  refine va_iast (D := E.1) (x := 17) hx hb hK hP hD hS 3 0 rfl rfl (vp_in_iff.mpr (by decide)) d_M_init_669 (fun Hn locsn hPn hDn hSn => ?_)
  obtain ⟨g215, eg215⟩ : ∃ g : Nat → Int32, g = upd g213 (Int32.toNatClampNeg 10) 17 := ⟨_, rfl⟩
  have hq216 : ∀ j, j < 11 → g215 j = zF 2 j := by rw [eg215]; exact tb_s hq214 (by decide) (by decide)
  rw [← eg215] at hPn hDn
  clear eg215 hq214
  clear hP hD hS
  have hP : va_P E.1 classes [(mo, .inr (5, [.ref q1, .ref q97, .null, .int 0, .int 0, .null, .int 0, .null, .int 0, .null, .null, .int 0, .null, .int (bI false), .int 0, .int 0, .int 0, .int 0, .int 0, .int 0, .int 0, .int 0, .long 0, .int 0, .int 0, .int 0, .int (bI false), .int 0, .int 0])), (q1, .inl (E.2.1 0, 47, .inl (zF 0))), (q97, .inl (E.2.1 0, 47, .inl (zF 1))), (q193, .inl (E.2.1 0, 47, .inl g215))] Hn := hPn
  have hD : va_D A [(mo, .inr (5, [.ref q1, .ref q97, .null, .int 0, .int 0, .null, .int 0, .null, .int 0, .null, .null, .int 0, .null, .int (bI false), .int 0, .int 0, .int 0, .int 0, .int 0, .int 0, .int 0, .int 0, .long 0, .int 0, .int 0, .int 0, .int (bI false), .int 0, .int 0])), (q1, .inl (E.2.1 0, 47, .inl (zF 0))), (q97, .inl (E.2.1 0, 47, .inl (zF 1))), (q193, .inl (E.2.1 0, 47, .inl g215))] := hDn
  have hS := hSn
  clear hPn hDn hSn
  refine lv_dup hx hb d_M_init_670 rfl ?_
  refine lv_bipush (v := 11) hx hb d_M_init_671 (by decide) ?_
  refine lv_bipush (v := 18) hx hb d_M_init_673 (by decide) ?_
  refine va_iast (D := E.1) (x := 18) hx hb hK hP hD hS 3 0 rfl rfl (vp_in_iff.mpr (by decide)) d_M_init_675 (fun Hn locsn hPn hDn hSn => ?_)
  obtain ⟨g217, eg217⟩ : ∃ g : Nat → Int32, g = upd g215 (Int32.toNatClampNeg 11) 18 := ⟨_, rfl⟩
  have hq218 : ∀ j, j < 12 → g217 j = zF 2 j := by rw [eg217]; exact tb_s hq216 (by decide) (by decide)
  rw [← eg217] at hPn hDn
  clear eg217 hq216
  clear hP hD hS
  have hP : va_P E.1 classes [(mo, .inr (5, [.ref q1, .ref q97, .null, .int 0, .int 0, .null, .int 0, .null, .int 0, .null, .null, .int 0, .null, .int (bI false), .int 0, .int 0, .int 0, .int 0, .int 0, .int 0, .int 0, .int 0, .long 0, .int 0, .int 0, .int 0, .int (bI false), .int 0, .int 0])), (q1, .inl (E.2.1 0, 47, .inl (zF 0))), (q97, .inl (E.2.1 0, 47, .inl (zF 1))), (q193, .inl (E.2.1 0, 47, .inl g217))] Hn := hPn
  have hD : va_D A [(mo, .inr (5, [.ref q1, .ref q97, .null, .int 0, .int 0, .null, .int 0, .null, .int 0, .null, .null, .int 0, .null, .int (bI false), .int 0, .int 0, .int 0, .int 0, .int 0, .int 0, .int 0, .int 0, .long 0, .int 0, .int 0, .int 0, .int (bI false), .int 0, .int 0])), (q1, .inl (E.2.1 0, 47, .inl (zF 0))), (q97, .inl (E.2.1 0, 47, .inl (zF 1))), (q193, .inl (E.2.1 0, 47, .inl g217))] := hDn
  have hS := hSn
  clear hPn hDn hSn
  refine lv_dup hx hb d_M_init_676 rfl ?_
  refine lv_bipush (v := 12) hx hb d_M_init_677 (by decide) ?_
  refine lv_bipush (v := 20) hx hb d_M_init_679 (by decide) ?_
  refine va_iast (D := E.1) (x := 20) hx hb hK hP hD hS 3 0 rfl rfl (vp_in_iff.mpr (by decide)) d_M_init_681 (fun Hn locsn hPn hDn hSn => ?_)
  obtain ⟨g219, eg219⟩ : ∃ g : Nat → Int32, g = upd g217 (Int32.toNatClampNeg 12) 20 := ⟨_, rfl⟩
  have hq220 : ∀ j, j < 13 → g219 j = zF 2 j := by rw [eg219]; exact tb_s hq218 (by decide) (by decide)
  rw [← eg219] at hPn hDn
  clear eg219 hq218
  clear hP hD hS
  have hP : va_P E.1 classes [(mo, .inr (5, [.ref q1, .ref q97, .null, .int 0, .int 0, .null, .int 0, .null, .int 0, .null, .null, .int 0, .null, .int (bI false), .int 0, .int 0, .int 0, .int 0, .int 0, .int 0, .int 0, .int 0, .long 0, .int 0, .int 0, .int 0, .int (bI false), .int 0, .int 0])), (q1, .inl (E.2.1 0, 47, .inl (zF 0))), (q97, .inl (E.2.1 0, 47, .inl (zF 1))), (q193, .inl (E.2.1 0, 47, .inl g219))] Hn := hPn
  have hD : va_D A [(mo, .inr (5, [.ref q1, .ref q97, .null, .int 0, .int 0, .null, .int 0, .null, .int 0, .null, .null, .int 0, .null, .int (bI false), .int 0, .int 0, .int 0, .int 0, .int 0, .int 0, .int 0, .int 0, .long 0, .int 0, .int 0, .int 0, .int (bI false), .int 0, .int 0])), (q1, .inl (E.2.1 0, 47, .inl (zF 0))), (q97, .inl (E.2.1 0, 47, .inl (zF 1))), (q193, .inl (E.2.1 0, 47, .inl g219))] := hDn
  have hS := hSn
  clear hPn hDn hSn
  refine lv_dup hx hb d_M_init_682 rfl ?_
  refine lv_bipush (v := 13) hx hb d_M_init_683 (by decide) ?_
  refine lv_bipush (v := 21) hx hb d_M_init_685 (by decide) ?_
  refine va_iast (D := E.1) (x := 21) hx hb hK hP hD hS 3 0 rfl rfl (vp_in_iff.mpr (by decide)) d_M_init_687 (fun Hn locsn hPn hDn hSn => ?_)
  obtain ⟨g221, eg221⟩ : ∃ g : Nat → Int32, g = upd g219 (Int32.toNatClampNeg 13) 21 := ⟨_, rfl⟩
  have hq222 : ∀ j, j < 14 → g221 j = zF 2 j := by rw [eg221]; exact tb_s hq220 (by decide) (by decide)
  rw [← eg221] at hPn hDn
  clear eg221 hq220
  clear hP hD hS
  have hP : va_P E.1 classes [(mo, .inr (5, [.ref q1, .ref q97, .null, .int 0, .int 0, .null, .int 0, .null, .int 0, .null, .null, .int 0, .null, .int (bI false), .int 0, .int 0, .int 0, .int 0, .int 0, .int 0, .int 0, .int 0, .long 0, .int 0, .int 0, .int 0, .int (bI false), .int 0, .int 0])), (q1, .inl (E.2.1 0, 47, .inl (zF 0))), (q97, .inl (E.2.1 0, 47, .inl (zF 1))), (q193, .inl (E.2.1 0, 47, .inl g221))] Hn := hPn
  have hD : va_D A [(mo, .inr (5, [.ref q1, .ref q97, .null, .int 0, .int 0, .null, .int 0, .null, .int 0, .null, .null, .int 0, .null, .int (bI false), .int 0, .int 0, .int 0, .int 0, .int 0, .int 0, .int 0, .int 0, .long 0, .int 0, .int 0, .int 0, .int (bI false), .int 0, .int 0])), (q1, .inl (E.2.1 0, 47, .inl (zF 0))), (q97, .inl (E.2.1 0, 47, .inl (zF 1))), (q193, .inl (E.2.1 0, 47, .inl g221))] := hDn
  have hS := hSn
  clear hPn hDn hSn
  refine lv_dup hx hb d_M_init_688 rfl ?_
  refine lv_bipush (v := 14) hx hb d_M_init_689 (by decide) ?_
  refine lv_bipush (v := 14) hx hb d_M_init_691 (by decide) ?_
  refine va_iast (D := E.1) (x := 14) hx hb hK hP hD hS 3 0 rfl rfl (vp_in_iff.mpr (by decide)) d_M_init_693 (fun Hn locsn hPn hDn hSn => ?_)
  obtain ⟨g223, eg223⟩ : ∃ g : Nat → Int32, g = upd g221 (Int32.toNatClampNeg 14) 14 := ⟨_, rfl⟩
  have hq224 : ∀ j, j < 15 → g223 j = zF 2 j := by rw [eg223]; exact tb_s hq222 (by decide) (by decide)
  rw [← eg223] at hPn hDn
  clear eg223 hq222
  clear hP hD hS
  have hP : va_P E.1 classes [(mo, .inr (5, [.ref q1, .ref q97, .null, .int 0, .int 0, .null, .int 0, .null, .int 0, .null, .null, .int 0, .null, .int (bI false), .int 0, .int 0, .int 0, .int 0, .int 0, .int 0, .int 0, .int 0, .long 0, .int 0, .int 0, .int 0, .int (bI false), .int 0, .int 0])), (q1, .inl (E.2.1 0, 47, .inl (zF 0))), (q97, .inl (E.2.1 0, 47, .inl (zF 1))), (q193, .inl (E.2.1 0, 47, .inl g223))] Hn := hPn
  have hD : va_D A [(mo, .inr (5, [.ref q1, .ref q97, .null, .int 0, .int 0, .null, .int 0, .null, .int 0, .null, .null, .int 0, .null, .int (bI false), .int 0, .int 0, .int 0, .int 0, .int 0, .int 0, .int 0, .int 0, .long 0, .int 0, .int 0, .int 0, .int (bI false), .int 0, .int 0])), (q1, .inl (E.2.1 0, 47, .inl (zF 0))), (q97, .inl (E.2.1 0, 47, .inl (zF 1))), (q193, .inl (E.2.1 0, 47, .inl g223))] := hDn
  have hS := hSn
  clear hPn hDn hSn
  refine lv_dup hx hb d_M_init_694 rfl ?_
  refine lv_bipush (v := 15) hx hb d_M_init_695 (by decide) ?_
  refine lv_bipush (v := 14) hx hb d_M_init_697 (by decide) ?_
  refine va_iast (D := E.1) (x := 14) hx hb hK hP hD hS 3 0 rfl rfl (vp_in_iff.mpr (by decide)) d_M_init_699 (fun Hn locsn hPn hDn hSn => ?_)
  obtain ⟨g225, eg225⟩ : ∃ g : Nat → Int32, g = upd g223 (Int32.toNatClampNeg 15) 14 := ⟨_, rfl⟩
  have hq226 : ∀ j, j < 16 → g225 j = zF 2 j := by rw [eg225]; exact tb_s hq224 (by decide) (by decide)
  rw [← eg225] at hPn hDn
  clear eg225 hq224
  clear hP hD hS
  have hP : va_P E.1 classes [(mo, .inr (5, [.ref q1, .ref q97, .null, .int 0, .int 0, .null, .int 0, .null, .int 0, .null, .null, .int 0, .null, .int (bI false), .int 0, .int 0, .int 0, .int 0, .int 0, .int 0, .int 0, .int 0, .long 0, .int 0, .int 0, .int 0, .int (bI false), .int 0, .int 0])), (q1, .inl (E.2.1 0, 47, .inl (zF 0))), (q97, .inl (E.2.1 0, 47, .inl (zF 1))), (q193, .inl (E.2.1 0, 47, .inl g225))] Hn := hPn
  have hD : va_D A [(mo, .inr (5, [.ref q1, .ref q97, .null, .int 0, .int 0, .null, .int 0, .null, .int 0, .null, .null, .int 0, .null, .int (bI false), .int 0, .int 0, .int 0, .int 0, .int 0, .int 0, .int 0, .int 0, .long 0, .int 0, .int 0, .int 0, .int (bI false), .int 0, .int 0])), (q1, .inl (E.2.1 0, 47, .inl (zF 0))), (q97, .inl (E.2.1 0, 47, .inl (zF 1))), (q193, .inl (E.2.1 0, 47, .inl g225))] := hDn
  have hS := hSn
  clear hPn hDn hSn
  refine lv_dup hx hb d_M_init_700 rfl ?_
  refine lv_bipush (v := 16) hx hb d_M_init_701 (by decide) ?_
  refine lv_bipush (v := 15) hx hb d_M_init_703 (by decide) ?_
  refine va_iast (D := E.1) (x := 15) hx hb hK hP hD hS 3 0 rfl rfl (vp_in_iff.mpr (by decide)) d_M_init_705 (fun Hn locsn hPn hDn hSn => ?_)
  obtain ⟨g227, eg227⟩ : ∃ g : Nat → Int32, g = upd g225 (Int32.toNatClampNeg 16) 15 := ⟨_, rfl⟩
  have hq228 : ∀ j, j < 17 → g227 j = zF 2 j := by rw [eg227]; exact tb_s hq226 (by decide) (by decide)
  rw [← eg227] at hPn hDn
  clear eg227 hq226
  clear hP hD hS
  have hP : va_P E.1 classes [(mo, .inr (5, [.ref q1, .ref q97, .null, .int 0, .int 0, .null, .int 0, .null, .int 0, .null, .null, .int 0, .null, .int (bI false), .int 0, .int 0, .int 0, .int 0, .int 0, .int 0, .int 0, .int 0, .long 0, .int 0, .int 0, .int 0, .int (bI false), .int 0, .int 0])), (q1, .inl (E.2.1 0, 47, .inl (zF 0))), (q97, .inl (E.2.1 0, 47, .inl (zF 1))), (q193, .inl (E.2.1 0, 47, .inl g227))] Hn := hPn
  have hD : va_D A [(mo, .inr (5, [.ref q1, .ref q97, .null, .int 0, .int 0, .null, .int 0, .null, .int 0, .null, .null, .int 0, .null, .int (bI false), .int 0, .int 0, .int 0, .int 0, .int 0, .int 0, .int 0, .int 0, .long 0, .int 0, .int 0, .int 0, .int (bI false), .int 0, .int 0])), (q1, .inl (E.2.1 0, 47, .inl (zF 0))), (q97, .inl (E.2.1 0, 47, .inl (zF 1))), (q193, .inl (E.2.1 0, 47, .inl g227))] := hDn
  have hS := hSn
  clear hPn hDn hSn
  refine lv_dup hx hb d_M_init_706 rfl ?_
  refine lv_bipush (v := 17) hx hb d_M_init_707 (by decide) ?_
  refine lv_bipush (v := 16) hx hb d_M_init_709 (by decide) ?_
  refine va_iast (D := E.1) (x := 16) hx hb hK hP hD hS 3 0 rfl rfl (vp_in_iff.mpr (by decide)) d_M_init_711 (fun Hn locsn hPn hDn hSn => ?_)
  obtain ⟨g229, eg229⟩ : ∃ g : Nat → Int32, g = upd g227 (Int32.toNatClampNeg 17) 16 := ⟨_, rfl⟩
  have hq230 : ∀ j, j < 18 → g229 j = zF 2 j := by rw [eg229]; exact tb_s hq228 (by decide) (by decide)
  rw [← eg229] at hPn hDn
  clear eg229 hq228
  clear hP hD hS
  have hP : va_P E.1 classes [(mo, .inr (5, [.ref q1, .ref q97, .null, .int 0, .int 0, .null, .int 0, .null, .int 0, .null, .null, .int 0, .null, .int (bI false), .int 0, .int 0, .int 0, .int 0, .int 0, .int 0, .int 0, .int 0, .long 0, .int 0, .int 0, .int 0, .int (bI false), .int 0, .int 0])), (q1, .inl (E.2.1 0, 47, .inl (zF 0))), (q97, .inl (E.2.1 0, 47, .inl (zF 1))), (q193, .inl (E.2.1 0, 47, .inl g229))] Hn := hPn
  have hD : va_D A [(mo, .inr (5, [.ref q1, .ref q97, .null, .int 0, .int 0, .null, .int 0, .null, .int 0, .null, .null, .int 0, .null, .int (bI false), .int 0, .int 0, .int 0, .int 0, .int 0, .int 0, .int 0, .int 0, .long 0, .int 0, .int 0, .int 0, .int (bI false), .int 0, .int 0])), (q1, .inl (E.2.1 0, 47, .inl (zF 0))), (q97, .inl (E.2.1 0, 47, .inl (zF 1))), (q193, .inl (E.2.1 0, 47, .inl g229))] := hDn
  have hS := hSn
  clear hPn hDn hSn
  refine lv_dup hx hb d_M_init_712 rfl ?_
  refine lv_bipush (v := 18) hx hb d_M_init_713 (by decide) ?_
  refine lv_bipush (v := 17) hx hb d_M_init_715 (by decide) ?_
  refine va_iast (D := E.1) (x := 17) hx hb hK hP hD hS 3 0 rfl rfl (vp_in_iff.mpr (by decide)) d_M_init_717 (fun Hn locsn hPn hDn hSn => ?_)
  obtain ⟨g231, eg231⟩ : ∃ g : Nat → Int32, g = upd g229 (Int32.toNatClampNeg 18) 17 := ⟨_, rfl⟩
  have hq232 : ∀ j, j < 19 → g231 j = zF 2 j := by rw [eg231]; exact tb_s hq230 (by decide) (by decide)
  rw [← eg231] at hPn hDn
  clear eg231 hq230
  clear hP hD hS
  have hP : va_P E.1 classes [(mo, .inr (5, [.ref q1, .ref q97, .null, .int 0, .int 0, .null, .int 0, .null, .int 0, .null, .null, .int 0, .null, .int (bI false), .int 0, .int 0, .int 0, .int 0, .int 0, .int 0, .int 0, .int 0, .long 0, .int 0, .int 0, .int 0, .int (bI false), .int 0, .int 0])), (q1, .inl (E.2.1 0, 47, .inl (zF 0))), (q97, .inl (E.2.1 0, 47, .inl (zF 1))), (q193, .inl (E.2.1 0, 47, .inl g231))] Hn := hPn
  have hD : va_D A [(mo, .inr (5, [.ref q1, .ref q97, .null, .int 0, .int 0, .null, .int 0, .null, .int 0, .null, .null, .int 0, .null, .int (bI false), .int 0, .int 0, .int 0, .int 0, .int 0, .int 0, .int 0, .int 0, .long 0, .int 0, .int 0, .int 0, .int (bI false), .int 0, .int 0])), (q1, .inl (E.2.1 0, 47, .inl (zF 0))), (q97, .inl (E.2.1 0, 47, .inl (zF 1))), (q193, .inl (E.2.1 0, 47, .inl g231))] := hDn
  have hS := hSn
  clear hPn hDn hSn
  refine lv_dup hx hb d_M_init_718 rfl ?_
  refine lv_bipush (v := 19) hx hb d_M_init_719 (by decide) ?_
  refine lv_bipush (v := 18) hx hb d_M_init_721 (by decide) ?_
  refine va_iast (D := E.1) (x := 18) hx hb hK hP hD hS 3 0 rfl rfl (vp_in_iff.mpr (by decide)) d_M_init_723 (fun Hn locsn hPn hDn hSn => ?_)
  obtain ⟨g233, eg233⟩ : ∃ g : Nat → Int32, g = upd g231 (Int32.toNatClampNeg 19) 18 := ⟨_, rfl⟩
  have hq234 : ∀ j, j < 20 → g233 j = zF 2 j := by rw [eg233]; exact tb_s hq232 (by decide) (by decide)
  rw [← eg233] at hPn hDn
  clear eg233 hq232
  clear hP hD hS
  have hP : va_P E.1 classes [(mo, .inr (5, [.ref q1, .ref q97, .null, .int 0, .int 0, .null, .int 0, .null, .int 0, .null, .null, .int 0, .null, .int (bI false), .int 0, .int 0, .int 0, .int 0, .int 0, .int 0, .int 0, .int 0, .long 0, .int 0, .int 0, .int 0, .int (bI false), .int 0, .int 0])), (q1, .inl (E.2.1 0, 47, .inl (zF 0))), (q97, .inl (E.2.1 0, 47, .inl (zF 1))), (q193, .inl (E.2.1 0, 47, .inl g233))] Hn := hPn
  have hD : va_D A [(mo, .inr (5, [.ref q1, .ref q97, .null, .int 0, .int 0, .null, .int 0, .null, .int 0, .null, .null, .int 0, .null, .int (bI false), .int 0, .int 0, .int 0, .int 0, .int 0, .int 0, .int 0, .int 0, .long 0, .int 0, .int 0, .int 0, .int (bI false), .int 0, .int 0])), (q1, .inl (E.2.1 0, 47, .inl (zF 0))), (q97, .inl (E.2.1 0, 47, .inl (zF 1))), (q193, .inl (E.2.1 0, 47, .inl g233))] := hDn
  have hS := hSn
  clear hPn hDn hSn
  refine lv_dup hx hb d_M_init_724 rfl ?_
  refine lv_bipush (v := 20) hx hb d_M_init_725 (by decide) ?_
  refine lv_bipush (v := 19) hx hb d_M_init_727 (by decide) ?_
  refine va_iast (D := E.1) (x := 19) hx hb hK hP hD hS 3 0 rfl rfl (vp_in_iff.mpr (by decide)) d_M_init_729 (fun Hn locsn hPn hDn hSn => ?_)
  obtain ⟨g235, eg235⟩ : ∃ g : Nat → Int32, g = upd g233 (Int32.toNatClampNeg 20) 19 := ⟨_, rfl⟩
  have hq236 : ∀ j, j < 21 → g235 j = zF 2 j := by rw [eg235]; exact tb_s hq234 (by decide) (by decide)
  rw [← eg235] at hPn hDn
  clear eg235 hq234
  clear hP hD hS
  have hP : va_P E.1 classes [(mo, .inr (5, [.ref q1, .ref q97, .null, .int 0, .int 0, .null, .int 0, .null, .int 0, .null, .null, .int 0, .null, .int (bI false), .int 0, .int 0, .int 0, .int 0, .int 0, .int 0, .int 0, .int 0, .long 0, .int 0, .int 0, .int 0, .int (bI false), .int 0, .int 0])), (q1, .inl (E.2.1 0, 47, .inl (zF 0))), (q97, .inl (E.2.1 0, 47, .inl (zF 1))), (q193, .inl (E.2.1 0, 47, .inl g235))] Hn := hPn
  have hD : va_D A [(mo, .inr (5, [.ref q1, .ref q97, .null, .int 0, .int 0, .null, .int 0, .null, .int 0, .null, .null, .int 0, .null, .int (bI false), .int 0, .int 0, .int 0, .int 0, .int 0, .int 0, .int 0, .int 0, .long 0, .int 0, .int 0, .int 0, .int (bI false), .int 0, .int 0])), (q1, .inl (E.2.1 0, 47, .inl (zF 0))), (q97, .inl (E.2.1 0, 47, .inl (zF 1))), (q193, .inl (E.2.1 0, 47, .inl g235))] := hDn
  have hS := hSn
  clear hPn hDn hSn
  refine lv_dup hx hb d_M_init_730 rfl ?_
  refine lv_bipush (v := 21) hx hb d_M_init_731 (by decide) ?_
  refine lv_bipush (v := 19) hx hb d_M_init_733 (by decide) ?_
  refine va_iast (D := E.1) (x := 19) hx hb hK hP hD hS 3 0 rfl rfl (vp_in_iff.mpr (by decide)) d_M_init_735 (fun Hn locsn hPn hDn hSn => ?_)
  obtain ⟨g237, eg237⟩ : ∃ g : Nat → Int32, g = upd g235 (Int32.toNatClampNeg 21) 19 := ⟨_, rfl⟩
  have hq238 : ∀ j, j < 22 → g237 j = zF 2 j := by rw [eg237]; exact tb_s hq236 (by decide) (by decide)
  rw [← eg237] at hPn hDn
  clear eg237 hq236
  clear hP hD hS
  have hP : va_P E.1 classes [(mo, .inr (5, [.ref q1, .ref q97, .null, .int 0, .int 0, .null, .int 0, .null, .int 0, .null, .null, .int 0, .null, .int (bI false), .int 0, .int 0, .int 0, .int 0, .int 0, .int 0, .int 0, .int 0, .long 0, .int 0, .int 0, .int 0, .int (bI false), .int 0, .int 0])), (q1, .inl (E.2.1 0, 47, .inl (zF 0))), (q97, .inl (E.2.1 0, 47, .inl (zF 1))), (q193, .inl (E.2.1 0, 47, .inl g237))] Hn := hPn
  have hD : va_D A [(mo, .inr (5, [.ref q1, .ref q97, .null, .int 0, .int 0, .null, .int 0, .null, .int 0, .null, .null, .int 0, .null, .int (bI false), .int 0, .int 0, .int 0, .int 0, .int 0, .int 0, .int 0, .int 0, .long 0, .int 0, .int 0, .int 0, .int (bI false), .int 0, .int 0])), (q1, .inl (E.2.1 0, 47, .inl (zF 0))), (q97, .inl (E.2.1 0, 47, .inl (zF 1))), (q193, .inl (E.2.1 0, 47, .inl g237))] := hDn
  have hS := hSn
  clear hPn hDn hSn
  refine lv_dup hx hb d_M_init_736 rfl ?_
  refine lv_bipush (v := 22) hx hb d_M_init_737 (by decide) ?_
  refine lv_bipush (v := 20) hx hb d_M_init_739 (by decide) ?_
  refine va_iast (D := E.1) (x := 20) hx hb hK hP hD hS 3 0 rfl rfl (vp_in_iff.mpr (by decide)) d_M_init_741 (fun Hn locsn hPn hDn hSn => ?_)
  obtain ⟨g239, eg239⟩ : ∃ g : Nat → Int32, g = upd g237 (Int32.toNatClampNeg 22) 20 := ⟨_, rfl⟩
  have hq240 : ∀ j, j < 23 → g239 j = zF 2 j := by rw [eg239]; exact tb_s hq238 (by decide) (by decide)
  rw [← eg239] at hPn hDn
  clear eg239 hq238
  clear hP hD hS
  have hP : va_P E.1 classes [(mo, .inr (5, [.ref q1, .ref q97, .null, .int 0, .int 0, .null, .int 0, .null, .int 0, .null, .null, .int 0, .null, .int (bI false), .int 0, .int 0, .int 0, .int 0, .int 0, .int 0, .int 0, .int 0, .long 0, .int 0, .int 0, .int 0, .int (bI false), .int 0, .int 0])), (q1, .inl (E.2.1 0, 47, .inl (zF 0))), (q97, .inl (E.2.1 0, 47, .inl (zF 1))), (q193, .inl (E.2.1 0, 47, .inl g239))] Hn := hPn
  have hD : va_D A [(mo, .inr (5, [.ref q1, .ref q97, .null, .int 0, .int 0, .null, .int 0, .null, .int 0, .null, .null, .int 0, .null, .int (bI false), .int 0, .int 0, .int 0, .int 0, .int 0, .int 0, .int 0, .int 0, .long 0, .int 0, .int 0, .int 0, .int (bI false), .int 0, .int 0])), (q1, .inl (E.2.1 0, 47, .inl (zF 0))), (q97, .inl (E.2.1 0, 47, .inl (zF 1))), (q193, .inl (E.2.1 0, 47, .inl g239))] := hDn
  have hS := hSn
  clear hPn hDn hSn
  refine lv_dup hx hb d_M_init_742 rfl ?_
  refine lv_bipush (v := 23) hx hb d_M_init_743 (by decide) ?_
  refine lv_bipush (v := 21) hx hb d_M_init_745 (by decide) ?_
  refine va_iast (D := E.1) (x := 21) hx hb hK hP hD hS 3 0 rfl rfl (vp_in_iff.mpr (by decide)) d_M_init_747 (fun Hn locsn hPn hDn hSn => ?_)
  obtain ⟨g241, eg241⟩ : ∃ g : Nat → Int32, g = upd g239 (Int32.toNatClampNeg 23) 21 := ⟨_, rfl⟩
  have hq242 : ∀ j, j < 24 → g241 j = zF 2 j := by rw [eg241]; exact tb_s hq240 (by decide) (by decide)
  rw [← eg241] at hPn hDn
  clear eg241 hq240
  clear hP hD hS
  have hP : va_P E.1 classes [(mo, .inr (5, [.ref q1, .ref q97, .null, .int 0, .int 0, .null, .int 0, .null, .int 0, .null, .null, .int 0, .null, .int (bI false), .int 0, .int 0, .int 0, .int 0, .int 0, .int 0, .int 0, .int 0, .long 0, .int 0, .int 0, .int 0, .int (bI false), .int 0, .int 0])), (q1, .inl (E.2.1 0, 47, .inl (zF 0))), (q97, .inl (E.2.1 0, 47, .inl (zF 1))), (q193, .inl (E.2.1 0, 47, .inl g241))] Hn := hPn
  have hD : va_D A [(mo, .inr (5, [.ref q1, .ref q97, .null, .int 0, .int 0, .null, .int 0, .null, .int 0, .null, .null, .int 0, .null, .int (bI false), .int 0, .int 0, .int 0, .int 0, .int 0, .int 0, .int 0, .int 0, .long 0, .int 0, .int 0, .int 0, .int (bI false), .int 0, .int 0])), (q1, .inl (E.2.1 0, 47, .inl (zF 0))), (q97, .inl (E.2.1 0, 47, .inl (zF 1))), (q193, .inl (E.2.1 0, 47, .inl g241))] := hDn
  have hS := hSn
  clear hPn hDn hSn
  refine lv_dup hx hb d_M_init_748 rfl ?_
  refine lv_bipush (v := 24) hx hb d_M_init_749 (by decide) ?_
  refine lv_bipush (v := 22) hx hb d_M_init_751 (by decide) ?_
  refine va_iast (D := E.1) (x := 22) hx hb hK hP hD hS 3 0 rfl rfl (vp_in_iff.mpr (by decide)) d_M_init_753 (fun Hn locsn hPn hDn hSn => ?_)
  obtain ⟨g243, eg243⟩ : ∃ g : Nat → Int32, g = upd g241 (Int32.toNatClampNeg 24) 22 := ⟨_, rfl⟩
  have hq244 : ∀ j, j < 25 → g243 j = zF 2 j := by rw [eg243]; exact tb_s hq242 (by decide) (by decide)
  rw [← eg243] at hPn hDn
  clear eg243 hq242
  clear hP hD hS
  have hP : va_P E.1 classes [(mo, .inr (5, [.ref q1, .ref q97, .null, .int 0, .int 0, .null, .int 0, .null, .int 0, .null, .null, .int 0, .null, .int (bI false), .int 0, .int 0, .int 0, .int 0, .int 0, .int 0, .int 0, .int 0, .long 0, .int 0, .int 0, .int 0, .int (bI false), .int 0, .int 0])), (q1, .inl (E.2.1 0, 47, .inl (zF 0))), (q97, .inl (E.2.1 0, 47, .inl (zF 1))), (q193, .inl (E.2.1 0, 47, .inl g243))] Hn := hPn
  have hD : va_D A [(mo, .inr (5, [.ref q1, .ref q97, .null, .int 0, .int 0, .null, .int 0, .null, .int 0, .null, .null, .int 0, .null, .int (bI false), .int 0, .int 0, .int 0, .int 0, .int 0, .int 0, .int 0, .int 0, .long 0, .int 0, .int 0, .int 0, .int (bI false), .int 0, .int 0])), (q1, .inl (E.2.1 0, 47, .inl (zF 0))), (q97, .inl (E.2.1 0, 47, .inl (zF 1))), (q193, .inl (E.2.1 0, 47, .inl g243))] := hDn
  have hS := hSn
  clear hPn hDn hSn
  refine lv_dup hx hb d_M_init_754 rfl ?_
  refine lv_bipush (v := 25) hx hb d_M_init_755 (by decide) ?_
  refine lv_bipush (v := 23) hx hb d_M_init_757 (by decide) ?_
  refine va_iast (D := E.1) (x := 23) hx hb hK hP hD hS 3 0 rfl rfl (vp_in_iff.mpr (by decide)) d_M_init_759 (fun Hn locsn hPn hDn hSn => ?_)
  obtain ⟨g245, eg245⟩ : ∃ g : Nat → Int32, g = upd g243 (Int32.toNatClampNeg 25) 23 := ⟨_, rfl⟩
  have hq246 : ∀ j, j < 26 → g245 j = zF 2 j := by rw [eg245]; exact tb_s hq244 (by decide) (by decide)
  rw [← eg245] at hPn hDn
  clear eg245 hq244
  clear hP hD hS
  have hP : va_P E.1 classes [(mo, .inr (5, [.ref q1, .ref q97, .null, .int 0, .int 0, .null, .int 0, .null, .int 0, .null, .null, .int 0, .null, .int (bI false), .int 0, .int 0, .int 0, .int 0, .int 0, .int 0, .int 0, .int 0, .long 0, .int 0, .int 0, .int 0, .int (bI false), .int 0, .int 0])), (q1, .inl (E.2.1 0, 47, .inl (zF 0))), (q97, .inl (E.2.1 0, 47, .inl (zF 1))), (q193, .inl (E.2.1 0, 47, .inl g245))] Hn := hPn
  have hD : va_D A [(mo, .inr (5, [.ref q1, .ref q97, .null, .int 0, .int 0, .null, .int 0, .null, .int 0, .null, .null, .int 0, .null, .int (bI false), .int 0, .int 0, .int 0, .int 0, .int 0, .int 0, .int 0, .int 0, .long 0, .int 0, .int 0, .int 0, .int (bI false), .int 0, .int 0])), (q1, .inl (E.2.1 0, 47, .inl (zF 0))), (q97, .inl (E.2.1 0, 47, .inl (zF 1))), (q193, .inl (E.2.1 0, 47, .inl g245))] := hDn
  have hS := hSn
  clear hPn hDn hSn
  refine lv_dup hx hb d_M_init_760 rfl ?_
  refine lv_bipush (v := 26) hx hb d_M_init_761 (by decide) ?_
  refine lv_bipush (v := 24) hx hb d_M_init_763 (by decide) ?_
  refine va_iast (D := E.1) (x := 24) hx hb hK hP hD hS 3 0 rfl rfl (vp_in_iff.mpr (by decide)) d_M_init_765 (fun Hn locsn hPn hDn hSn => ?_)
  obtain ⟨g247, eg247⟩ : ∃ g : Nat → Int32, g = upd g245 (Int32.toNatClampNeg 26) 24 := ⟨_, rfl⟩
  have hq248 : ∀ j, j < 27 → g247 j = zF 2 j := by rw [eg247]; exact tb_s hq246 (by decide) (by decide)
  rw [← eg247] at hPn hDn
  clear eg247 hq246
  clear hP hD hS
  have hP : va_P E.1 classes [(mo, .inr (5, [.ref q1, .ref q97, .null, .int 0, .int 0, .null, .int 0, .null, .int 0, .null, .null, .int 0, .null, .int (bI false), .int 0, .int 0, .int 0, .int 0, .int 0, .int 0, .int 0, .int 0, .long 0, .int 0, .int 0, .int 0, .int (bI false), .int 0, .int 0])), (q1, .inl (E.2.1 0, 47, .inl (zF 0))), (q97, .inl (E.2.1 0, 47, .inl (zF 1))), (q193, .inl (E.2.1 0, 47, .inl g247))] Hn := hPn
  have hD : va_D A [(mo, .inr (5, [.ref q1, .ref q97, .null, .int 0, .int 0, .null, .int 0, .null, .int 0, .null, .null, .int 0, .null, .int (bI false), .int 0, .int 0, .int 0, .int 0, .int 0, .int 0, .int 0, .int 0, .long 0, .int 0, .int 0, .int 0, .int (bI false), .int 0, .int 0])), (q1, .inl (E.2.1 0, 47, .inl (zF 0))), (q97, .inl (E.2.1 0, 47, .inl (zF 1))), (q193, .inl (E.2.1 0, 47, .inl g247))] := hDn
  have hS := hSn
  clear hPn hDn hSn
  refine lv_dup hx hb d_M_init_766 rfl ?_
  refine lv_bipush (v := 27) hx hb d_M_init_767 (by decide) ?_
  refine lv_bipush (v := 25) hx hb d_M_init_769 (by decide) ?_
  refine va_iast (D := E.1) (x := 25) hx hb hK hP hD hS 3 0 rfl rfl (vp_in_iff.mpr (by decide)) d_M_init_771 (fun Hn locsn hPn hDn hSn => ?_)
  obtain ⟨g249, eg249⟩ : ∃ g : Nat → Int32, g = upd g247 (Int32.toNatClampNeg 27) 25 := ⟨_, rfl⟩
  have hq250 : ∀ j, j < 28 → g249 j = zF 2 j := by rw [eg249]; exact tb_s hq248 (by decide) (by decide)
  rw [← eg249] at hPn hDn
  clear eg249 hq248
  clear hP hD hS
  have hP : va_P E.1 classes [(mo, .inr (5, [.ref q1, .ref q97, .null, .int 0, .int 0, .null, .int 0, .null, .int 0, .null, .null, .int 0, .null, .int (bI false), .int 0, .int 0, .int 0, .int 0, .int 0, .int 0, .int 0, .int 0, .long 0, .int 0, .int 0, .int 0, .int (bI false), .int 0, .int 0])), (q1, .inl (E.2.1 0, 47, .inl (zF 0))), (q97, .inl (E.2.1 0, 47, .inl (zF 1))), (q193, .inl (E.2.1 0, 47, .inl g249))] Hn := hPn
  have hD : va_D A [(mo, .inr (5, [.ref q1, .ref q97, .null, .int 0, .int 0, .null, .int 0, .null, .int 0, .null, .null, .int 0, .null, .int (bI false), .int 0, .int 0, .int 0, .int 0, .int 0, .int 0, .int 0, .int 0, .long 0, .int 0, .int 0, .int 0, .int (bI false), .int 0, .int 0])), (q1, .inl (E.2.1 0, 47, .inl (zF 0))), (q97, .inl (E.2.1 0, 47, .inl (zF 1))), (q193, .inl (E.2.1 0, 47, .inl g249))] := hDn
  have hS := hSn
  clear hPn hDn hSn
  refine lv_dup hx hb d_M_init_772 rfl ?_
  refine lv_bipush (v := 28) hx hb d_M_init_773 (by decide) ?_
  refine lv_bipush (v := 26) hx hb d_M_init_775 (by decide) ?_
  refine va_iast (D := E.1) (x := 26) hx hb hK hP hD hS 3 0 rfl rfl (vp_in_iff.mpr (by decide)) d_M_init_777 (fun Hn locsn hPn hDn hSn => ?_)
  obtain ⟨g251, eg251⟩ : ∃ g : Nat → Int32, g = upd g249 (Int32.toNatClampNeg 28) 26 := ⟨_, rfl⟩
  have hq252 : ∀ j, j < 29 → g251 j = zF 2 j := by rw [eg251]; exact tb_s hq250 (by decide) (by decide)
  rw [← eg251] at hPn hDn
  clear eg251 hq250
  clear hP hD hS
  have hP : va_P E.1 classes [(mo, .inr (5, [.ref q1, .ref q97, .null, .int 0, .int 0, .null, .int 0, .null, .int 0, .null, .null, .int 0, .null, .int (bI false), .int 0, .int 0, .int 0, .int 0, .int 0, .int 0, .int 0, .int 0, .long 0, .int 0, .int 0, .int 0, .int (bI false), .int 0, .int 0])), (q1, .inl (E.2.1 0, 47, .inl (zF 0))), (q97, .inl (E.2.1 0, 47, .inl (zF 1))), (q193, .inl (E.2.1 0, 47, .inl g251))] Hn := hPn
  have hD : va_D A [(mo, .inr (5, [.ref q1, .ref q97, .null, .int 0, .int 0, .null, .int 0, .null, .int 0, .null, .null, .int 0, .null, .int (bI false), .int 0, .int 0, .int 0, .int 0, .int 0, .int 0, .int 0, .int 0, .long 0, .int 0, .int 0, .int 0, .int (bI false), .int 0, .int 0])), (q1, .inl (E.2.1 0, 47, .inl (zF 0))), (q97, .inl (E.2.1 0, 47, .inl (zF 1))), (q193, .inl (E.2.1 0, 47, .inl g251))] := hDn
  have hS := hSn
  clear hPn hDn hSn
  refine lv_dup hx hb d_M_init_778 rfl ?_
  refine lv_bipush (v := 29) hx hb d_M_init_779 (by decide) ?_
  refine lv_bipush (v := 27) hx hb d_M_init_781 (by decide) ?_
  refine va_iast (D := E.1) (x := 27) hx hb hK hP hD hS 3 0 rfl rfl (vp_in_iff.mpr (by decide)) d_M_init_783 (fun Hn locsn hPn hDn hSn => ?_)
  obtain ⟨g253, eg253⟩ : ∃ g : Nat → Int32, g = upd g251 (Int32.toNatClampNeg 29) 27 := ⟨_, rfl⟩
  have hq254 : ∀ j, j < 30 → g253 j = zF 2 j := by rw [eg253]; exact tb_s hq252 (by decide) (by decide)
  rw [← eg253] at hPn hDn
  clear eg253 hq252
  clear hP hD hS
  have hP : va_P E.1 classes [(mo, .inr (5, [.ref q1, .ref q97, .null, .int 0, .int 0, .null, .int 0, .null, .int 0, .null, .null, .int 0, .null, .int (bI false), .int 0, .int 0, .int 0, .int 0, .int 0, .int 0, .int 0, .int 0, .long 0, .int 0, .int 0, .int 0, .int (bI false), .int 0, .int 0])), (q1, .inl (E.2.1 0, 47, .inl (zF 0))), (q97, .inl (E.2.1 0, 47, .inl (zF 1))), (q193, .inl (E.2.1 0, 47, .inl g253))] Hn := hPn
  have hD : va_D A [(mo, .inr (5, [.ref q1, .ref q97, .null, .int 0, .int 0, .null, .int 0, .null, .int 0, .null, .null, .int 0, .null, .int (bI false), .int 0, .int 0, .int 0, .int 0, .int 0, .int 0, .int 0, .int 0, .long 0, .int 0, .int 0, .int 0, .int (bI false), .int 0, .int 0])), (q1, .inl (E.2.1 0, 47, .inl (zF 0))), (q97, .inl (E.2.1 0, 47, .inl (zF 1))), (q193, .inl (E.2.1 0, 47, .inl g253))] := hDn
  have hS := hSn
  clear hPn hDn hSn
  refine lv_dup hx hb d_M_init_784 rfl ?_
  refine lv_bipush (v := 30) hx hb d_M_init_785 (by decide) ?_
  refine lv_bipush (v := 28) hx hb d_M_init_787 (by decide) ?_
  refine va_iast (D := E.1) (x := 28) hx hb hK hP hD hS 3 0 rfl rfl (vp_in_iff.mpr (by decide)) d_M_init_789 (fun Hn locsn hPn hDn hSn => ?_)
  obtain ⟨g255, eg255⟩ : ∃ g : Nat → Int32, g = upd g253 (Int32.toNatClampNeg 30) 28 := ⟨_, rfl⟩
  have hq256 : ∀ j, j < 31 → g255 j = zF 2 j := by rw [eg255]; exact tb_s hq254 (by decide) (by decide)
  rw [← eg255] at hPn hDn
  clear eg255 hq254
  clear hP hD hS
  have hP : va_P E.1 classes [(mo, .inr (5, [.ref q1, .ref q97, .null, .int 0, .int 0, .null, .int 0, .null, .int 0, .null, .null, .int 0, .null, .int (bI false), .int 0, .int 0, .int 0, .int 0, .int 0, .int 0, .int 0, .int 0, .long 0, .int 0, .int 0, .int 0, .int (bI false), .int 0, .int 0])), (q1, .inl (E.2.1 0, 47, .inl (zF 0))), (q97, .inl (E.2.1 0, 47, .inl (zF 1))), (q193, .inl (E.2.1 0, 47, .inl g255))] Hn := hPn
  have hD : va_D A [(mo, .inr (5, [.ref q1, .ref q97, .null, .int 0, .int 0, .null, .int 0, .null, .int 0, .null, .null, .int 0, .null, .int (bI false), .int 0, .int 0, .int 0, .int 0, .int 0, .int 0, .int 0, .int 0, .long 0, .int 0, .int 0, .int 0, .int (bI false), .int 0, .int 0])), (q1, .inl (E.2.1 0, 47, .inl (zF 0))), (q97, .inl (E.2.1 0, 47, .inl (zF 1))), (q193, .inl (E.2.1 0, 47, .inl g255))] := hDn
  have hS := hSn
  clear hPn hDn hSn
  refine lv_dup hx hb d_M_init_790 rfl ?_
  refine lv_bipush (v := 31) hx hb d_M_init_791 (by decide) ?_
  refine lv_bipush (v := 29) hx hb d_M_init_793 (by decide) ?_
  refine va_iast (D := E.1) (x := 29) hx hb hK hP hD hS 3 0 rfl rfl (vp_in_iff.mpr (by decide)) d_M_init_795 (fun Hn locsn hPn hDn hSn => ?_)
  obtain ⟨g257, eg257⟩ : ∃ g : Nat → Int32, g = upd g255 (Int32.toNatClampNeg 31) 29 := ⟨_, rfl⟩
  have hq258 : ∀ j, j < 32 → g257 j = zF 2 j := by rw [eg257]; exact tb_s hq256 (by decide) (by decide)
  rw [← eg257] at hPn hDn
  clear eg257 hq256
  clear hP hD hS
  have hP : va_P E.1 classes [(mo, .inr (5, [.ref q1, .ref q97, .null, .int 0, .int 0, .null, .int 0, .null, .int 0, .null, .null, .int 0, .null, .int (bI false), .int 0, .int 0, .int 0, .int 0, .int 0, .int 0, .int 0, .int 0, .long 0, .int 0, .int 0, .int 0, .int (bI false), .int 0, .int 0])), (q1, .inl (E.2.1 0, 47, .inl (zF 0))), (q97, .inl (E.2.1 0, 47, .inl (zF 1))), (q193, .inl (E.2.1 0, 47, .inl g257))] Hn := hPn
  have hD : va_D A [(mo, .inr (5, [.ref q1, .ref q97, .null, .int 0, .int 0, .null, .int 0, .null, .int 0, .null, .null, .int 0, .null, .int (bI false), .int 0, .int 0, .int 0, .int 0, .int 0, .int 0, .int 0, .int 0, .long 0, .int 0, .int 0, .int 0, .int (bI false), .int 0, .int 0])), (q1, .inl (E.2.1 0, 47, .inl (zF 0))), (q97, .inl (E.2.1 0, 47, .inl (zF 1))), (q193, .inl (E.2.1 0, 47, .inl g257))] := hDn
  have hS := hSn
  clear hPn hDn hSn
  refine lv_dup hx hb d_M_init_796 rfl ?_
  refine lv_bipush (v := 32) hx hb d_M_init_797 (by decide) ?_
  refine lv_bipush (v := 30) hx hb d_M_init_799 (by decide) ?_
  refine va_iast (D := E.1) (x := 30) hx hb hK hP hD hS 3 0 rfl rfl (vp_in_iff.mpr (by decide)) d_M_init_801 (fun Hn locsn hPn hDn hSn => ?_)
  obtain ⟨g259, eg259⟩ : ∃ g : Nat → Int32, g = upd g257 (Int32.toNatClampNeg 32) 30 := ⟨_, rfl⟩
  have hq260 : ∀ j, j < 33 → g259 j = zF 2 j := by rw [eg259]; exact tb_s hq258 (by decide) (by decide)
  rw [← eg259] at hPn hDn
  clear eg259 hq258
  clear hP hD hS
  have hP : va_P E.1 classes [(mo, .inr (5, [.ref q1, .ref q97, .null, .int 0, .int 0, .null, .int 0, .null, .int 0, .null, .null, .int 0, .null, .int (bI false), .int 0, .int 0, .int 0, .int 0, .int 0, .int 0, .int 0, .int 0, .long 0, .int 0, .int 0, .int 0, .int (bI false), .int 0, .int 0])), (q1, .inl (E.2.1 0, 47, .inl (zF 0))), (q97, .inl (E.2.1 0, 47, .inl (zF 1))), (q193, .inl (E.2.1 0, 47, .inl g259))] Hn := hPn
  have hD : va_D A [(mo, .inr (5, [.ref q1, .ref q97, .null, .int 0, .int 0, .null, .int 0, .null, .int 0, .null, .null, .int 0, .null, .int (bI false), .int 0, .int 0, .int 0, .int 0, .int 0, .int 0, .int 0, .int 0, .long 0, .int 0, .int 0, .int 0, .int (bI false), .int 0, .int 0])), (q1, .inl (E.2.1 0, 47, .inl (zF 0))), (q97, .inl (E.2.1 0, 47, .inl (zF 1))), (q193, .inl (E.2.1 0, 47, .inl g259))] := hDn
  have hS := hSn
  clear hPn hDn hSn
  refine lv_dup hx hb d_M_init_802 rfl ?_
  refine lv_bipush (v := 33) hx hb d_M_init_803 (by decide) ?_
  refine lv_bipush (v := 31) hx hb d_M_init_805 (by decide) ?_
  refine va_iast (D := E.1) (x := 31) hx hb hK hP hD hS 3 0 rfl rfl (vp_in_iff.mpr (by decide)) d_M_init_807 (fun Hn locsn hPn hDn hSn => ?_)
  obtain ⟨g261, eg261⟩ : ∃ g : Nat → Int32, g = upd g259 (Int32.toNatClampNeg 33) 31 := ⟨_, rfl⟩
  have hq262 : ∀ j, j < 34 → g261 j = zF 2 j := by rw [eg261]; exact tb_s hq260 (by decide) (by decide)
  rw [← eg261] at hPn hDn
  clear eg261 hq260
  clear hP hD hS
  have hP : va_P E.1 classes [(mo, .inr (5, [.ref q1, .ref q97, .null, .int 0, .int 0, .null, .int 0, .null, .int 0, .null, .null, .int 0, .null, .int (bI false), .int 0, .int 0, .int 0, .int 0, .int 0, .int 0, .int 0, .int 0, .long 0, .int 0, .int 0, .int 0, .int (bI false), .int 0, .int 0])), (q1, .inl (E.2.1 0, 47, .inl (zF 0))), (q97, .inl (E.2.1 0, 47, .inl (zF 1))), (q193, .inl (E.2.1 0, 47, .inl g261))] Hn := hPn
  have hD : va_D A [(mo, .inr (5, [.ref q1, .ref q97, .null, .int 0, .int 0, .null, .int 0, .null, .int 0, .null, .null, .int 0, .null, .int (bI false), .int 0, .int 0, .int 0, .int 0, .int 0, .int 0, .int 0, .int 0, .long 0, .int 0, .int 0, .int 0, .int (bI false), .int 0, .int 0])), (q1, .inl (E.2.1 0, 47, .inl (zF 0))), (q97, .inl (E.2.1 0, 47, .inl (zF 1))), (q193, .inl (E.2.1 0, 47, .inl g261))] := hDn
  have hS := hSn
  clear hPn hDn hSn
  refine lv_dup hx hb d_M_init_808 rfl ?_
  refine lv_bipush (v := 34) hx hb d_M_init_809 (by decide) ?_
  refine lv_bipush (v := 32) hx hb d_M_init_811 (by decide) ?_
  refine va_iast (D := E.1) (x := 32) hx hb hK hP hD hS 3 0 rfl rfl (vp_in_iff.mpr (by decide)) d_M_init_813 (fun Hn locsn hPn hDn hSn => ?_)
  obtain ⟨g263, eg263⟩ : ∃ g : Nat → Int32, g = upd g261 (Int32.toNatClampNeg 34) 32 := ⟨_, rfl⟩
  have hq264 : ∀ j, j < 35 → g263 j = zF 2 j := by rw [eg263]; exact tb_s hq262 (by decide) (by decide)
  rw [← eg263] at hPn hDn
  clear eg263 hq262
  clear hP hD hS
  have hP : va_P E.1 classes [(mo, .inr (5, [.ref q1, .ref q97, .null, .int 0, .int 0, .null, .int 0, .null, .int 0, .null, .null, .int 0, .null, .int (bI false), .int 0, .int 0, .int 0, .int 0, .int 0, .int 0, .int 0, .int 0, .long 0, .int 0, .int 0, .int 0, .int (bI false), .int 0, .int 0])), (q1, .inl (E.2.1 0, 47, .inl (zF 0))), (q97, .inl (E.2.1 0, 47, .inl (zF 1))), (q193, .inl (E.2.1 0, 47, .inl g263))] Hn := hPn
  have hD : va_D A [(mo, .inr (5, [.ref q1, .ref q97, .null, .int 0, .int 0, .null, .int 0, .null, .int 0, .null, .null, .int 0, .null, .int (bI false), .int 0, .int 0, .int 0, .int 0, .int 0, .int 0, .int 0, .int 0, .long 0, .int 0, .int 0, .int 0, .int (bI false), .int 0, .int 0])), (q1, .inl (E.2.1 0, 47, .inl (zF 0))), (q97, .inl (E.2.1 0, 47, .inl (zF 1))), (q193, .inl (E.2.1 0, 47, .inl g263))] := hDn
  have hS := hSn
  clear hPn hDn hSn
  refine lv_dup hx hb d_M_init_814 rfl ?_
  refine lv_bipush (v := 35) hx hb d_M_init_815 (by decide) ?_
  refine lv_bipush (v := 33) hx hb d_M_init_817 (by decide) ?_
  refine va_iast (D := E.1) (x := 33) hx hb hK hP hD hS 3 0 rfl rfl (vp_in_iff.mpr (by decide)) d_M_init_819 (fun Hn locsn hPn hDn hSn => ?_)
  obtain ⟨g265, eg265⟩ : ∃ g : Nat → Int32, g = upd g263 (Int32.toNatClampNeg 35) 33 := ⟨_, rfl⟩
  have hq266 : ∀ j, j < 36 → g265 j = zF 2 j := by rw [eg265]; exact tb_s hq264 (by decide) (by decide)
  rw [← eg265] at hPn hDn
  clear eg265 hq264
  clear hP hD hS
  have hP : va_P E.1 classes [(mo, .inr (5, [.ref q1, .ref q97, .null, .int 0, .int 0, .null, .int 0, .null, .int 0, .null, .null, .int 0, .null, .int (bI false), .int 0, .int 0, .int 0, .int 0, .int 0, .int 0, .int 0, .int 0, .long 0, .int 0, .int 0, .int 0, .int (bI false), .int 0, .int 0])), (q1, .inl (E.2.1 0, 47, .inl (zF 0))), (q97, .inl (E.2.1 0, 47, .inl (zF 1))), (q193, .inl (E.2.1 0, 47, .inl g265))] Hn := hPn
  have hD : va_D A [(mo, .inr (5, [.ref q1, .ref q97, .null, .int 0, .int 0, .null, .int 0, .null, .int 0, .null, .null, .int 0, .null, .int (bI false), .int 0, .int 0, .int 0, .int 0, .int 0, .int 0, .int 0, .int 0, .long 0, .int 0, .int 0, .int 0, .int (bI false), .int 0, .int 0])), (q1, .inl (E.2.1 0, 47, .inl (zF 0))), (q97, .inl (E.2.1 0, 47, .inl (zF 1))), (q193, .inl (E.2.1 0, 47, .inl g265))] := hDn
  have hS := hSn
  clear hPn hDn hSn
  refine lv_dup hx hb d_M_init_820 rfl ?_
  refine lv_bipush (v := 36) hx hb d_M_init_821 (by decide) ?_
  refine lv_bipush (v := 34) hx hb d_M_init_823 (by decide) ?_
  refine va_iast (D := E.1) (x := 34) hx hb hK hP hD hS 3 0 rfl rfl (vp_in_iff.mpr (by decide)) d_M_init_825 (fun Hn locsn hPn hDn hSn => ?_)
  obtain ⟨g267, eg267⟩ : ∃ g : Nat → Int32, g = upd g265 (Int32.toNatClampNeg 36) 34 := ⟨_, rfl⟩
  have hq268 : ∀ j, j < 37 → g267 j = zF 2 j := by rw [eg267]; exact tb_s hq266 (by decide) (by decide)
  rw [← eg267] at hPn hDn
  clear eg267 hq266
  clear hP hD hS
  have hP : va_P E.1 classes [(mo, .inr (5, [.ref q1, .ref q97, .null, .int 0, .int 0, .null, .int 0, .null, .int 0, .null, .null, .int 0, .null, .int (bI false), .int 0, .int 0, .int 0, .int 0, .int 0, .int 0, .int 0, .int 0, .long 0, .int 0, .int 0, .int 0, .int (bI false), .int 0, .int 0])), (q1, .inl (E.2.1 0, 47, .inl (zF 0))), (q97, .inl (E.2.1 0, 47, .inl (zF 1))), (q193, .inl (E.2.1 0, 47, .inl g267))] Hn := hPn
  have hD : va_D A [(mo, .inr (5, [.ref q1, .ref q97, .null, .int 0, .int 0, .null, .int 0, .null, .int 0, .null, .null, .int 0, .null, .int (bI false), .int 0, .int 0, .int 0, .int 0, .int 0, .int 0, .int 0, .int 0, .long 0, .int 0, .int 0, .int 0, .int (bI false), .int 0, .int 0])), (q1, .inl (E.2.1 0, 47, .inl (zF 0))), (q97, .inl (E.2.1 0, 47, .inl (zF 1))), (q193, .inl (E.2.1 0, 47, .inl g267))] := hDn
  have hS := hSn
  clear hPn hDn hSn
  refine lv_dup hx hb d_M_init_826 rfl ?_
  refine lv_bipush (v := 37) hx hb d_M_init_827 (by decide) ?_
  refine lv_bipush (v := 35) hx hb d_M_init_829 (by decide) ?_
  refine va_iast (D := E.1) (x := 35) hx hb hK hP hD hS 3 0 rfl rfl (vp_in_iff.mpr (by decide)) d_M_init_831 (fun Hn locsn hPn hDn hSn => ?_)
  obtain ⟨g269, eg269⟩ : ∃ g : Nat → Int32, g = upd g267 (Int32.toNatClampNeg 37) 35 := ⟨_, rfl⟩
  have hq270 : ∀ j, j < 38 → g269 j = zF 2 j := by rw [eg269]; exact tb_s hq268 (by decide) (by decide)
  rw [← eg269] at hPn hDn
  clear eg269 hq268
  clear hP hD hS
  have hP : va_P E.1 classes [(mo, .inr (5, [.ref q1, .ref q97, .null, .int 0, .int 0, .null, .int 0, .null, .int 0, .null, .null, .int 0, .null, .int (bI false), .int 0, .int 0, .int 0, .int 0, .int 0, .int 0, .int 0, .int 0, .long 0, .int 0, .int 0, .int 0, .int (bI false), .int 0, .int 0])), (q1, .inl (E.2.1 0, 47, .inl (zF 0))), (q97, .inl (E.2.1 0, 47, .inl (zF 1))), (q193, .inl (E.2.1 0, 47, .inl g269))] Hn := hPn
  have hD : va_D A [(mo, .inr (5, [.ref q1, .ref q97, .null, .int 0, .int 0, .null, .int 0, .null, .int 0, .null, .null, .int 0, .null, .int (bI false), .int 0, .int 0, .int 0, .int 0, .int 0, .int 0, .int 0, .int 0, .long 0, .int 0, .int 0, .int 0, .int (bI false), .int 0, .int 0])), (q1, .inl (E.2.1 0, 47, .inl (zF 0))), (q97, .inl (E.2.1 0, 47, .inl (zF 1))), (q193, .inl (E.2.1 0, 47, .inl g269))] := hDn
  have hS := hSn
  clear hPn hDn hSn
  refine lv_dup hx hb d_M_init_832 rfl ?_
  refine lv_bipush (v := 38) hx hb d_M_init_833 (by decide) ?_
  refine lv_bipush (v := 36) hx hb d_M_init_835 (by decide) ?_
  refine va_iast (D := E.1) (x := 36) hx hb hK hP hD hS 3 0 rfl rfl (vp_in_iff.mpr (by decide)) d_M_init_837 (fun Hn locsn hPn hDn hSn => ?_)
  obtain ⟨g271, eg271⟩ : ∃ g : Nat → Int32, g = upd g269 (Int32.toNatClampNeg 38) 36 := ⟨_, rfl⟩
  have hq272 : ∀ j, j < 39 → g271 j = zF 2 j := by rw [eg271]; exact tb_s hq270 (by decide) (by decide)
  rw [← eg271] at hPn hDn
  clear eg271 hq270
  clear hP hD hS
  have hP : va_P E.1 classes [(mo, .inr (5, [.ref q1, .ref q97, .null, .int 0, .int 0, .null, .int 0, .null, .int 0, .null, .null, .int 0, .null, .int (bI false), .int 0, .int 0, .int 0, .int 0, .int 0, .int 0, .int 0, .int 0, .long 0, .int 0, .int 0, .int 0, .int (bI false), .int 0, .int 0])), (q1, .inl (E.2.1 0, 47, .inl (zF 0))), (q97, .inl (E.2.1 0, 47, .inl (zF 1))), (q193, .inl (E.2.1 0, 47, .inl g271))] Hn := hPn
  have hD : va_D A [(mo, .inr (5, [.ref q1, .ref q97, .null, .int 0, .int 0, .null, .int 0, .null, .int 0, .null, .null, .int 0, .null, .int (bI false), .int 0, .int 0, .int 0, .int 0, .int 0, .int 0, .int 0, .int 0, .long 0, .int 0, .int 0, .int 0, .int (bI false), .int 0, .int 0])), (q1, .inl (E.2.1 0, 47, .inl (zF 0))), (q97, .inl (E.2.1 0, 47, .inl (zF 1))), (q193, .inl (E.2.1 0, 47, .inl g271))] := hDn
  have hS := hSn
  clear hPn hDn hSn
  refine lv_dup hx hb d_M_init_838 rfl ?_
  refine lv_bipush (v := 39) hx hb d_M_init_839 (by decide) ?_
  refine lv_bipush (v := 37) hx hb d_M_init_841 (by decide) ?_
  refine va_iast (D := E.1) (x := 37) hx hb hK hP hD hS 3 0 rfl rfl (vp_in_iff.mpr (by decide)) d_M_init_843 (fun Hn locsn hPn hDn hSn => ?_)
  obtain ⟨g273, eg273⟩ : ∃ g : Nat → Int32, g = upd g271 (Int32.toNatClampNeg 39) 37 := ⟨_, rfl⟩
  have hq274 : ∀ j, j < 40 → g273 j = zF 2 j := by rw [eg273]; exact tb_s hq272 (by decide) (by decide)
  rw [← eg273] at hPn hDn
  clear eg273 hq272
  clear hP hD hS
  have hP : va_P E.1 classes [(mo, .inr (5, [.ref q1, .ref q97, .null, .int 0, .int 0, .null, .int 0, .null, .int 0, .null, .null, .int 0, .null, .int (bI false), .int 0, .int 0, .int 0, .int 0, .int 0, .int 0, .int 0, .int 0, .long 0, .int 0, .int 0, .int 0, .int (bI false), .int 0, .int 0])), (q1, .inl (E.2.1 0, 47, .inl (zF 0))), (q97, .inl (E.2.1 0, 47, .inl (zF 1))), (q193, .inl (E.2.1 0, 47, .inl g273))] Hn := hPn
  have hD : va_D A [(mo, .inr (5, [.ref q1, .ref q97, .null, .int 0, .int 0, .null, .int 0, .null, .int 0, .null, .null, .int 0, .null, .int (bI false), .int 0, .int 0, .int 0, .int 0, .int 0, .int 0, .int 0, .int 0, .long 0, .int 0, .int 0, .int 0, .int (bI false), .int 0, .int 0])), (q1, .inl (E.2.1 0, 47, .inl (zF 0))), (q97, .inl (E.2.1 0, 47, .inl (zF 1))), (q193, .inl (E.2.1 0, 47, .inl g273))] := hDn
  have hS := hSn
  clear hPn hDn hSn
  refine lv_dup hx hb d_M_init_844 rfl ?_
  refine lv_bipush (v := 40) hx hb d_M_init_845 (by decide) ?_
  refine lv_bipush (v := 38) hx hb d_M_init_847 (by decide) ?_
  refine va_iast (D := E.1) (x := 38) hx hb hK hP hD hS 3 0 rfl rfl (vp_in_iff.mpr (by decide)) d_M_init_849 (fun Hn locsn hPn hDn hSn => ?_)
  obtain ⟨g275, eg275⟩ : ∃ g : Nat → Int32, g = upd g273 (Int32.toNatClampNeg 40) 38 := ⟨_, rfl⟩
  have hq276 : ∀ j, j < 41 → g275 j = zF 2 j := by rw [eg275]; exact tb_s hq274 (by decide) (by decide)
  rw [← eg275] at hPn hDn
  clear eg275 hq274
  clear hP hD hS
  have hP : va_P E.1 classes [(mo, .inr (5, [.ref q1, .ref q97, .null, .int 0, .int 0, .null, .int 0, .null, .int 0, .null, .null, .int 0, .null, .int (bI false), .int 0, .int 0, .int 0, .int 0, .int 0, .int 0, .int 0, .int 0, .long 0, .int 0, .int 0, .int 0, .int (bI false), .int 0, .int 0])), (q1, .inl (E.2.1 0, 47, .inl (zF 0))), (q97, .inl (E.2.1 0, 47, .inl (zF 1))), (q193, .inl (E.2.1 0, 47, .inl g275))] Hn := hPn
  have hD : va_D A [(mo, .inr (5, [.ref q1, .ref q97, .null, .int 0, .int 0, .null, .int 0, .null, .int 0, .null, .null, .int 0, .null, .int (bI false), .int 0, .int 0, .int 0, .int 0, .int 0, .int 0, .int 0, .int 0, .long 0, .int 0, .int 0, .int 0, .int (bI false), .int 0, .int 0])), (q1, .inl (E.2.1 0, 47, .inl (zF 0))), (q97, .inl (E.2.1 0, 47, .inl (zF 1))), (q193, .inl (E.2.1 0, 47, .inl g275))] := hDn
  have hS := hSn
  clear hPn hDn hSn
  refine lv_dup hx hb d_M_init_850 rfl ?_
  refine lv_bipush (v := 41) hx hb d_M_init_851 (by decide) ?_
  refine lv_bipush (v := 39) hx hb d_M_init_853 (by decide) ?_
  refine va_iast (D := E.1) (x := 39) hx hb hK hP hD hS 3 0 rfl rfl (vp_in_iff.mpr (by decide)) d_M_init_855 (fun Hn locsn hPn hDn hSn => ?_)
  obtain ⟨g277, eg277⟩ : ∃ g : Nat → Int32, g = upd g275 (Int32.toNatClampNeg 41) 39 := ⟨_, rfl⟩
  have hq278 : ∀ j, j < 42 → g277 j = zF 2 j := by rw [eg277]; exact tb_s hq276 (by decide) (by decide)
  rw [← eg277] at hPn hDn
  clear eg277 hq276
  clear hP hD hS
  have hP : va_P E.1 classes [(mo, .inr (5, [.ref q1, .ref q97, .null, .int 0, .int 0, .null, .int 0, .null, .int 0, .null, .null, .int 0, .null, .int (bI false), .int 0, .int 0, .int 0, .int 0, .int 0, .int 0, .int 0, .int 0, .long 0, .int 0, .int 0, .int 0, .int (bI false), .int 0, .int 0])), (q1, .inl (E.2.1 0, 47, .inl (zF 0))), (q97, .inl (E.2.1 0, 47, .inl (zF 1))), (q193, .inl (E.2.1 0, 47, .inl g277))] Hn := hPn
  have hD : va_D A [(mo, .inr (5, [.ref q1, .ref q97, .null, .int 0, .int 0, .null, .int 0, .null, .int 0, .null, .null, .int 0, .null, .int (bI false), .int 0, .int 0, .int 0, .int 0, .int 0, .int 0, .int 0, .int 0, .long 0, .int 0, .int 0, .int 0, .int (bI false), .int 0, .int 0])), (q1, .inl (E.2.1 0, 47, .inl (zF 0))), (q97, .inl (E.2.1 0, 47, .inl (zF 1))), (q193, .inl (E.2.1 0, 47, .inl g277))] := hDn
  have hS := hSn
  clear hPn hDn hSn
  refine lv_dup hx hb d_M_init_856 rfl ?_
  refine lv_bipush (v := 42) hx hb d_M_init_857 (by decide) ?_
  refine lv_bipush (v := 40) hx hb d_M_init_859 (by decide) ?_
  refine va_iast (D := E.1) (x := 40) hx hb hK hP hD hS 3 0 rfl rfl (vp_in_iff.mpr (by decide)) d_M_init_861 (fun Hn locsn hPn hDn hSn => ?_)
  obtain ⟨g279, eg279⟩ : ∃ g : Nat → Int32, g = upd g277 (Int32.toNatClampNeg 42) 40 := ⟨_, rfl⟩
  have hq280 : ∀ j, j < 43 → g279 j = zF 2 j := by rw [eg279]; exact tb_s hq278 (by decide) (by decide)
  rw [← eg279] at hPn hDn
  clear eg279 hq278
  clear hP hD hS
  have hP : va_P E.1 classes [(mo, .inr (5, [.ref q1, .ref q97, .null, .int 0, .int 0, .null, .int 0, .null, .int 0, .null, .null, .int 0, .null, .int (bI false), .int 0, .int 0, .int 0, .int 0, .int 0, .int 0, .int 0, .int 0, .long 0, .int 0, .int 0, .int 0, .int (bI false), .int 0, .int 0])), (q1, .inl (E.2.1 0, 47, .inl (zF 0))), (q97, .inl (E.2.1 0, 47, .inl (zF 1))), (q193, .inl (E.2.1 0, 47, .inl g279))] Hn := hPn
  have hD : va_D A [(mo, .inr (5, [.ref q1, .ref q97, .null, .int 0, .int 0, .null, .int 0, .null, .int 0, .null, .null, .int 0, .null, .int (bI false), .int 0, .int 0, .int 0, .int 0, .int 0, .int 0, .int 0, .int 0, .long 0, .int 0, .int 0, .int 0, .int (bI false), .int 0, .int 0])), (q1, .inl (E.2.1 0, 47, .inl (zF 0))), (q97, .inl (E.2.1 0, 47, .inl (zF 1))), (q193, .inl (E.2.1 0, 47, .inl g279))] := hDn
  have hS := hSn
  clear hPn hDn hSn
  refine lv_dup hx hb d_M_init_862 rfl ?_
  refine lv_bipush (v := 43) hx hb d_M_init_863 (by decide) ?_
  refine lv_bipush (v := 41) hx hb d_M_init_865 (by decide) ?_
  refine va_iast (D := E.1) (x := 41) hx hb hK hP hD hS 3 0 rfl rfl (vp_in_iff.mpr (by decide)) d_M_init_867 (fun Hn locsn hPn hDn hSn => ?_)
  obtain ⟨g281, eg281⟩ : ∃ g : Nat → Int32, g = upd g279 (Int32.toNatClampNeg 43) 41 := ⟨_, rfl⟩
  have hq282 : ∀ j, j < 44 → g281 j = zF 2 j := by rw [eg281]; exact tb_s hq280 (by decide) (by decide)
  rw [← eg281] at hPn hDn
  clear eg281 hq280
  clear hP hD hS
  have hP : va_P E.1 classes [(mo, .inr (5, [.ref q1, .ref q97, .null, .int 0, .int 0, .null, .int 0, .null, .int 0, .null, .null, .int 0, .null, .int (bI false), .int 0, .int 0, .int 0, .int 0, .int 0, .int 0, .int 0, .int 0, .long 0, .int 0, .int 0, .int 0, .int (bI false), .int 0, .int 0])), (q1, .inl (E.2.1 0, 47, .inl (zF 0))), (q97, .inl (E.2.1 0, 47, .inl (zF 1))), (q193, .inl (E.2.1 0, 47, .inl g281))] Hn := hPn
  have hD : va_D A [(mo, .inr (5, [.ref q1, .ref q97, .null, .int 0, .int 0, .null, .int 0, .null, .int 0, .null, .null, .int 0, .null, .int (bI false), .int 0, .int 0, .int 0, .int 0, .int 0, .int 0, .int 0, .int 0, .long 0, .int 0, .int 0, .int 0, .int (bI false), .int 0, .int 0])), (q1, .inl (E.2.1 0, 47, .inl (zF 0))), (q97, .inl (E.2.1 0, 47, .inl (zF 1))), (q193, .inl (E.2.1 0, 47, .inl g281))] := hDn
  have hS := hSn
  clear hPn hDn hSn
  refine lv_dup hx hb d_M_init_868 rfl ?_
  refine lv_bipush (v := 44) hx hb d_M_init_869 (by decide) ?_
  refine lv_bipush (v := 42) hx hb d_M_init_871 (by decide) ?_
  refine va_iast (D := E.1) (x := 42) hx hb hK hP hD hS 3 0 rfl rfl (vp_in_iff.mpr (by decide)) d_M_init_873 (fun Hn locsn hPn hDn hSn => ?_)
  obtain ⟨g283, eg283⟩ : ∃ g : Nat → Int32, g = upd g281 (Int32.toNatClampNeg 44) 42 := ⟨_, rfl⟩
  have hq284 : ∀ j, j < 45 → g283 j = zF 2 j := by rw [eg283]; exact tb_s hq282 (by decide) (by decide)
  rw [← eg283] at hPn hDn
  clear eg283 hq282
  clear hP hD hS
  have hP : va_P E.1 classes [(mo, .inr (5, [.ref q1, .ref q97, .null, .int 0, .int 0, .null, .int 0, .null, .int 0, .null, .null, .int 0, .null, .int (bI false), .int 0, .int 0, .int 0, .int 0, .int 0, .int 0, .int 0, .int 0, .long 0, .int 0, .int 0, .int 0, .int (bI false), .int 0, .int 0])), (q1, .inl (E.2.1 0, 47, .inl (zF 0))), (q97, .inl (E.2.1 0, 47, .inl (zF 1))), (q193, .inl (E.2.1 0, 47, .inl g283))] Hn := hPn
  have hD : va_D A [(mo, .inr (5, [.ref q1, .ref q97, .null, .int 0, .int 0, .null, .int 0, .null, .int 0, .null, .null, .int 0, .null, .int (bI false), .int 0, .int 0, .int 0, .int 0, .int 0, .int 0, .int 0, .int 0, .long 0, .int 0, .int 0, .int 0, .int (bI false), .int 0, .int 0])), (q1, .inl (E.2.1 0, 47, .inl (zF 0))), (q97, .inl (E.2.1 0, 47, .inl (zF 1))), (q193, .inl (E.2.1 0, 47, .inl g283))] := hDn
  have hS := hSn
  clear hPn hDn hSn
  refine lv_dup hx hb d_M_init_874 rfl ?_
  refine lv_bipush (v := 45) hx hb d_M_init_875 (by decide) ?_
  refine lv_bipush (v := 43) hx hb d_M_init_877 (by decide) ?_
  refine va_iast (D := E.1) (x := 43) hx hb hK hP hD hS 3 0 rfl rfl (vp_in_iff.mpr (by decide)) d_M_init_879 (fun Hn locsn hPn hDn hSn => ?_)
  obtain ⟨g285, eg285⟩ : ∃ g : Nat → Int32, g = upd g283 (Int32.toNatClampNeg 45) 43 := ⟨_, rfl⟩
  have hq286 : ∀ j, j < 46 → g285 j = zF 2 j := by rw [eg285]; exact tb_s hq284 (by decide) (by decide)
  rw [← eg285] at hPn hDn
  clear eg285 hq284
  clear hP hD hS
  have hP : va_P E.1 classes [(mo, .inr (5, [.ref q1, .ref q97, .null, .int 0, .int 0, .null, .int 0, .null, .int 0, .null, .null, .int 0, .null, .int (bI false), .int 0, .int 0, .int 0, .int 0, .int 0, .int 0, .int 0, .int 0, .long 0, .int 0, .int 0, .int 0, .int (bI false), .int 0, .int 0])), (q1, .inl (E.2.1 0, 47, .inl (zF 0))), (q97, .inl (E.2.1 0, 47, .inl (zF 1))), (q193, .inl (E.2.1 0, 47, .inl g285))] Hn := hPn
  have hD : va_D A [(mo, .inr (5, [.ref q1, .ref q97, .null, .int 0, .int 0, .null, .int 0, .null, .int 0, .null, .null, .int 0, .null, .int (bI false), .int 0, .int 0, .int 0, .int 0, .int 0, .int 0, .int 0, .int 0, .long 0, .int 0, .int 0, .int 0, .int (bI false), .int 0, .int 0])), (q1, .inl (E.2.1 0, 47, .inl (zF 0))), (q97, .inl (E.2.1 0, 47, .inl (zF 1))), (q193, .inl (E.2.1 0, 47, .inl g285))] := hDn
  have hS := hSn
  clear hPn hDn hSn
  refine lv_dup hx hb d_M_init_880 rfl ?_
  refine lv_bipush (v := 46) hx hb d_M_init_881 (by decide) ?_
  refine lv_bipush (v := 46) hx hb d_M_init_883 (by decide) ?_
  refine va_iast (D := E.1) (x := 46) hx hb hK hP hD hS 3 0 rfl rfl (vp_in_iff.mpr (by decide)) d_M_init_885 (fun Hn locsn hPn hDn hSn => ?_)
  obtain ⟨g287, eg287⟩ : ∃ g : Nat → Int32, g = upd g285 (Int32.toNatClampNeg 46) 46 := ⟨_, rfl⟩
  have hq288 : ∀ j, j < 47 → g287 j = zF 2 j := by rw [eg287]; exact tb_s hq286 (by decide) (by decide)
  rw [← eg287] at hPn hDn
  clear eg287 hq286
  clear hP hD hS
  have hP : va_P E.1 classes [(mo, .inr (5, [.ref q1, .ref q97, .null, .int 0, .int 0, .null, .int 0, .null, .int 0, .null, .null, .int 0, .null, .int (bI false), .int 0, .int 0, .int 0, .int 0, .int 0, .int 0, .int 0, .int 0, .long 0, .int 0, .int 0, .int 0, .int (bI false), .int 0, .int 0])), (q1, .inl (E.2.1 0, 47, .inl (zF 0))), (q97, .inl (E.2.1 0, 47, .inl (zF 1))), (q193, .inl (E.2.1 0, 47, .inl g287))] Hn := hPn
  have hD : va_D A [(mo, .inr (5, [.ref q1, .ref q97, .null, .int 0, .int 0, .null, .int 0, .null, .int 0, .null, .null, .int 0, .null, .int (bI false), .int 0, .int 0, .int 0, .int 0, .int 0, .int 0, .int 0, .int 0, .long 0, .int 0, .int 0, .int 0, .int (bI false), .int 0, .int 0])), (q1, .inl (E.2.1 0, 47, .inl (zF 0))), (q97, .inl (E.2.1 0, 47, .inl (zF 1))), (q193, .inl (E.2.1 0, 47, .inl g287))] := hDn
  have hS := hSn
  clear hPn hDn hSn
  refine va_putF (D := E.1) (ci := 5) (v := .ref q193) (ty := (.array .int)) (C := R_M) (T := T_M) (N := 29) hx hb hts in_M t_M t_M_ok n_M hown hK hP hD hS 0 rfl rfl 2 (by decide) (hts _ m_612) (fun _ h9 => h9) rfl hin rfl (by decide +kernel) rfl rfl (Nat.le_of_ble_eq_true rfl) d_M_init_886 (fun Hn locsn hPn hDn hSn => ?_)
  clear hP hD hS
  have hP : va_P E.1 classes [(mo, .inr (5, [.ref q1, .ref q97, .ref q193, .int 0, .int 0, .null, .int 0, .null, .int 0, .null, .null, .int 0, .null, .int (bI false), .int 0, .int 0, .int 0, .int 0, .int 0, .int 0, .int 0, .int 0, .long 0, .int 0, .int 0, .int 0, .int (bI false), .int 0, .int 0])), (q1, .inl (E.2.1 0, 47, .inl (zF 0))), (q97, .inl (E.2.1 0, 47, .inl (zF 1))), (q193, .inl (E.2.1 0, 47, .inl g287))] Hn := hPn
  have hD : va_D A [(mo, .inr (5, [.ref q1, .ref q97, .ref q193, .int 0, .int 0, .null, .int 0, .null, .int 0, .null, .null, .int 0, .null, .int (bI false), .int 0, .int 0, .int 0, .int 0, .int 0, .int 0, .int 0, .int 0, .long 0, .int 0, .int 0, .int 0, .int (bI false), .int 0, .int 0])), (q1, .inl (E.2.1 0, 47, .inl (zF 0))), (q97, .inl (E.2.1 0, 47, .inl (zF 1))), (q193, .inl (E.2.1 0, 47, .inl g287))] := hDn
  have hS := hSn
  clear hPn hDn hSn
  have hPn := ar_ext hP (k := 3) rfl hq288
  have hDn := ar_extD (e2 := .inl (E.2.1 0, 47, .inl (zF 2))) hD (k := 3) rfl
  have hSn := hS
  clear hq288
  clear hP hD hS
  have hP : va_P E.1 classes [(mo, .inr (5, [.ref q1, .ref q97, .ref q193, .int 0, .int 0, .null, .int 0, .null, .int 0, .null, .null, .int 0, .null, .int (bI false), .int 0, .int 0, .int 0, .int 0, .int 0, .int 0, .int 0, .int 0, .long 0, .int 0, .int 0, .int 0, .int (bI false), .int 0, .int 0])), (q1, .inl (E.2.1 0, 47, .inl (zF 0))), (q97, .inl (E.2.1 0, 47, .inl (zF 1))), (q193, .inl (E.2.1 0, 47, .inl (zF 2)))] _ := hPn
  have hD : va_D A [(mo, .inr (5, [.ref q1, .ref q97, .ref q193, .int 0, .int 0, .null, .int 0, .null, .int 0, .null, .null, .int 0, .null, .int (bI false), .int 0, .int 0, .int 0, .int 0, .int 0, .int 0, .int 0, .int 0, .long 0, .int 0, .int 0, .int 0, .int (bI false), .int 0, .int 0])), (q1, .inl (E.2.1 0, 47, .inl (zF 0))), (q97, .inl (E.2.1 0, 47, .inl (zF 1))), (q193, .inl (E.2.1 0, 47, .inl (zF 2)))] := hDn
  have hS := hSn
  clear hPn hDn hSn
  refine lv_aload_n hx hb d_M_init_889 rfl (lv_at hl 0 rfl) ?_
  refine lv_ldc (v := 139264) hx hb hown (hts _ m_601) d_M_init_890 ?_
  refine ar_newI (N := 139264) hx hb hts hP hD hS hA hK (by decide) rfl (by show 139264 * 4 ≤ 536870912; omega) (Nat.le_of_ble_eq_true rfl) (by show 141 + 139264 ≤ 654821; omega) d_M_init_892 (fun q289 Hn hPn hDn hSn => ?_)
  clear hP hD hS
  have hP : va_P E.1 classes [(mo, .inr (5, [.ref q1, .ref q97, .ref q193, .int 0, .int 0, .null, .int 0, .null, .int 0, .null, .null, .int 0, .null, .int (bI false), .int 0, .int 0, .int 0, .int 0, .int 0, .int 0, .int 0, .int 0, .long 0, .int 0, .int 0, .int 0, .int (bI false), .int 0, .int 0])), (q1, .inl (E.2.1 0, 47, .inl (zF 0))), (q97, .inl (E.2.1 0, 47, .inl (zF 1))), (q193, .inl (E.2.1 0, 47, .inl (zF 2))), (q289, .inl (E.2.1 0, 139264, .inl (fun _ => 0)))] Hn := hPn
  have hD : va_D A [(mo, .inr (5, [.ref q1, .ref q97, .ref q193, .int 0, .int 0, .null, .int 0, .null, .int 0, .null, .null, .int 0, .null, .int (bI false), .int 0, .int 0, .int 0, .int 0, .int 0, .int 0, .int 0, .int 0, .long 0, .int 0, .int 0, .int 0, .int (bI false), .int 0, .int 0])), (q1, .inl (E.2.1 0, 47, .inl (zF 0))), (q97, .inl (E.2.1 0, 47, .inl (zF 1))), (q193, .inl (E.2.1 0, 47, .inl (zF 2))), (q289, .inl (E.2.1 0, 139264, .inl (fun _ => 0)))] := hDn
  have hS := hSn
  clear hPn hDn hSn
  refine W.widen (k := 4) (n := 139405) (by omega) (by omega) ?_
  refine va_putF (D := E.1) (ci := 5) (v := .ref q289) (ty := (.array .int)) (C := R_M) (T := T_M) (N := 29) hx hb hts in_M t_M t_M_ok n_M hown hK hP hD hS 0 rfl rfl 5 (by decide) (hts _ m_615) (fun _ h9 => h9) rfl hin rfl (by decide +kernel) rfl rfl (Nat.le_of_ble_eq_true rfl) d_M_init_894 (fun Hn locsn hPn hDn hSn => ?_)
  clear hP hD hS
  have hP : va_P E.1 classes [(mo, .inr (5, [.ref q1, .ref q97, .ref q193, .int 0, .int 0, .ref q289, .int 0, .null, .int 0, .null, .null, .int 0, .null, .int (bI false), .int 0, .int 0, .int 0, .int 0, .int 0, .int 0, .int 0, .int 0, .long 0, .int 0, .int 0, .int 0, .int (bI false), .int 0, .int 0])), (q1, .inl (E.2.1 0, 47, .inl (zF 0))), (q97, .inl (E.2.1 0, 47, .inl (zF 1))), (q193, .inl (E.2.1 0, 47, .inl (zF 2))), (q289, .inl (E.2.1 0, 139264, .inl (fun _ => 0)))] Hn := hPn
  have hD : va_D A [(mo, .inr (5, [.ref q1, .ref q97, .ref q193, .int 0, .int 0, .ref q289, .int 0, .null, .int 0, .null, .null, .int 0, .null, .int (bI false), .int 0, .int 0, .int 0, .int 0, .int 0, .int 0, .int 0, .int 0, .long 0, .int 0, .int 0, .int 0, .int (bI false), .int 0, .int 0])), (q1, .inl (E.2.1 0, 47, .inl (zF 0))), (q97, .inl (E.2.1 0, 47, .inl (zF 1))), (q193, .inl (E.2.1 0, 47, .inl (zF 2))), (q289, .inl (E.2.1 0, 139264, .inl (fun _ => 0)))] := hDn
  have hS := hSn
  clear hPn hDn hSn
  refine lv_aload_n hx hb d_M_init_897 rfl (lv_at hl 0 rfl) ?_
  refine lv_ldc (v := 393216) hx hb hown (hts _ m_602) d_M_init_898 ?_
  refine ar_newI (N := 393216) hx hb hts hP hD hS hA hK (by decide) rfl (by show 393216 * 4 ≤ 536870912; omega) (Nat.le_of_ble_eq_true rfl) (by show 139405 + 393216 ≤ 654821; omega) d_M_init_900 (fun q290 Hn hPn hDn hSn => ?_)
  clear hP hD hS
  have hP : va_P E.1 classes [(mo, .inr (5, [.ref q1, .ref q97, .ref q193, .int 0, .int 0, .ref q289, .int 0, .null, .int 0, .null, .null, .int 0, .null, .int (bI false), .int 0, .int 0, .int 0, .int 0, .int 0, .int 0, .int 0, .int 0, .long 0, .int 0, .int 0, .int 0, .int (bI false), .int 0, .int 0])), (q1, .inl (E.2.1 0, 47, .inl (zF 0))), (q97, .inl (E.2.1 0, 47, .inl (zF 1))), (q193, .inl (E.2.1 0, 47, .inl (zF 2))), (q289, .inl (E.2.1 0, 139264, .inl (fun _ => 0))), (q290, .inl (E.2.1 0, 393216, .inl (fun _ => 0)))] Hn := hPn
  have hD : va_D A [(mo, .inr (5, [.ref q1, .ref q97, .ref q193, .int 0, .int 0, .ref q289, .int 0, .null, .int 0, .null, .null, .int 0, .null, .int (bI false), .int 0, .int 0, .int 0, .int 0, .int 0, .int 0, .int 0, .int 0, .long 0, .int 0, .int 0, .int 0, .int (bI false), .int 0, .int 0])), (q1, .inl (E.2.1 0, 47, .inl (zF 0))), (q97, .inl (E.2.1 0, 47, .inl (zF 1))), (q193, .inl (E.2.1 0, 47, .inl (zF 2))), (q289, .inl (E.2.1 0, 139264, .inl (fun _ => 0))), (q290, .inl (E.2.1 0, 393216, .inl (fun _ => 0)))] := hDn
  have hS := hSn
  clear hPn hDn hSn
  refine W.widen (k := 5) (n := 532621) (by omega) (by omega) ?_
  refine va_putF (D := E.1) (ci := 5) (v := .ref q290) (ty := (.array .int)) (C := R_M) (T := T_M) (N := 29) hx hb hts in_M t_M t_M_ok n_M hown hK hP hD hS 0 rfl rfl 7 (by decide) (hts _ m_617) (fun _ h9 => h9) rfl hin rfl (by decide +kernel) rfl rfl (Nat.le_of_ble_eq_true rfl) d_M_init_902 (fun Hn locsn hPn hDn hSn => ?_)
  clear hP hD hS
  have hP : va_P E.1 classes [(mo, .inr (5, [.ref q1, .ref q97, .ref q193, .int 0, .int 0, .ref q289, .int 0, .ref q290, .int 0, .null, .null, .int 0, .null, .int (bI false), .int 0, .int 0, .int 0, .int 0, .int 0, .int 0, .int 0, .int 0, .long 0, .int 0, .int 0, .int 0, .int (bI false), .int 0, .int 0])), (q1, .inl (E.2.1 0, 47, .inl (zF 0))), (q97, .inl (E.2.1 0, 47, .inl (zF 1))), (q193, .inl (E.2.1 0, 47, .inl (zF 2))), (q289, .inl (E.2.1 0, 139264, .inl (fun _ => 0))), (q290, .inl (E.2.1 0, 393216, .inl (fun _ => 0)))] Hn := hPn
  have hD : va_D A [(mo, .inr (5, [.ref q1, .ref q97, .ref q193, .int 0, .int 0, .ref q289, .int 0, .ref q290, .int 0, .null, .null, .int 0, .null, .int (bI false), .int 0, .int 0, .int 0, .int 0, .int 0, .int 0, .int 0, .int 0, .long 0, .int 0, .int 0, .int 0, .int (bI false), .int 0, .int 0])), (q1, .inl (E.2.1 0, 47, .inl (zF 0))), (q97, .inl (E.2.1 0, 47, .inl (zF 1))), (q193, .inl (E.2.1 0, 47, .inl (zF 2))), (q289, .inl (E.2.1 0, 139264, .inl (fun _ => 0))), (q290, .inl (E.2.1 0, 393216, .inl (fun _ => 0)))] := hDn
  have hS := hSn
  clear hPn hDn hSn
  refine lv_aload_n hx hb d_M_init_905 rfl (lv_at hl 0 rfl) ?_
  refine lv_sipush (v := 1100) hx hb d_M_init_906 (by decide) ?_
  refine ar_newI (N := 1100) hx hb hts hP hD hS hA hK (by decide) rfl (by show 1100 * 4 ≤ 536870912; omega) (Nat.le_of_ble_eq_true rfl) (by show 532621 + 1100 ≤ 654821; omega) d_M_init_909 (fun q291 Hn hPn hDn hSn => ?_)
  clear hP hD hS
  have hP : va_P E.1 classes [(mo, .inr (5, [.ref q1, .ref q97, .ref q193, .int 0, .int 0, .ref q289, .int 0, .ref q290, .int 0, .null, .null, .int 0, .null, .int (bI false), .int 0, .int 0, .int 0, .int 0, .int 0, .int 0, .int 0, .int 0, .long 0, .int 0, .int 0, .int 0, .int (bI false), .int 0, .int 0])), (q1, .inl (E.2.1 0, 47, .inl (zF 0))), (q97, .inl (E.2.1 0, 47, .inl (zF 1))), (q193, .inl (E.2.1 0, 47, .inl (zF 2))), (q289, .inl (E.2.1 0, 139264, .inl (fun _ => 0))), (q290, .inl (E.2.1 0, 393216, .inl (fun _ => 0))), (q291, .inl (E.2.1 0, 1100, .inl (fun _ => 0)))] Hn := hPn
  have hD : va_D A [(mo, .inr (5, [.ref q1, .ref q97, .ref q193, .int 0, .int 0, .ref q289, .int 0, .ref q290, .int 0, .null, .null, .int 0, .null, .int (bI false), .int 0, .int 0, .int 0, .int 0, .int 0, .int 0, .int 0, .int 0, .long 0, .int 0, .int 0, .int 0, .int (bI false), .int 0, .int 0])), (q1, .inl (E.2.1 0, 47, .inl (zF 0))), (q97, .inl (E.2.1 0, 47, .inl (zF 1))), (q193, .inl (E.2.1 0, 47, .inl (zF 2))), (q289, .inl (E.2.1 0, 139264, .inl (fun _ => 0))), (q290, .inl (E.2.1 0, 393216, .inl (fun _ => 0))), (q291, .inl (E.2.1 0, 1100, .inl (fun _ => 0)))] := hDn
  have hS := hSn
  clear hPn hDn hSn
  refine W.widen (k := 6) (n := 533721) (by omega) (by omega) ?_
  refine va_putF (D := E.1) (ci := 5) (v := .ref q291) (ty := (.array .int)) (C := R_M) (T := T_M) (N := 29) hx hb hts in_M t_M t_M_ok n_M hown hK hP hD hS 0 rfl rfl 9 (by decide) (hts _ m_619) (fun _ h9 => h9) rfl hin rfl (by decide +kernel) rfl rfl (Nat.le_of_ble_eq_true rfl) d_M_init_911 (fun Hn locsn hPn hDn hSn => ?_)
  clear hP hD hS
  have hP : va_P E.1 classes [(mo, .inr (5, [.ref q1, .ref q97, .ref q193, .int 0, .int 0, .ref q289, .int 0, .ref q290, .int 0, .ref q291, .null, .int 0, .null, .int (bI false), .int 0, .int 0, .int 0, .int 0, .int 0, .int 0, .int 0, .int 0, .long 0, .int 0, .int 0, .int 0, .int (bI false), .int 0, .int 0])), (q1, .inl (E.2.1 0, 47, .inl (zF 0))), (q97, .inl (E.2.1 0, 47, .inl (zF 1))), (q193, .inl (E.2.1 0, 47, .inl (zF 2))), (q289, .inl (E.2.1 0, 139264, .inl (fun _ => 0))), (q290, .inl (E.2.1 0, 393216, .inl (fun _ => 0))), (q291, .inl (E.2.1 0, 1100, .inl (fun _ => 0)))] Hn := hPn
  have hD : va_D A [(mo, .inr (5, [.ref q1, .ref q97, .ref q193, .int 0, .int 0, .ref q289, .int 0, .ref q290, .int 0, .ref q291, .null, .int 0, .null, .int (bI false), .int 0, .int 0, .int 0, .int 0, .int 0, .int 0, .int 0, .int 0, .long 0, .int 0, .int 0, .int 0, .int (bI false), .int 0, .int 0])), (q1, .inl (E.2.1 0, 47, .inl (zF 0))), (q97, .inl (E.2.1 0, 47, .inl (zF 1))), (q193, .inl (E.2.1 0, 47, .inl (zF 2))), (q289, .inl (E.2.1 0, 139264, .inl (fun _ => 0))), (q290, .inl (E.2.1 0, 393216, .inl (fun _ => 0))), (q291, .inl (E.2.1 0, 1100, .inl (fun _ => 0)))] := hDn
  have hS := hSn
  clear hPn hDn hSn
  refine lv_aload_n hx hb d_M_init_914 rfl (lv_at hl 0 rfl) ?_
  refine lv_sipush (v := 1100) hx hb d_M_init_915 (by decide) ?_
  refine ar_newZ (N := 1100) hx hb hts hP hD hS hA hK (by decide) rfl (by show 1100 * 1 ≤ 536870912; omega) (Nat.le_of_ble_eq_true rfl) (by show 533721 + 1100 ≤ 654821; omega) d_M_init_918 (fun q292 Hn hPn hDn hSn => ?_)
  clear hP hD hS
  have hP : va_P E.1 classes [(mo, .inr (5, [.ref q1, .ref q97, .ref q193, .int 0, .int 0, .ref q289, .int 0, .ref q290, .int 0, .ref q291, .null, .int 0, .null, .int (bI false), .int 0, .int 0, .int 0, .int 0, .int 0, .int 0, .int 0, .int 0, .long 0, .int 0, .int 0, .int 0, .int (bI false), .int 0, .int 0])), (q1, .inl (E.2.1 0, 47, .inl (zF 0))), (q97, .inl (E.2.1 0, 47, .inl (zF 1))), (q193, .inl (E.2.1 0, 47, .inl (zF 2))), (q289, .inl (E.2.1 0, 139264, .inl (fun _ => 0))), (q290, .inl (E.2.1 0, 393216, .inl (fun _ => 0))), (q291, .inl (E.2.1 0, 1100, .inl (fun _ => 0))), (q292, .inl (E.2.1 1, 1100, .inl (fun _ => 0)))] Hn := hPn
  have hD : va_D A [(mo, .inr (5, [.ref q1, .ref q97, .ref q193, .int 0, .int 0, .ref q289, .int 0, .ref q290, .int 0, .ref q291, .null, .int 0, .null, .int (bI false), .int 0, .int 0, .int 0, .int 0, .int 0, .int 0, .int 0, .int 0, .long 0, .int 0, .int 0, .int 0, .int (bI false), .int 0, .int 0])), (q1, .inl (E.2.1 0, 47, .inl (zF 0))), (q97, .inl (E.2.1 0, 47, .inl (zF 1))), (q193, .inl (E.2.1 0, 47, .inl (zF 2))), (q289, .inl (E.2.1 0, 139264, .inl (fun _ => 0))), (q290, .inl (E.2.1 0, 393216, .inl (fun _ => 0))), (q291, .inl (E.2.1 0, 1100, .inl (fun _ => 0))), (q292, .inl (E.2.1 1, 1100, .inl (fun _ => 0)))] := hDn
  have hS := hSn
  clear hPn hDn hSn
  refine W.widen (k := 7) (n := 534821) (by omega) (by omega) ?_
  refine va_putF (D := E.1) (ci := 5) (v := .ref q292) (ty := (.array .boolean)) (C := R_M) (T := T_M) (N := 29) hx hb hts in_M t_M t_M_ok n_M hown hK hP hD hS 0 rfl rfl 10 (by decide) (hts _ m_620) (fun _ h9 => h9) rfl hin rfl (by decide +kernel) rfl rfl (Nat.le_of_ble_eq_true rfl) d_M_init_920 (fun Hn locsn hPn hDn hSn => ?_)
  clear hP hD hS
  have hP : va_P E.1 classes [(mo, .inr (5, [.ref q1, .ref q97, .ref q193, .int 0, .int 0, .ref q289, .int 0, .ref q290, .int 0, .ref q291, .ref q292, .int 0, .null, .int (bI false), .int 0, .int 0, .int 0, .int 0, .int 0, .int 0, .int 0, .int 0, .long 0, .int 0, .int 0, .int 0, .int (bI false), .int 0, .int 0])), (q1, .inl (E.2.1 0, 47, .inl (zF 0))), (q97, .inl (E.2.1 0, 47, .inl (zF 1))), (q193, .inl (E.2.1 0, 47, .inl (zF 2))), (q289, .inl (E.2.1 0, 139264, .inl (fun _ => 0))), (q290, .inl (E.2.1 0, 393216, .inl (fun _ => 0))), (q291, .inl (E.2.1 0, 1100, .inl (fun _ => 0))), (q292, .inl (E.2.1 1, 1100, .inl (fun _ => 0)))] Hn := hPn
  have hD : va_D A [(mo, .inr (5, [.ref q1, .ref q97, .ref q193, .int 0, .int 0, .ref q289, .int 0, .ref q290, .int 0, .ref q291, .ref q292, .int 0, .null, .int (bI false), .int 0, .int 0, .int 0, .int 0, .int 0, .int 0, .int 0, .int 0, .long 0, .int 0, .int 0, .int 0, .int (bI false), .int 0, .int 0])), (q1, .inl (E.2.1 0, 47, .inl (zF 0))), (q97, .inl (E.2.1 0, 47, .inl (zF 1))), (q193, .inl (E.2.1 0, 47, .inl (zF 2))), (q289, .inl (E.2.1 0, 139264, .inl (fun _ => 0))), (q290, .inl (E.2.1 0, 393216, .inl (fun _ => 0))), (q291, .inl (E.2.1 0, 1100, .inl (fun _ => 0))), (q292, .inl (E.2.1 1, 1100, .inl (fun _ => 0)))] := hDn
  have hS := hSn
  clear hPn hDn hSn
  refine lv_aload_n hx hb d_M_init_923 rfl (lv_at hl 0 rfl) ?_
  refine lv_ldc (v := 120000) hx hb hown (hts _ m_603) d_M_init_924 ?_
  refine ar_newI (N := 120000) hx hb hts hP hD hS hA hK (by decide) rfl (by show 120000 * 4 ≤ 536870912; omega) (Nat.le_of_ble_eq_true rfl) (by show 534821 + 120000 ≤ 654821; omega) d_M_init_926 (fun q293 Hn hPn hDn hSn => ?_)
  clear hP hD hS
  have hP : va_P E.1 classes [(mo, .inr (5, [.ref q1, .ref q97, .ref q193, .int 0, .int 0, .ref q289, .int 0, .ref q290, .int 0, .ref q291, .ref q292, .int 0, .null, .int (bI false), .int 0, .int 0, .int 0, .int 0, .int 0, .int 0, .int 0, .int 0, .long 0, .int 0, .int 0, .int 0, .int (bI false), .int 0, .int 0])), (q1, .inl (E.2.1 0, 47, .inl (zF 0))), (q97, .inl (E.2.1 0, 47, .inl (zF 1))), (q193, .inl (E.2.1 0, 47, .inl (zF 2))), (q289, .inl (E.2.1 0, 139264, .inl (fun _ => 0))), (q290, .inl (E.2.1 0, 393216, .inl (fun _ => 0))), (q291, .inl (E.2.1 0, 1100, .inl (fun _ => 0))), (q292, .inl (E.2.1 1, 1100, .inl (fun _ => 0))), (q293, .inl (E.2.1 0, 120000, .inl (fun _ => 0)))] Hn := hPn
  have hD : va_D A [(mo, .inr (5, [.ref q1, .ref q97, .ref q193, .int 0, .int 0, .ref q289, .int 0, .ref q290, .int 0, .ref q291, .ref q292, .int 0, .null, .int (bI false), .int 0, .int 0, .int 0, .int 0, .int 0, .int 0, .int 0, .int 0, .long 0, .int 0, .int 0, .int 0, .int (bI false), .int 0, .int 0])), (q1, .inl (E.2.1 0, 47, .inl (zF 0))), (q97, .inl (E.2.1 0, 47, .inl (zF 1))), (q193, .inl (E.2.1 0, 47, .inl (zF 2))), (q289, .inl (E.2.1 0, 139264, .inl (fun _ => 0))), (q290, .inl (E.2.1 0, 393216, .inl (fun _ => 0))), (q291, .inl (E.2.1 0, 1100, .inl (fun _ => 0))), (q292, .inl (E.2.1 1, 1100, .inl (fun _ => 0))), (q293, .inl (E.2.1 0, 120000, .inl (fun _ => 0)))] := hDn
  have hS := hSn
  clear hPn hDn hSn
  refine W.widen (k := 8) (n := 654821) (by omega) (by omega) ?_
  refine va_putF (D := E.1) (ci := 5) (v := .ref q293) (ty := (.array .int)) (C := R_M) (T := T_M) (N := 29) hx hb hts in_M t_M t_M_ok n_M hown hK hP hD hS 0 rfl rfl 12 (by decide) (hts _ m_622) (fun _ h9 => h9) rfl hin rfl (by decide +kernel) rfl rfl (Nat.le_of_ble_eq_true rfl) d_M_init_928 (fun Hn locsn hPn hDn hSn => ?_)
  clear hP hD hS
  have hP : va_P E.1 classes [(mo, .inr (5, [.ref q1, .ref q97, .ref q193, .int 0, .int 0, .ref q289, .int 0, .ref q290, .int 0, .ref q291, .ref q292, .int 0, .ref q293, .int (bI false), .int 0, .int 0, .int 0, .int 0, .int 0, .int 0, .int 0, .int 0, .long 0, .int 0, .int 0, .int 0, .int (bI false), .int 0, .int 0])), (q1, .inl (E.2.1 0, 47, .inl (zF 0))), (q97, .inl (E.2.1 0, 47, .inl (zF 1))), (q193, .inl (E.2.1 0, 47, .inl (zF 2))), (q289, .inl (E.2.1 0, 139264, .inl (fun _ => 0))), (q290, .inl (E.2.1 0, 393216, .inl (fun _ => 0))), (q291, .inl (E.2.1 0, 1100, .inl (fun _ => 0))), (q292, .inl (E.2.1 1, 1100, .inl (fun _ => 0))), (q293, .inl (E.2.1 0, 120000, .inl (fun _ => 0)))] Hn := hPn
  have hD : va_D A [(mo, .inr (5, [.ref q1, .ref q97, .ref q193, .int 0, .int 0, .ref q289, .int 0, .ref q290, .int 0, .ref q291, .ref q292, .int 0, .ref q293, .int (bI false), .int 0, .int 0, .int 0, .int 0, .int 0, .int 0, .int 0, .int 0, .long 0, .int 0, .int 0, .int 0, .int (bI false), .int 0, .int 0])), (q1, .inl (E.2.1 0, 47, .inl (zF 0))), (q97, .inl (E.2.1 0, 47, .inl (zF 1))), (q193, .inl (E.2.1 0, 47, .inl (zF 2))), (q289, .inl (E.2.1 0, 139264, .inl (fun _ => 0))), (q290, .inl (E.2.1 0, 393216, .inl (fun _ => 0))), (q291, .inl (E.2.1 0, 1100, .inl (fun _ => 0))), (q292, .inl (E.2.1 1, 1100, .inl (fun _ => 0))), (q293, .inl (E.2.1 0, 120000, .inl (fun _ => 0)))] := hDn
  have hS := hSn
  clear hPn hDn hSn
  refine lv_aload_n hx hb d_M_init_931 rfl (lv_at hl 0 rfl) ?_
  refine lv_iload_n hx hb d_M_init_932 rfl (lv_at hl 1 rfl) ?_
  refine lv_iconst (v := 1) hx hb d_M_init_933 (by decide) ?_
  refine lv_icmp_ge (tgt := 941) hx hb d_M_init_934 (by decide) (fun c294 => ?_) (fun c294 => ?_)
  · skip
    refine lv_iload_n hx hb d_M_init_941 rfl (lv_at hl 1 rfl) ?_
    refine lv_ldc (v := 65536) hx hb hown (hts _ m_604) d_M_init_942 ?_
    refine lv_icmp_le (tgt := 952) hx hb d_M_init_944 (by decide) (fun c295 => ?_) (fun c295 => ?_)
    · skip
      refine lv_iload_n hx hb d_M_init_952 rfl (lv_at hl 1 rfl) ?_
      refine lv_topi (fun x296 ex296 => ?_)
      have ex296 := ex296.trans (many_c hnx0 c294 c295)
      subst ex296
      refine va_putF (D := E.1) (ci := 5) (v := .int (nI nx)) (ty := .int) (C := R_M) (T := T_M) (N := 29) hx hb hts in_M t_M t_M_ok n_M hown hK hP hD hS 0 rfl rfl 4 (by decide) (hts _ m_614) (fun _ h9 => h9) rfl hin rfl (by decide +kernel) rfl rfl (Nat.le_of_ble_eq_true rfl) d_M_init_953 (fun Hn locsn hPn hDn hSn => ?_)
      clear hP hD hS
      have hP : va_P E.1 classes [(mo, .inr (5, [.ref q1, .ref q97, .ref q193, .int 0, .int (nI nx), .ref q289, .int 0, .ref q290, .int 0, .ref q291, .ref q292, .int 0, .ref q293, .int (bI false), .int 0, .int 0, .int 0, .int 0, .int 0, .int 0, .int 0, .int 0, .long 0, .int 0, .int 0, .int 0, .int (bI false), .int 0, .int 0])), (q1, .inl (E.2.1 0, 47, .inl (zF 0))), (q97, .inl (E.2.1 0, 47, .inl (zF 1))), (q193, .inl (E.2.1 0, 47, .inl (zF 2))), (q289, .inl (E.2.1 0, 139264, .inl (fun _ => 0))), (q290, .inl (E.2.1 0, 393216, .inl (fun _ => 0))), (q291, .inl (E.2.1 0, 1100, .inl (fun _ => 0))), (q292, .inl (E.2.1 1, 1100, .inl (fun _ => 0))), (q293, .inl (E.2.1 0, 120000, .inl (fun _ => 0)))] Hn := hPn
      have hD : va_D A [(mo, .inr (5, [.ref q1, .ref q97, .ref q193, .int 0, .int (nI nx), .ref q289, .int 0, .ref q290, .int 0, .ref q291, .ref q292, .int 0, .ref q293, .int (bI false), .int 0, .int 0, .int 0, .int 0, .int 0, .int 0, .int 0, .int 0, .long 0, .int 0, .int 0, .int 0, .int (bI false), .int 0, .int 0])), (q1, .inl (E.2.1 0, 47, .inl (zF 0))), (q97, .inl (E.2.1 0, 47, .inl (zF 1))), (q193, .inl (E.2.1 0, 47, .inl (zF 2))), (q289, .inl (E.2.1 0, 139264, .inl (fun _ => 0))), (q290, .inl (E.2.1 0, 393216, .inl (fun _ => 0))), (q291, .inl (E.2.1 0, 1100, .inl (fun _ => 0))), (q292, .inl (E.2.1 1, 1100, .inl (fun _ => 0))), (q293, .inl (E.2.1 0, 120000, .inl (fun _ => 0)))] := hDn
      have hS := hSn
      clear hPn hDn hSn
      refine lv_aload_n hx hb d_M_init_956 rfl (lv_at hl 0 rfl) ?_
      refine lv_iconst (v := 0) hx hb d_M_init_957 (by decide) ?_
      refine ar_usev (wr := []) hP hD hS hA [0, 4, 5, 6, 7, 8, 1, 2, 3] [] rfl rfl rfl (by decide) (ar_runV (n := 1) (As := [.int (bI false)]) (rest := []) (ci := 5) (q0 := 0) hx hb hml hown hts hP hD hS hA hK hZ (c_M_beginSegment l E _ mo q289 q290 q291 q292 q293 q1 q97 q193 nx ((0, 0, 0, 0, false, 0, 0, 0, 0, 0, 0, 0, 0, 0, 0, 0, 0, false, 0, 0), (fun _ => 0), (fun _ => 0), (fun _ => 0), (fun _ => 0), (fun _ => 0)) false (k_M_bs0 rfl)) m_605 m_607 ms_20 m_7 m_608 (by decide +kernel) ⟨Nat.le_of_ble_eq_true rfl, Nat.le_of_ble_eq_true rfl⟩ [0, 4, 5, 6, 7, 8, 1, 2, 3] rfl rfl rfl rfl rfl rfl rfl hl.1 rfl (Nat.le_of_ble_eq_true rfl) d_M_init_958 ⟨Nat.le_of_ble_eq_true rfl, Nat.le_of_ble_eq_true rfl⟩) (fun u297 Hn locsn hw297 hPn hDn hSn => ?_)
      clear hP hD hS
      have hP : va_P E.1 classes [(mo, .inr (5, [.ref q1, .ref q97, .ref q193, .int u297.1.1, .int (nI nx), .ref q289, .int u297.1.2.1, .ref q290, .int u297.1.2.2.1, .ref q291, .ref q292, .int u297.1.2.2.2.1, .ref q293, .int (bI u297.1.2.2.2.2.1), .int u297.1.2.2.2.2.2.1, .int u297.1.2.2.2.2.2.2.1, .int u297.1.2.2.2.2.2.2.2.1, .int u297.1.2.2.2.2.2.2.2.2.1, .int u297.1.2.2.2.2.2.2.2.2.2.1, .int u297.1.2.2.2.2.2.2.2.2.2.2.1, .int u297.1.2.2.2.2.2.2.2.2.2.2.2.1, .int u297.1.2.2.2.2.2.2.2.2.2.2.2.2.1, .long u297.1.2.2.2.2.2.2.2.2.2.2.2.2.2.1, .int u297.1.2.2.2.2.2.2.2.2.2.2.2.2.2.2.1, .int u297.1.2.2.2.2.2.2.2.2.2.2.2.2.2.2.2.1, .int u297.1.2.2.2.2.2.2.2.2.2.2.2.2.2.2.2.2.1, .int (bI u297.1.2.2.2.2.2.2.2.2.2.2.2.2.2.2.2.2.2.1), .int u297.1.2.2.2.2.2.2.2.2.2.2.2.2.2.2.2.2.2.2.1, .int u297.1.2.2.2.2.2.2.2.2.2.2.2.2.2.2.2.2.2.2.2])), (q289, .inl (E.2.1 0, 139264, .inl u297.2.1)), (q290, .inl (E.2.1 0, 393216, .inl u297.2.2.1)), (q291, .inl (E.2.1 0, 1100, .inl u297.2.2.2.1)), (q292, .inl (E.2.1 1, 1100, .inl u297.2.2.2.2.1)), (q293, .inl (E.2.1 0, 120000, .inl u297.2.2.2.2.2)), (q1, .inl (E.2.1 0, 47, .inl (zF 0))), (q97, .inl (E.2.1 0, 47, .inl (zF 1))), (q193, .inl (E.2.1 0, 47, .inl (zF 2)))] Hn := hPn
      have hD : va_D A [(mo, .inr (5, [.ref q1, .ref q97, .ref q193, .int u297.1.1, .int (nI nx), .ref q289, .int u297.1.2.1, .ref q290, .int u297.1.2.2.1, .ref q291, .ref q292, .int u297.1.2.2.2.1, .ref q293, .int (bI u297.1.2.2.2.2.1), .int u297.1.2.2.2.2.2.1, .int u297.1.2.2.2.2.2.2.1, .int u297.1.2.2.2.2.2.2.2.1, .int u297.1.2.2.2.2.2.2.2.2.1, .int u297.1.2.2.2.2.2.2.2.2.2.1, .int u297.1.2.2.2.2.2.2.2.2.2.2.1, .int u297.1.2.2.2.2.2.2.2.2.2.2.2.1, .int u297.1.2.2.2.2.2.2.2.2.2.2.2.2.1, .long u297.1.2.2.2.2.2.2.2.2.2.2.2.2.2.1, .int u297.1.2.2.2.2.2.2.2.2.2.2.2.2.2.2.1, .int u297.1.2.2.2.2.2.2.2.2.2.2.2.2.2.2.2.1, .int u297.1.2.2.2.2.2.2.2.2.2.2.2.2.2.2.2.2.1, .int (bI u297.1.2.2.2.2.2.2.2.2.2.2.2.2.2.2.2.2.2.1), .int u297.1.2.2.2.2.2.2.2.2.2.2.2.2.2.2.2.2.2.2.1, .int u297.1.2.2.2.2.2.2.2.2.2.2.2.2.2.2.2.2.2.2.2])), (q289, .inl (E.2.1 0, 139264, .inl u297.2.1)), (q290, .inl (E.2.1 0, 393216, .inl u297.2.2.1)), (q291, .inl (E.2.1 0, 1100, .inl u297.2.2.2.1)), (q292, .inl (E.2.1 1, 1100, .inl u297.2.2.2.2.1)), (q293, .inl (E.2.1 0, 120000, .inl u297.2.2.2.2.2)), (q1, .inl (E.2.1 0, 47, .inl (zF 0))), (q97, .inl (E.2.1 0, 47, .inl (zF 1))), (q193, .inl (E.2.1 0, 47, .inl (zF 2)))] := hDn
      have hS := hSn
      clear hPn hDn hSn
      subst hw297
      replace hP := hP.sub (ws' := [(mo, .inr (5, [.ref q1, .ref q97, .ref q193, .int ((f_M_beginSegment nx false ((0, 0, 0, 0, false, 0, 0, 0, 0, 0, 0, 0, 0, 0, 0, 0, 0, false, 0, 0), (fun _ => 0), (fun _ => 0), (fun _ => 0), (fun _ => 0), (fun _ => 0))).1.1), .int (nI nx), .ref q289, .int ((f_M_beginSegment nx false ((0, 0, 0, 0, false, 0, 0, 0, 0, 0, 0, 0, 0, 0, 0, 0, 0, false, 0, 0), (fun _ => 0), (fun _ => 0), (fun _ => 0), (fun _ => 0), (fun _ => 0))).1.2.1), .ref q290, .int ((f_M_beginSegment nx false ((0, 0, 0, 0, false, 0, 0, 0, 0, 0, 0, 0, 0, 0, 0, 0, 0, false, 0, 0), (fun _ => 0), (fun _ => 0), (fun _ => 0), (fun _ => 0), (fun _ => 0))).1.2.2.1), .ref q291, .ref q292, .int ((f_M_beginSegment nx false ((0, 0, 0, 0, false, 0, 0, 0, 0, 0, 0, 0, 0, 0, 0, 0, 0, false, 0, 0), (fun _ => 0), (fun _ => 0), (fun _ => 0), (fun _ => 0), (fun _ => 0))).1.2.2.2.1), .ref q293, .int (bI ((f_M_beginSegment nx false ((0, 0, 0, 0, false, 0, 0, 0, 0, 0, 0, 0, 0, 0, 0, 0, 0, false, 0, 0), (fun _ => 0), (fun _ => 0), (fun _ => 0), (fun _ => 0), (fun _ => 0))).1.2.2.2.2.1)), .int ((f_M_beginSegment nx false ((0, 0, 0, 0, false, 0, 0, 0, 0, 0, 0, 0, 0, 0, 0, 0, 0, false, 0, 0), (fun _ => 0), (fun _ => 0), (fun _ => 0), (fun _ => 0), (fun _ => 0))).1.2.2.2.2.2.1), .int ((f_M_beginSegment nx false ((0, 0, 0, 0, false, 0, 0, 0, 0, 0, 0, 0, 0, 0, 0, 0, 0, false, 0, 0), (fun _ => 0), (fun _ => 0), (fun _ => 0), (fun _ => 0), (fun _ => 0))).1.2.2.2.2.2.2.1), .int ((f_M_beginSegment nx false ((0, 0, 0, 0, false, 0, 0, 0, 0, 0, 0, 0, 0, 0, 0, 0, 0, false, 0, 0), (fun _ => 0), (fun _ => 0), (fun _ => 0), (fun _ => 0), (fun _ => 0))).1.2.2.2.2.2.2.2.1), .int ((f_M_beginSegment nx false ((0, 0, 0, 0, false, 0, 0, 0, 0, 0, 0, 0, 0, 0, 0, 0, 0, false, 0, 0), (fun _ => 0), (fun _ => 0), (fun _ => 0), (fun _ => 0), (fun _ => 0))).1.2.2.2.2.2.2.2.2.1), .int ((f_M_beginSegment nx false ((0, 0, 0, 0, false, 0, 0, 0, 0, 0, 0, 0, 0, 0, 0, 0, 0, false, 0, 0), (fun _ => 0), (fun _ => 0), (fun _ => 0), (fun _ => 0), (fun _ => 0))).1.2.2.2.2.2.2.2.2.2.1), .int ((f_M_beginSegment nx false ((0, 0, 0, 0, false, 0, 0, 0, 0, 0, 0, 0, 0, 0, 0, 0, 0, false, 0, 0), (fun _ => 0), (fun _ => 0), (fun _ => 0), (fun _ => 0), (fun _ => 0))).1.2.2.2.2.2.2.2.2.2.2.1), .int ((f_M_beginSegment nx false ((0, 0, 0, 0, false, 0, 0, 0, 0, 0, 0, 0, 0, 0, 0, 0, 0, false, 0, 0), (fun _ => 0), (fun _ => 0), (fun _ => 0), (fun _ => 0), (fun _ => 0))).1.2.2.2.2.2.2.2.2.2.2.2.1), .int ((f_M_beginSegment nx false ((0, 0, 0, 0, false, 0, 0, 0, 0, 0, 0, 0, 0, 0, 0, 0, 0, false, 0, 0), (fun _ => 0), (fun _ => 0), (fun _ => 0), (fun _ => 0), (fun _ => 0))).1.2.2.2.2.2.2.2.2.2.2.2.2.1), .long ((f_M_beginSegment nx false ((0, 0, 0, 0, false, 0, 0, 0, 0, 0, 0, 0, 0, 0, 0, 0, 0, false, 0, 0), (fun _ => 0), (fun _ => 0), (fun _ => 0), (fun _ => 0), (fun _ => 0))).1.2.2.2.2.2.2.2.2.2.2.2.2.2.1), .int ((f_M_beginSegment nx false ((0, 0, 0, 0, false, 0, 0, 0, 0, 0, 0, 0, 0, 0, 0, 0, 0, false, 0, 0), (fun _ => 0), (fun _ => 0), (fun _ => 0), (fun _ => 0), (fun _ => 0))).1.2.2.2.2.2.2.2.2.2.2.2.2.2.2.1), .int ((f_M_beginSegment nx false ((0, 0, 0, 0, false, 0, 0, 0, 0, 0, 0, 0, 0, 0, 0, 0, 0, false, 0, 0), (fun _ => 0), (fun _ => 0), (fun _ => 0), (fun _ => 0), (fun _ => 0))).1.2.2.2.2.2.2.2.2.2.2.2.2.2.2.2.1), .int ((f_M_beginSegment nx false ((0, 0, 0, 0, false, 0, 0, 0, 0, 0, 0, 0, 0, 0, 0, 0, 0, false, 0, 0), (fun _ => 0), (fun _ => 0), (fun _ => 0), (fun _ => 0), (fun _ => 0))).1.2.2.2.2.2.2.2.2.2.2.2.2.2.2.2.2.1), .int (bI ((f_M_beginSegment nx false ((0, 0, 0, 0, false, 0, 0, 0, 0, 0, 0, 0, 0, 0, 0, 0, 0, false, 0, 0), (fun _ => 0), (fun _ => 0), (fun _ => 0), (fun _ => 0), (fun _ => 0))).1.2.2.2.2.2.2.2.2.2.2.2.2.2.2.2.2.2.1)), .int ((f_M_beginSegment nx false ((0, 0, 0, 0, false, 0, 0, 0, 0, 0, 0, 0, 0, 0, 0, 0, 0, false, 0, 0), (fun _ => 0), (fun _ => 0), (fun _ => 0), (fun _ => 0), (fun _ => 0))).1.2.2.2.2.2.2.2.2.2.2.2.2.2.2.2.2.2.2.1), .int ((f_M_beginSegment nx false ((0, 0, 0, 0, false, 0, 0, 0, 0, 0, 0, 0, 0, 0, 0, 0, 0, false, 0, 0), (fun _ => 0), (fun _ => 0), (fun _ => 0), (fun _ => 0), (fun _ => 0))).1.2.2.2.2.2.2.2.2.2.2.2.2.2.2.2.2.2.2.2)])), (q289, .inl (E.2.1 0, 139264, .inl ((f_M_beginSegment nx false ((0, 0, 0, 0, false, 0, 0, 0, 0, 0, 0, 0, 0, 0, 0, 0, 0, false, 0, 0), (fun _ => 0), (fun _ => 0), (fun _ => 0), (fun _ => 0), (fun _ => 0))).2.1))), (q290, .inl (E.2.1 0, 393216, .inl ((f_M_beginSegment nx false ((0, 0, 0, 0, false, 0, 0, 0, 0, 0, 0, 0, 0, 0, 0, 0, 0, false, 0, 0), (fun _ => 0), (fun _ => 0), (fun _ => 0), (fun _ => 0), (fun _ => 0))).2.2.1))), (q291, .inl (E.2.1 0, 1100, .inl ((f_M_beginSegment nx false ((0, 0, 0, 0, false, 0, 0, 0, 0, 0, 0, 0, 0, 0, 0, 0, 0, false, 0, 0), (fun _ => 0), (fun _ => 0), (fun _ => 0), (fun _ => 0), (fun _ => 0))).2.2.2.1))), (q292, .inl (E.2.1 1, 1100, .inl ((f_M_beginSegment nx false ((0, 0, 0, 0, false, 0, 0, 0, 0, 0, 0, 0, 0, 0, 0, 0, 0, false, 0, 0), (fun _ => 0), (fun _ => 0), (fun _ => 0), (fun _ => 0), (fun _ => 0))).2.2.2.2.1))), (q293, .inl (E.2.1 0, 120000, .inl ((f_M_beginSegment nx false ((0, 0, 0, 0, false, 0, 0, 0, 0, 0, 0, 0, 0, 0, 0, 0, 0, false, 0, 0), (fun _ => 0), (fun _ => 0), (fun _ => 0), (fun _ => 0), (fun _ => 0))).2.2.2.2.2))), (q1, .inl (E.2.1 0, 47, .inl (zF 0))), (q97, .inl (E.2.1 0, 47, .inl (zF 1))), (q193, .inl (E.2.1 0, 47, .inl (zF 2)))]) [0, 1, 2, 3, 4, 5, 6, 7, 8] rfl
      replace hD := hD.sub (ws' := [(mo, .inr (5, [.ref q1, .ref q97, .ref q193, .int ((f_M_beginSegment nx false ((0, 0, 0, 0, false, 0, 0, 0, 0, 0, 0, 0, 0, 0, 0, 0, 0, false, 0, 0), (fun _ => 0), (fun _ => 0), (fun _ => 0), (fun _ => 0), (fun _ => 0))).1.1), .int (nI nx), .ref q289, .int ((f_M_beginSegment nx false ((0, 0, 0, 0, false, 0, 0, 0, 0, 0, 0, 0, 0, 0, 0, 0, 0, false, 0, 0), (fun _ => 0), (fun _ => 0), (fun _ => 0), (fun _ => 0), (fun _ => 0))).1.2.1), .ref q290, .int ((f_M_beginSegment nx false ((0, 0, 0, 0, false, 0, 0, 0, 0, 0, 0, 0, 0, 0, 0, 0, 0, false, 0, 0), (fun _ => 0), (fun _ => 0), (fun _ => 0), (fun _ => 0), (fun _ => 0))).1.2.2.1), .ref q291, .ref q292, .int ((f_M_beginSegment nx false ((0, 0, 0, 0, false, 0, 0, 0, 0, 0, 0, 0, 0, 0, 0, 0, 0, false, 0, 0), (fun _ => 0), (fun _ => 0), (fun _ => 0), (fun _ => 0), (fun _ => 0))).1.2.2.2.1), .ref q293, .int (bI ((f_M_beginSegment nx false ((0, 0, 0, 0, false, 0, 0, 0, 0, 0, 0, 0, 0, 0, 0, 0, 0, false, 0, 0), (fun _ => 0), (fun _ => 0), (fun _ => 0), (fun _ => 0), (fun _ => 0))).1.2.2.2.2.1)), .int ((f_M_beginSegment nx false ((0, 0, 0, 0, false, 0, 0, 0, 0, 0, 0, 0, 0, 0, 0, 0, 0, false, 0, 0), (fun _ => 0), (fun _ => 0), (fun _ => 0), (fun _ => 0), (fun _ => 0))).1.2.2.2.2.2.1), .int ((f_M_beginSegment nx false ((0, 0, 0, 0, false, 0, 0, 0, 0, 0, 0, 0, 0, 0, 0, 0, 0, false, 0, 0), (fun _ => 0), (fun _ => 0), (fun _ => 0), (fun _ => 0), (fun _ => 0))).1.2.2.2.2.2.2.1), .int ((f_M_beginSegment nx false ((0, 0, 0, 0, false, 0, 0, 0, 0, 0, 0, 0, 0, 0, 0, 0, 0, false, 0, 0), (fun _ => 0), (fun _ => 0), (fun _ => 0), (fun _ => 0), (fun _ => 0))).1.2.2.2.2.2.2.2.1), .int ((f_M_beginSegment nx false ((0, 0, 0, 0, false, 0, 0, 0, 0, 0, 0, 0, 0, 0, 0, 0, 0, false, 0, 0), (fun _ => 0), (fun _ => 0), (fun _ => 0), (fun _ => 0), (fun _ => 0))).1.2.2.2.2.2.2.2.2.1), .int ((f_M_beginSegment nx false ((0, 0, 0, 0, false, 0, 0, 0, 0, 0, 0, 0, 0, 0, 0, 0, 0, false, 0, 0), (fun _ => 0), (fun _ => 0), (fun _ => 0), (fun _ => 0), (fun _ => 0))).1.2.2.2.2.2.2.2.2.2.1), .int ((f_M_beginSegment nx false ((0, 0, 0, 0, false, 0, 0, 0, 0, 0, 0, 0, 0, 0, 0, 0, 0, false, 0, 0), (fun _ => 0), (fun _ => 0), (fun _ => 0), (fun _ => 0), (fun _ => 0))).1.2.2.2.2.2.2.2.2.2.2.1), .int ((f_M_beginSegment nx false ((0, 0, 0, 0, false, 0, 0, 0, 0, 0, 0, 0, 0, 0, 0, 0, 0, false, 0, 0), (fun _ => 0), (fun _ => 0), (fun _ => 0), (fun _ => 0), (fun _ => 0))).1.2.2.2.2.2.2.2.2.2.2.2.1), .int ((f_M_beginSegment nx false ((0, 0, 0, 0, false, 0, 0, 0, 0, 0, 0, 0, 0, 0, 0, 0, 0, false, 0, 0), (fun _ => 0), (fun _ => 0), (fun _ => 0), (fun _ => 0), (fun _ => 0))).1.2.2.2.2.2.2.2.2.2.2.2.2.1), .long ((f_M_beginSegment nx false ((0, 0, 0, 0, false, 0, 0, 0, 0, 0, 0, 0, 0, 0, 0, 0, 0, false, 0, 0), (fun _ => 0), (fun _ => 0), (fun _ => 0), (fun _ => 0), (fun _ => 0))).1.2.2.2.2.2.2.2.2.2.2.2.2.2.1), .int ((f_M_beginSegment nx false ((0, 0, 0, 0, false, 0, 0, 0, 0, 0, 0, 0, 0, 0, 0, 0, 0, false, 0, 0), (fun _ => 0), (fun _ => 0), (fun _ => 0), (fun _ => 0), (fun _ => 0))).1.2.2.2.2.2.2.2.2.2.2.2.2.2.2.1), .int ((f_M_beginSegment nx false ((0, 0, 0, 0, false, 0, 0, 0, 0, 0, 0, 0, 0, 0, 0, 0, 0, false, 0, 0), (fun _ => 0), (fun _ => 0), (fun _ => 0), (fun _ => 0), (fun _ => 0))).1.2.2.2.2.2.2.2.2.2.2.2.2.2.2.2.1), .int ((f_M_beginSegment nx false ((0, 0, 0, 0, false, 0, 0, 0, 0, 0, 0, 0, 0, 0, 0, 0, 0, false, 0, 0), (fun _ => 0), (fun _ => 0), (fun _ => 0), (fun _ => 0), (fun _ => 0))).1.2.2.2.2.2.2.2.2.2.2.2.2.2.2.2.2.1), .int (bI ((f_M_beginSegment nx false ((0, 0, 0, 0, false, 0, 0, 0, 0, 0, 0, 0, 0, 0, 0, 0, 0, false, 0, 0), (fun _ => 0), (fun _ => 0), (fun _ => 0), (fun _ => 0), (fun _ => 0))).1.2.2.2.2.2.2.2.2.2.2.2.2.2.2.2.2.2.1)), .int ((f_M_beginSegment nx false ((0, 0, 0, 0, false, 0, 0, 0, 0, 0, 0, 0, 0, 0, 0, 0, 0, false, 0, 0), (fun _ => 0), (fun _ => 0), (fun _ => 0), (fun _ => 0), (fun _ => 0))).1.2.2.2.2.2.2.2.2.2.2.2.2.2.2.2.2.2.2.1), .int ((f_M_beginSegment nx false ((0, 0, 0, 0, false, 0, 0, 0, 0, 0, 0, 0, 0, 0, 0, 0, 0, false, 0, 0), (fun _ => 0), (fun _ => 0), (fun _ => 0), (fun _ => 0), (fun _ => 0))).1.2.2.2.2.2.2.2.2.2.2.2.2.2.2.2.2.2.2.2)])), (q289, .inl (E.2.1 0, 139264, .inl ((f_M_beginSegment nx false ((0, 0, 0, 0, false, 0, 0, 0, 0, 0, 0, 0, 0, 0, 0, 0, 0, false, 0, 0), (fun _ => 0), (fun _ => 0), (fun _ => 0), (fun _ => 0), (fun _ => 0))).2.1))), (q290, .inl (E.2.1 0, 393216, .inl ((f_M_beginSegment nx false ((0, 0, 0, 0, false, 0, 0, 0, 0, 0, 0, 0, 0, 0, 0, 0, 0, false, 0, 0), (fun _ => 0), (fun _ => 0), (fun _ => 0), (fun _ => 0), (fun _ => 0))).2.2.1))), (q291, .inl (E.2.1 0, 1100, .inl ((f_M_beginSegment nx false ((0, 0, 0, 0, false, 0, 0, 0, 0, 0, 0, 0, 0, 0, 0, 0, 0, false, 0, 0), (fun _ => 0), (fun _ => 0), (fun _ => 0), (fun _ => 0), (fun _ => 0))).2.2.2.1))), (q292, .inl (E.2.1 1, 1100, .inl ((f_M_beginSegment nx false ((0, 0, 0, 0, false, 0, 0, 0, 0, 0, 0, 0, 0, 0, 0, 0, 0, false, 0, 0), (fun _ => 0), (fun _ => 0), (fun _ => 0), (fun _ => 0), (fun _ => 0))).2.2.2.2.1))), (q293, .inl (E.2.1 0, 120000, .inl ((f_M_beginSegment nx false ((0, 0, 0, 0, false, 0, 0, 0, 0, 0, 0, 0, 0, 0, 0, 0, 0, false, 0, 0), (fun _ => 0), (fun _ => 0), (fun _ => 0), (fun _ => 0), (fun _ => 0))).2.2.2.2.2))), (q1, .inl (E.2.1 0, 47, .inl (zF 0))), (q97, .inl (E.2.1 0, 47, .inl (zF 1))), (q193, .inl (E.2.1 0, 47, .inl (zF 2)))]) [0, 1, 2, 3, 4, 5, 6, 7, 8] (by decide) rfl
      refine W.widen (k := 8) (n := 654821) (by omega) (by omega) ?_
      exact ar_vret hx hb hr hlocks hK hS (q289, q290, q291, q292, q293, q1, q97, q193) trivial hP hD d_M_init_961
    · skip
      refine lv_ldc (v := 65536) hx hb hown (hts _ m_604) d_M_init_947 ?_
      refine lv_goto (tgt := 953) hx hb d_M_init_949 (by decide) ?_
      refine lv_topi (fun x298 ex298 => ?_)
      have ex298 := ex298.trans (many_b hnx0 c295)
      subst ex298
      refine va_putF (D := E.1) (ci := 5) (v := .int (nI nx)) (ty := .int) (C := R_M) (T := T_M) (N := 29) hx hb hts in_M t_M t_M_ok n_M hown hK hP hD hS 0 rfl rfl 4 (by decide) (hts _ m_614) (fun _ h9 => h9) rfl hin rfl (by decide +kernel) rfl rfl (Nat.le_of_ble_eq_true rfl) d_M_init_953 (fun Hn locsn hPn hDn hSn => ?_)
      clear hP hD hS
      have hP : va_P E.1 classes [(mo, .inr (5, [.ref q1, .ref q97, .ref q193, .int 0, .int (nI nx), .ref q289, .int 0, .ref q290, .int 0, .ref q291, .ref q292, .int 0, .ref q293, .int (bI false), .int 0, .int 0, .int 0, .int 0, .int 0, .int 0, .int 0, .int 0, .long 0, .int 0, .int 0, .int 0, .int (bI false), .int 0, .int 0])), (q1, .inl (E.2.1 0, 47, .inl (zF 0))), (q97, .inl (E.2.1 0, 47, .inl (zF 1))), (q193, .inl (E.2.1 0, 47, .inl (zF 2))), (q289, .inl (E.2.1 0, 139264, .inl (fun _ => 0))), (q290, .inl (E.2.1 0, 393216, .inl (fun _ => 0))), (q291, .inl (E.2.1 0, 1100, .inl (fun _ => 0))), (q292, .inl (E.2.1 1, 1100, .inl (fun _ => 0))), (q293, .inl (E.2.1 0, 120000, .inl (fun _ => 0)))] Hn := hPn
      have hD : va_D A [(mo, .inr (5, [.ref q1, .ref q97, .ref q193, .int 0, .int (nI nx), .ref q289, .int 0, .ref q290, .int 0, .ref q291, .ref q292, .int 0, .ref q293, .int (bI false), .int 0, .int 0, .int 0, .int 0, .int 0, .int 0, .int 0, .int 0, .long 0, .int 0, .int 0, .int 0, .int (bI false), .int 0, .int 0])), (q1, .inl (E.2.1 0, 47, .inl (zF 0))), (q97, .inl (E.2.1 0, 47, .inl (zF 1))), (q193, .inl (E.2.1 0, 47, .inl (zF 2))), (q289, .inl (E.2.1 0, 139264, .inl (fun _ => 0))), (q290, .inl (E.2.1 0, 393216, .inl (fun _ => 0))), (q291, .inl (E.2.1 0, 1100, .inl (fun _ => 0))), (q292, .inl (E.2.1 1, 1100, .inl (fun _ => 0))), (q293, .inl (E.2.1 0, 120000, .inl (fun _ => 0)))] := hDn
      have hS := hSn
      clear hPn hDn hSn
      refine lv_aload_n hx hb d_M_init_956 rfl (lv_at hl 0 rfl) ?_
      refine lv_iconst (v := 0) hx hb d_M_init_957 (by decide) ?_
      refine ar_usev (wr := []) hP hD hS hA [0, 4, 5, 6, 7, 8, 1, 2, 3] [] rfl rfl rfl (by decide) (ar_runV (n := 1) (As := [.int (bI false)]) (rest := []) (ci := 5) (q0 := 0) hx hb hml hown hts hP hD hS hA hK hZ (c_M_beginSegment l E _ mo q289 q290 q291 q292 q293 q1 q97 q193 nx ((0, 0, 0, 0, false, 0, 0, 0, 0, 0, 0, 0, 0, 0, 0, 0, 0, false, 0, 0), (fun _ => 0), (fun _ => 0), (fun _ => 0), (fun _ => 0), (fun _ => 0)) false (k_M_bs0 rfl)) m_605 m_607 ms_20 m_7 m_608 (by decide +kernel) ⟨Nat.le_of_ble_eq_true rfl, Nat.le_of_ble_eq_true rfl⟩ [0, 4, 5, 6, 7, 8, 1, 2, 3] rfl rfl rfl rfl rfl rfl rfl hl.1 rfl (Nat.le_of_ble_eq_true rfl) d_M_init_958 ⟨Nat.le_of_ble_eq_true rfl, Nat.le_of_ble_eq_true rfl⟩) (fun u299 Hn locsn hw299 hPn hDn hSn => ?_)
      clear hP hD hS
      have hP : va_P E.1 classes [(mo, .inr (5, [.ref q1, .ref q97, .ref q193, .int u299.1.1, .int (nI nx), .ref q289, .int u299.1.2.1, .ref q290, .int u299.1.2.2.1, .ref q291, .ref q292, .int u299.1.2.2.2.1, .ref q293, .int (bI u299.1.2.2.2.2.1), .int u299.1.2.2.2.2.2.1, .int u299.1.2.2.2.2.2.2.1, .int u299.1.2.2.2.2.2.2.2.1, .int u299.1.2.2.2.2.2.2.2.2.1, .int u299.1.2.2.2.2.2.2.2.2.2.1, .int u299.1.2.2.2.2.2.2.2.2.2.2.1, .int u299.1.2.2.2.2.2.2.2.2.2.2.2.1, .int u299.1.2.2.2.2.2.2.2.2.2.2.2.2.1, .long u299.1.2.2.2.2.2.2.2.2.2.2.2.2.2.1, .int u299.1.2.2.2.2.2.2.2.2.2.2.2.2.2.2.1, .int u299.1.2.2.2.2.2.2.2.2.2.2.2.2.2.2.2.1, .int u299.1.2.2.2.2.2.2.2.2.2.2.2.2.2.2.2.2.1, .int (bI u299.1.2.2.2.2.2.2.2.2.2.2.2.2.2.2.2.2.2.1), .int u299.1.2.2.2.2.2.2.2.2.2.2.2.2.2.2.2.2.2.2.1, .int u299.1.2.2.2.2.2.2.2.2.2.2.2.2.2.2.2.2.2.2.2])), (q289, .inl (E.2.1 0, 139264, .inl u299.2.1)), (q290, .inl (E.2.1 0, 393216, .inl u299.2.2.1)), (q291, .inl (E.2.1 0, 1100, .inl u299.2.2.2.1)), (q292, .inl (E.2.1 1, 1100, .inl u299.2.2.2.2.1)), (q293, .inl (E.2.1 0, 120000, .inl u299.2.2.2.2.2)), (q1, .inl (E.2.1 0, 47, .inl (zF 0))), (q97, .inl (E.2.1 0, 47, .inl (zF 1))), (q193, .inl (E.2.1 0, 47, .inl (zF 2)))] Hn := hPn
      have hD : va_D A [(mo, .inr (5, [.ref q1, .ref q97, .ref q193, .int u299.1.1, .int (nI nx), .ref q289, .int u299.1.2.1, .ref q290, .int u299.1.2.2.1, .ref q291, .ref q292, .int u299.1.2.2.2.1, .ref q293, .int (bI u299.1.2.2.2.2.1), .int u299.1.2.2.2.2.2.1, .int u299.1.2.2.2.2.2.2.1, .int u299.1.2.2.2.2.2.2.2.1, .int u299.1.2.2.2.2.2.2.2.2.1, .int u299.1.2.2.2.2.2.2.2.2.2.1, .int u299.1.2.2.2.2.2.2.2.2.2.2.1, .int u299.1.2.2.2.2.2.2.2.2.2.2.2.1, .int u299.1.2.2.2.2.2.2.2.2.2.2.2.2.1, .long u299.1.2.2.2.2.2.2.2.2.2.2.2.2.2.1, .int u299.1.2.2.2.2.2.2.2.2.2.2.2.2.2.2.1, .int u299.1.2.2.2.2.2.2.2.2.2.2.2.2.2.2.2.1, .int u299.1.2.2.2.2.2.2.2.2.2.2.2.2.2.2.2.2.1, .int (bI u299.1.2.2.2.2.2.2.2.2.2.2.2.2.2.2.2.2.2.1), .int u299.1.2.2.2.2.2.2.2.2.2.2.2.2.2.2.2.2.2.2.1, .int u299.1.2.2.2.2.2.2.2.2.2.2.2.2.2.2.2.2.2.2.2])), (q289, .inl (E.2.1 0, 139264, .inl u299.2.1)), (q290, .inl (E.2.1 0, 393216, .inl u299.2.2.1)), (q291, .inl (E.2.1 0, 1100, .inl u299.2.2.2.1)), (q292, .inl (E.2.1 1, 1100, .inl u299.2.2.2.2.1)), (q293, .inl (E.2.1 0, 120000, .inl u299.2.2.2.2.2)), (q1, .inl (E.2.1 0, 47, .inl (zF 0))), (q97, .inl (E.2.1 0, 47, .inl (zF 1))), (q193, .inl (E.2.1 0, 47, .inl (zF 2)))] := hDn
      have hS := hSn
      clear hPn hDn hSn
      subst hw299
      replace hP := hP.sub (ws' := [(mo, .inr (5, [.ref q1, .ref q97, .ref q193, .int ((f_M_beginSegment nx false ((0, 0, 0, 0, false, 0, 0, 0, 0, 0, 0, 0, 0, 0, 0, 0, 0, false, 0, 0), (fun _ => 0), (fun _ => 0), (fun _ => 0), (fun _ => 0), (fun _ => 0))).1.1), .int (nI nx), .ref q289, .int ((f_M_beginSegment nx false ((0, 0, 0, 0, false, 0, 0, 0, 0, 0, 0, 0, 0, 0, 0, 0, 0, false, 0, 0), (fun _ => 0), (fun _ => 0), (fun _ => 0), (fun _ => 0), (fun _ => 0))).1.2.1), .ref q290, .int ((f_M_beginSegment nx false ((0, 0, 0, 0, false, 0, 0, 0, 0, 0, 0, 0, 0, 0, 0, 0, 0, false, 0, 0), (fun _ => 0), (fun _ => 0), (fun _ => 0), (fun _ => 0), (fun _ => 0))).1.2.2.1), .ref q291, .ref q292, .int ((f_M_beginSegment nx false ((0, 0, 0, 0, false, 0, 0, 0, 0, 0, 0, 0, 0, 0, 0, 0, 0, false, 0, 0), (fun _ => 0), (fun _ => 0), (fun _ => 0), (fun _ => 0), (fun _ => 0))).1.2.2.2.1), .ref q293, .int (bI ((f_M_beginSegment nx false ((0, 0, 0, 0, false, 0, 0, 0, 0, 0, 0, 0, 0, 0, 0, 0, 0, false, 0, 0), (fun _ => 0), (fun _ => 0), (fun _ => 0), (fun _ => 0), (fun _ => 0))).1.2.2.2.2.1)), .int ((f_M_beginSegment nx false ((0, 0, 0, 0, false, 0, 0, 0, 0, 0, 0, 0, 0, 0, 0, 0, 0, false, 0, 0), (fun _ => 0), (fun _ => 0), (fun _ => 0), (fun _ => 0), (fun _ => 0))).1.2.2.2.2.2.1), .int ((f_M_beginSegment nx false ((0, 0, 0, 0, false, 0, 0, 0, 0, 0, 0, 0, 0, 0, 0, 0, 0, false, 0, 0), (fun _ => 0), (fun _ => 0), (fun _ => 0), (fun _ => 0), (fun _ => 0))).1.2.2.2.2.2.2.1), .int ((f_M_beginSegment nx false ((0, 0, 0, 0, false, 0, 0, 0, 0, 0, 0, 0, 0, 0, 0, 0, 0, false, 0, 0), (fun _ => 0), (fun _ => 0), (fun _ => 0), (fun _ => 0), (fun _ => 0))).1.2.2.2.2.2.2.2.1), .int ((f_M_beginSegment nx false ((0, 0, 0, 0, false, 0, 0, 0, 0, 0, 0, 0, 0, 0, 0, 0, 0, false, 0, 0), (fun _ => 0), (fun _ => 0), (fun _ => 0), (fun _ => 0), (fun _ => 0))).1.2.2.2.2.2.2.2.2.1), .int ((f_M_beginSegment nx false ((0, 0, 0, 0, false, 0, 0, 0, 0, 0, 0, 0, 0, 0, 0, 0, 0, false, 0, 0), (fun _ => 0), (fun _ => 0), (fun _ => 0), (fun _ => 0), (fun _ => 0))).1.2.2.2.2.2.2.2.2.2.1), .int ((f_M_beginSegment nx false ((0, 0, 0, 0, false, 0, 0, 0, 0, 0, 0, 0, 0, 0, 0, 0, 0, false, 0, 0), (fun _ => 0), (fun _ => 0), (fun _ => 0), (fun _ => 0), (fun _ => 0))).1.2.2.2.2.2.2.2.2.2.2.1), .int ((f_M_beginSegment nx false ((0, 0, 0, 0, false, 0, 0, 0, 0, 0, 0, 0, 0, 0, 0, 0, 0, false, 0, 0), (fun _ => 0), (fun _ => 0), (fun _ => 0), (fun _ => 0), (fun _ => 0))).1.2.2.2.2.2.2.2.2.2.2.2.1), .int ((f_M_beginSegment nx false ((0, 0, 0, 0, false, 0, 0, 0, 0, 0, 0, 0, 0, 0, 0, 0, 0, false, 0, 0), (fun _ => 0), (fun _ => 0), (fun _ => 0), (fun _ => 0), (fun _ => 0))).1.2.2.2.2.2.2.2.2.2.2.2.2.1), .long ((f_M_beginSegment nx false ((0, 0, 0, 0, false, 0, 0, 0, 0, 0, 0, 0, 0, 0, 0, 0, 0, false, 0, 0), (fun _ => 0), (fun _ => 0), (fun _ => 0), (fun _ => 0), (fun _ => 0))).1.2.2.2.2.2.2.2.2.2.2.2.2.2.1), .int ((f_M_beginSegment nx false ((0, 0, 0, 0, false, 0, 0, 0, 0, 0, 0, 0, 0, 0, 0, 0, 0, false, 0, 0), (fun _ => 0), (fun _ => 0), (fun _ => 0), (fun _ => 0), (fun _ => 0))).1.2.2.2.2.2.2.2.2.2.2.2.2.2.2.1), .int ((f_M_beginSegment nx false ((0, 0, 0, 0, false, 0, 0, 0, 0, 0, 0, 0, 0, 0, 0, 0, 0, false, 0, 0), (fun _ => 0), (fun _ => 0), (fun _ => 0), (fun _ => 0), (fun _ => 0))).1.2.2.2.2.2.2.2.2.2.2.2.2.2.2.2.1), .int ((f_M_beginSegment nx false ((0, 0, 0, 0, false, 0, 0, 0, 0, 0, 0, 0, 0, 0, 0, 0, 0, false, 0, 0), (fun _ => 0), (fun _ => 0), (fun _ => 0), (fun _ => 0), (fun _ => 0))).1.2.2.2.2.2.2.2.2.2.2.2.2.2.2.2.2.1), .int (bI ((f_M_beginSegment nx false ((0, 0, 0, 0, false, 0, 0, 0, 0, 0, 0, 0, 0, 0, 0, 0, 0, false, 0, 0), (fun _ => 0), (fun _ => 0), (fun _ => 0), (fun _ => 0), (fun _ => 0))).1.2.2.2.2.2.2.2.2.2.2.2.2.2.2.2.2.2.1)), .int ((f_M_beginSegment nx false ((0, 0, 0, 0, false, 0, 0, 0, 0, 0, 0, 0, 0, 0, 0, 0, 0, false, 0, 0), (fun _ => 0), (fun _ => 0), (fun _ => 0), (fun _ => 0), (fun _ => 0))).1.2.2.2.2.2.2.2.2.2.2.2.2.2.2.2.2.2.2.1), .int ((f_M_beginSegment nx false ((0, 0, 0, 0, false, 0, 0, 0, 0, 0, 0, 0, 0, 0, 0, 0, 0, false, 0, 0), (fun _ => 0), (fun _ => 0), (fun _ => 0), (fun _ => 0), (fun _ => 0))).1.2.2.2.2.2.2.2.2.2.2.2.2.2.2.2.2.2.2.2)])), (q289, .inl (E.2.1 0, 139264, .inl ((f_M_beginSegment nx false ((0, 0, 0, 0, false, 0, 0, 0, 0, 0, 0, 0, 0, 0, 0, 0, 0, false, 0, 0), (fun _ => 0), (fun _ => 0), (fun _ => 0), (fun _ => 0), (fun _ => 0))).2.1))), (q290, .inl (E.2.1 0, 393216, .inl ((f_M_beginSegment nx false ((0, 0, 0, 0, false, 0, 0, 0, 0, 0, 0, 0, 0, 0, 0, 0, 0, false, 0, 0), (fun _ => 0), (fun _ => 0), (fun _ => 0), (fun _ => 0), (fun _ => 0))).2.2.1))), (q291, .inl (E.2.1 0, 1100, .inl ((f_M_beginSegment nx false ((0, 0, 0, 0, false, 0, 0, 0, 0, 0, 0, 0, 0, 0, 0, 0, 0, false, 0, 0), (fun _ => 0), (fun _ => 0), (fun _ => 0), (fun _ => 0), (fun _ => 0))).2.2.2.1))), (q292, .inl (E.2.1 1, 1100, .inl ((f_M_beginSegment nx false ((0, 0, 0, 0, false, 0, 0, 0, 0, 0, 0, 0, 0, 0, 0, 0, 0, false, 0, 0), (fun _ => 0), (fun _ => 0), (fun _ => 0), (fun _ => 0), (fun _ => 0))).2.2.2.2.1))), (q293, .inl (E.2.1 0, 120000, .inl ((f_M_beginSegment nx false ((0, 0, 0, 0, false, 0, 0, 0, 0, 0, 0, 0, 0, 0, 0, 0, 0, false, 0, 0), (fun _ => 0), (fun _ => 0), (fun _ => 0), (fun _ => 0), (fun _ => 0))).2.2.2.2.2))), (q1, .inl (E.2.1 0, 47, .inl (zF 0))), (q97, .inl (E.2.1 0, 47, .inl (zF 1))), (q193, .inl (E.2.1 0, 47, .inl (zF 2)))]) [0, 1, 2, 3, 4, 5, 6, 7, 8] rfl
      replace hD := hD.sub (ws' := [(mo, .inr (5, [.ref q1, .ref q97, .ref q193, .int ((f_M_beginSegment nx false ((0, 0, 0, 0, false, 0, 0, 0, 0, 0, 0, 0, 0, 0, 0, 0, 0, false, 0, 0), (fun _ => 0), (fun _ => 0), (fun _ => 0), (fun _ => 0), (fun _ => 0))).1.1), .int (nI nx), .ref q289, .int ((f_M_beginSegment nx false ((0, 0, 0, 0, false, 0, 0, 0, 0, 0, 0, 0, 0, 0, 0, 0, 0, false, 0, 0), (fun _ => 0), (fun _ => 0), (fun _ => 0), (fun _ => 0), (fun _ => 0))).1.2.1), .ref q290, .int ((f_M_beginSegment nx false ((0, 0, 0, 0, false, 0, 0, 0, 0, 0, 0, 0, 0, 0, 0, 0, 0, false, 0, 0), (fun _ => 0), (fun _ => 0), (fun _ => 0), (fun _ => 0), (fun _ => 0))).1.2.2.1), .ref q291, .ref q292, .int ((f_M_beginSegment nx false ((0, 0, 0, 0, false, 0, 0, 0, 0, 0, 0, 0, 0, 0, 0, 0, 0, false, 0, 0), (fun _ => 0), (fun _ => 0), (fun _ => 0), (fun _ => 0), (fun _ => 0))).1.2.2.2.1), .ref q293, .int (bI ((f_M_beginSegment nx false ((0, 0, 0, 0, false, 0, 0, 0, 0, 0, 0, 0, 0, 0, 0, 0, 0, false, 0, 0), (fun _ => 0), (fun _ => 0), (fun _ => 0), (fun _ => 0), (fun _ => 0))).1.2.2.2.2.1)), .int ((f_M_beginSegment nx false ((0, 0, 0, 0, false, 0, 0, 0, 0, 0, 0, 0, 0, 0, 0, 0, 0, false, 0, 0), (fun _ => 0), (fun _ => 0), (fun _ => 0), (fun _ => 0), (fun _ => 0))).1.2.2.2.2.2.1), .int ((f_M_beginSegment nx false ((0, 0, 0, 0, false, 0, 0, 0, 0, 0, 0, 0, 0, 0, 0, 0, 0, false, 0, 0), (fun _ => 0), (fun _ => 0), (fun _ => 0), (fun _ => 0), (fun _ => 0))).1.2.2.2.2.2.2.1), .int ((f_M_beginSegment nx false ((0, 0, 0, 0, false, 0, 0, 0, 0, 0, 0, 0, 0, 0, 0, 0, 0, false, 0, 0), (fun _ => 0), (fun _ => 0), (fun _ => 0), (fun _ => 0), (fun _ => 0))).1.2.2.2.2.2.2.2.1), .int ((f_M_beginSegment nx false ((0, 0, 0, 0, false, 0, 0, 0, 0, 0, 0, 0, 0, 0, 0, 0, 0, false, 0, 0), (fun _ => 0), (fun _ => 0), (fun _ => 0), (fun _ => 0), (fun _ => 0))).1.2.2.2.2.2.2.2.2.1), .int ((f_M_beginSegment nx false ((0, 0, 0, 0, false, 0, 0, 0, 0, 0, 0, 0, 0, 0, 0, 0, 0, false, 0, 0), (fun _ => 0), (fun _ => 0), (fun _ => 0), (fun _ => 0), (fun _ => 0))).1.2.2.2.2.2.2.2.2.2.1), .int ((f_M_beginSegment nx false ((0, 0, 0, 0, false, 0, 0, 0, 0, 0, 0, 0, 0, 0, 0, 0, 0, false, 0, 0), (fun _ => 0), (fun _ => 0), (fun _ => 0), (fun _ => 0), (fun _ => 0))).1.2.2.2.2.2.2.2.2.2.2.1), .int ((f_M_beginSegment nx false ((0, 0, 0, 0, false, 0, 0, 0, 0, 0, 0, 0, 0, 0, 0, 0, 0, false, 0, 0), (fun _ => 0), (fun _ => 0), (fun _ => 0), (fun _ => 0), (fun _ => 0))).1.2.2.2.2.2.2.2.2.2.2.2.1), .int ((f_M_beginSegment nx false ((0, 0, 0, 0, false, 0, 0, 0, 0, 0, 0, 0, 0, 0, 0, 0, 0, false, 0, 0), (fun _ => 0), (fun _ => 0), (fun _ => 0), (fun _ => 0), (fun _ => 0))).1.2.2.2.2.2.2.2.2.2.2.2.2.1), .long ((f_M_beginSegment nx false ((0, 0, 0, 0, false, 0, 0, 0, 0, 0, 0, 0, 0, 0, 0, 0, 0, false, 0, 0), (fun _ => 0), (fun _ => 0), (fun _ => 0), (fun _ => 0), (fun _ => 0))).1.2.2.2.2.2.2.2.2.2.2.2.2.2.1), .int ((f_M_beginSegment nx false ((0, 0, 0, 0, false, 0, 0, 0, 0, 0, 0, 0, 0, 0, 0, 0, 0, false, 0, 0), (fun _ => 0), (fun _ => 0), (fun _ => 0), (fun _ => 0), (fun _ => 0))).1.2.2.2.2.2.2.2.2.2.2.2.2.2.2.1), .int ((f_M_beginSegment nx false ((0, 0, 0, 0, false, 0, 0, 0, 0, 0, 0, 0, 0, 0, 0, 0, 0, false, 0, 0), (fun _ => 0), (fun _ => 0), (fun _ => 0), (fun _ => 0), (fun _ => 0))).1.2.2.2.2.2.2.2.2.2.2.2.2.2.2.2.1), .int ((f_M_beginSegment nx false ((0, 0, 0, 0, false, 0, 0, 0, 0, 0, 0, 0, 0, 0, 0, 0, 0, false, 0, 0), (fun _ => 0), (fun _ => 0), (fun _ => 0), (fun _ => 0), (fun _ => 0))).1.2.2.2.2.2.2.2.2.2.2.2.2.2.2.2.2.1), .int (bI ((f_M_beginSegment nx false ((0, 0, 0, 0, false, 0, 0, 0, 0, 0, 0, 0, 0, 0, 0, 0, 0, false, 0, 0), (fun _ => 0), (fun _ => 0), (fun _ => 0), (fun _ => 0), (fun _ => 0))).1.2.2.2.2.2.2.2.2.2.2.2.2.2.2.2.2.2.1)), .int ((f_M_beginSegment nx false ((0, 0, 0, 0, false, 0, 0, 0, 0, 0, 0, 0, 0, 0, 0, 0, 0, false, 0, 0), (fun _ => 0), (fun _ => 0), (fun _ => 0), (fun _ => 0), (fun _ => 0))).1.2.2.2.2.2.2.2.2.2.2.2.2.2.2.2.2.2.2.1), .int ((f_M_beginSegment nx false ((0, 0, 0, 0, false, 0, 0, 0, 0, 0, 0, 0, 0, 0, 0, 0, 0, false, 0, 0), (fun _ => 0), (fun _ => 0), (fun _ => 0), (fun _ => 0), (fun _ => 0))).1.2.2.2.2.2.2.2.2.2.2.2.2.2.2.2.2.2.2.2)])), (q289, .inl (E.2.1 0, 139264, .inl ((f_M_beginSegment nx false ((0, 0, 0, 0, false, 0, 0, 0, 0, 0, 0, 0, 0, 0, 0, 0, 0, false, 0, 0), (fun _ => 0), (fun _ => 0), (fun _ => 0), (fun _ => 0), (fun _ => 0))).2.1))), (q290, .inl (E.2.1 0, 393216, .inl ((f_M_beginSegment nx false ((0, 0, 0, 0, false, 0, 0, 0, 0, 0, 0, 0, 0, 0, 0, 0, 0, false, 0, 0), (fun _ => 0), (fun _ => 0), (fun _ => 0), (fun _ => 0), (fun _ => 0))).2.2.1))), (q291, .inl (E.2.1 0, 1100, .inl ((f_M_beginSegment nx false ((0, 0, 0, 0, false, 0, 0, 0, 0, 0, 0, 0, 0, 0, 0, 0, 0, false, 0, 0), (fun _ => 0), (fun _ => 0), (fun _ => 0), (fun _ => 0), (fun _ => 0))).2.2.2.1))), (q292, .inl (E.2.1 1, 1100, .inl ((f_M_beginSegment nx false ((0, 0, 0, 0, false, 0, 0, 0, 0, 0, 0, 0, 0, 0, 0, 0, 0, false, 0, 0), (fun _ => 0), (fun _ => 0), (fun _ => 0), (fun _ => 0), (fun _ => 0))).2.2.2.2.1))), (q293, .inl (E.2.1 0, 120000, .inl ((f_M_beginSegment nx false ((0, 0, 0, 0, false, 0, 0, 0, 0, 0, 0, 0, 0, 0, 0, 0, 0, false, 0, 0), (fun _ => 0), (fun _ => 0), (fun _ => 0), (fun _ => 0), (fun _ => 0))).2.2.2.2.2))), (q1, .inl (E.2.1 0, 47, .inl (zF 0))), (q97, .inl (E.2.1 0, 47, .inl (zF 1))), (q193, .inl (E.2.1 0, 47, .inl (zF 2)))]) [0, 1, 2, 3, 4, 5, 6, 7, 8] (by decide) rfl
      refine W.widen (k := 8) (n := 654821) (by omega) (by omega) ?_
      exact ar_vret hx hb hr hlocks hK hS (q289, q290, q291, q292, q293, q1, q97, q193) trivial hP hD d_M_init_961
  · skip
    refine lv_iconst (v := 1) hx hb d_M_init_937 (by decide) ?_
    refine lv_goto (tgt := 953) hx hb d_M_init_938 (by decide) ?_
    refine lv_topi (fun x300 ex300 => ?_)
    have ex300 := ex300.trans (many_a hnx0 c294)
    subst ex300
    refine va_putF (D := E.1) (ci := 5) (v := .int (nI nx)) (ty := .int) (C := R_M) (T := T_M) (N := 29) hx hb hts in_M t_M t_M_ok n_M hown hK hP hD hS 0 rfl rfl 4 (by decide) (hts _ m_614) (fun _ h9 => h9) rfl hin rfl (by decide +kernel) rfl rfl (Nat.le_of_ble_eq_true rfl) d_M_init_953 (fun Hn locsn hPn hDn hSn => ?_)
    clear hP hD hS
    have hP : va_P E.1 classes [(mo, .inr (5, [.ref q1, .ref q97, .ref q193, .int 0, .int (nI nx), .ref q289, .int 0, .ref q290, .int 0, .ref q291, .ref q292, .int 0, .ref q293, .int (bI false), .int 0, .int 0, .int 0, .int 0, .int 0, .int 0, .int 0, .int 0, .long 0, .int 0, .int 0, .int 0, .int (bI false), .int 0, .int 0])), (q1, .inl (E.2.1 0, 47, .inl (zF 0))), (q97, .inl (E.2.1 0, 47, .inl (zF 1))), (q193, .inl (E.2.1 0, 47, .inl (zF 2))), (q289, .inl (E.2.1 0, 139264, .inl (fun _ => 0))), (q290, .inl (E.2.1 0, 393216, .inl (fun _ => 0))), (q291, .inl (E.2.1 0, 1100, .inl (fun _ => 0))), (q292, .inl (E.2.1 1, 1100, .inl (fun _ => 0))), (q293, .inl (E.2.1 0, 120000, .inl (fun _ => 0)))] Hn := hPn
    have hD : va_D A [(mo, .inr (5, [.ref q1, .ref q97, .ref q193, .int 0, .int (nI nx), .ref q289, .int 0, .ref q290, .int 0, .ref q291, .ref q292, .int 0, .ref q293, .int (bI false), .int 0, .int 0, .int 0, .int 0, .int 0, .int 0, .int 0, .int 0, .long 0, .int 0, .int 0, .int 0, .int (bI false), .int 0, .int 0])), (q1, .inl (E.2.1 0, 47, .inl (zF 0))), (q97, .inl (E.2.1 0, 47, .inl (zF 1))), (q193, .inl (E.2.1 0, 47, .inl (zF 2))), (q289, .inl (E.2.1 0, 139264, .inl (fun _ => 0))), (q290, .inl (E.2.1 0, 393216, .inl (fun _ => 0))), (q291, .inl (E.2.1 0, 1100, .inl (fun _ => 0))), (q292, .inl (E.2.1 1, 1100, .inl (fun _ => 0))), (q293, .inl (E.2.1 0, 120000, .inl (fun _ => 0)))] := hDn
    have hS := hSn
    clear hPn hDn hSn
    refine lv_aload_n hx hb d_M_init_956 rfl (lv_at hl 0 rfl) ?_
    refine lv_iconst (v := 0) hx hb d_M_init_957 (by decide) ?_
    refine ar_usev (wr := []) hP hD hS hA [0, 4, 5, 6, 7, 8, 1, 2, 3] [] rfl rfl rfl (by decide) (ar_runV (n := 1) (As := [.int (bI false)]) (rest := []) (ci := 5) (q0 := 0) hx hb hml hown hts hP hD hS hA hK hZ (c_M_beginSegment l E _ mo q289 q290 q291 q292 q293 q1 q97 q193 nx ((0, 0, 0, 0, false, 0, 0, 0, 0, 0, 0, 0, 0, 0, 0, 0, 0, false, 0, 0), (fun _ => 0), (fun _ => 0), (fun _ => 0), (fun _ => 0), (fun _ => 0)) false (k_M_bs0 rfl)) m_605 m_607 ms_20 m_7 m_608 (by decide +kernel) ⟨Nat.le_of_ble_eq_true rfl, Nat.le_of_ble_eq_true rfl⟩ [0, 4, 5, 6, 7, 8, 1, 2, 3] rfl rfl rfl rfl rfl rfl rfl hl.1 rfl (Nat.le_of_ble_eq_true rfl) d_M_init_958 ⟨Nat.le_of_ble_eq_true rfl, Nat.le_of_ble_eq_true rfl⟩) (fun u301 Hn locsn hw301 hPn hDn hSn => ?_)
    clear hP hD hS
    have hP : va_P E.1 classes [(mo, .inr (5, [.ref q1, .ref q97, .ref q193, .int u301.1.1, .int (nI nx), .ref q289, .int u301.1.2.1, .ref q290, .int u301.1.2.2.1, .ref q291, .ref q292, .int u301.1.2.2.2.1, .ref q293, .int (bI u301.1.2.2.2.2.1), .int u301.1.2.2.2.2.2.1, .int u301.1.2.2.2.2.2.2.1, .int u301.1.2.2.2.2.2.2.2.1, .int u301.1.2.2.2.2.2.2.2.2.1, .int u301.1.2.2.2.2.2.2.2.2.2.1, .int u301.1.2.2.2.2.2.2.2.2.2.2.1, .int u301.1.2.2.2.2.2.2.2.2.2.2.2.1, .int u301.1.2.2.2.2.2.2.2.2.2.2.2.2.1, .long u301.1.2.2.2.2.2.2.2.2.2.2.2.2.2.1, .int u301.1.2.2.2.2.2.2.2.2.2.2.2.2.2.2.1, .int u301.1.2.2.2.2.2.2.2.2.2.2.2.2.2.2.2.1, .int u301.1.2.2.2.2.2.2.2.2.2.2.2.2.2.2.2.2.1, .int (bI u301.1.2.2.2.2.2.2.2.2.2.2.2.2.2.2.2.2.2.1), .int u301.1.2.2.2.2.2.2.2.2.2.2.2.2.2.2.2.2.2.2.1, .int u301.1.2.2.2.2.2.2.2.2.2.2.2.2.2.2.2.2.2.2.2])), (q289, .inl (E.2.1 0, 139264, .inl u301.2.1)), (q290, .inl (E.2.1 0, 393216, .inl u301.2.2.1)), (q291, .inl (E.2.1 0, 1100, .inl u301.2.2.2.1)), (q292, .inl (E.2.1 1, 1100, .inl u301.2.2.2.2.1)), (q293, .inl (E.2.1 0, 120000, .inl u301.2.2.2.2.2)), (q1, .inl (E.2.1 0, 47, .inl (zF 0))), (q97, .inl (E.2.1 0, 47, .inl (zF 1))), (q193, .inl (E.2.1 0, 47, .inl (zF 2)))] Hn := hPn
    have hD : va_D A [(mo, .inr (5, [.ref q1, .ref q97, .ref q193, .int u301.1.1, .int (nI nx), .ref q289, .int u301.1.2.1, .ref q290, .int u301.1.2.2.1, .ref q291, .ref q292, .int u301.1.2.2.2.1, .ref q293, .int (bI u301.1.2.2.2.2.1), .int u301.1.2.2.2.2.2.1, .int u301.1.2.2.2.2.2.2.1, .int u301.1.2.2.2.2.2.2.2.1, .int u301.1.2.2.2.2.2.2.2.2.1, .int u301.1.2.2.2.2.2.2.2.2.2.1, .int u301.1.2.2.2.2.2.2.2.2.2.2.1, .int u301.1.2.2.2.2.2.2.2.2.2.2.2.1, .int u301.1.2.2.2.2.2.2.2.2.2.2.2.2.1, .long u301.1.2.2.2.2.2.2.2.2.2.2.2.2.2.1, .int u301.1.2.2.2.2.2.2.2.2.2.2.2.2.2.2.1, .int u301.1.2.2.2.2.2.2.2.2.2.2.2.2.2.2.2.1, .int u301.1.2.2.2.2.2.2.2.2.2.2.2.2.2.2.2.2.1, .int (bI u301.1.2.2.2.2.2.2.2.2.2.2.2.2.2.2.2.2.2.1), .int u301.1.2.2.2.2.2.2.2.2.2.2.2.2.2.2.2.2.2.2.1, .int u301.1.2.2.2.2.2.2.2.2.2.2.2.2.2.2.2.2.2.2.2])), (q289, .inl (E.2.1 0, 139264, .inl u301.2.1)), (q290, .inl (E.2.1 0, 393216, .inl u301.2.2.1)), (q291, .inl (E.2.1 0, 1100, .inl u301.2.2.2.1)), (q292, .inl (E.2.1 1, 1100, .inl u301.2.2.2.2.1)), (q293, .inl (E.2.1 0, 120000, .inl u301.2.2.2.2.2)), (q1, .inl (E.2.1 0, 47, .inl (zF 0))), (q97, .inl (E.2.1 0, 47, .inl (zF 1))), (q193, .inl (E.2.1 0, 47, .inl (zF 2)))] := hDn
    have hS := hSn
    clear hPn hDn hSn
    subst hw301
    replace hP := hP.sub (ws' := [(mo, .inr (5, [.ref q1, .ref q97, .ref q193, .int ((f_M_beginSegment nx false ((0, 0, 0, 0, false, 0, 0, 0, 0, 0, 0, 0, 0, 0, 0, 0, 0, false, 0, 0), (fun _ => 0), (fun _ => 0), (fun _ => 0), (fun _ => 0), (fun _ => 0))).1.1), .int (nI nx), .ref q289, .int ((f_M_beginSegment nx false ((0, 0, 0, 0, false, 0, 0, 0, 0, 0, 0, 0, 0, 0, 0, 0, 0, false, 0, 0), (fun _ => 0), (fun _ => 0), (fun _ => 0), (fun _ => 0), (fun _ => 0))).1.2.1), .ref q290, .int ((f_M_beginSegment nx false ((0, 0, 0, 0, false, 0, 0, 0, 0, 0, 0, 0, 0, 0, 0, 0, 0, false, 0, 0), (fun _ => 0), (fun _ => 0), (fun _ => 0), (fun _ => 0), (fun _ => 0))).1.2.2.1), .ref q291, .ref q292, .int ((f_M_beginSegment nx false ((0, 0, 0, 0, false, 0, 0, 0, 0, 0, 0, 0, 0, 0, 0, 0, 0, false, 0, 0), (fun _ => 0), (fun _ => 0), (fun _ => 0), (fun _ => 0), (fun _ => 0))).1.2.2.2.1), .ref q293, .int (bI ((f_M_beginSegment nx false ((0, 0, 0, 0, false, 0, 0, 0, 0, 0, 0, 0, 0, 0, 0, 0, 0, false, 0, 0), (fun _ => 0), (fun _ => 0), (fun _ => 0), (fun _ => 0), (fun _ => 0))).1.2.2.2.2.1)), .int ((f_M_beginSegment nx false ((0, 0, 0, 0, false, 0, 0, 0, 0, 0, 0, 0, 0, 0, 0, 0, 0, false, 0, 0), (fun _ => 0), (fun _ => 0), (fun _ => 0), (fun _ => 0), (fun _ => 0))).1.2.2.2.2.2.1), .int ((f_M_beginSegment nx false ((0, 0, 0, 0, false, 0, 0, 0, 0, 0, 0, 0, 0, 0, 0, 0, 0, false, 0, 0), (fun _ => 0), (fun _ => 0), (fun _ => 0), (fun _ => 0), (fun _ => 0))).1.2.2.2.2.2.2.1), .int ((f_M_beginSegment nx false ((0, 0, 0, 0, false, 0, 0, 0, 0, 0, 0, 0, 0, 0, 0, 0, 0, false, 0, 0), (fun _ => 0), (fun _ => 0), (fun _ => 0), (fun _ => 0), (fun _ => 0))).1.2.2.2.2.2.2.2.1), .int ((f_M_beginSegment nx false ((0, 0, 0, 0, false, 0, 0, 0, 0, 0, 0, 0, 0, 0, 0, 0, 0, false, 0, 0), (fun _ => 0), (fun _ => 0), (fun _ => 0), (fun _ => 0), (fun _ => 0))).1.2.2.2.2.2.2.2.2.1), .int ((f_M_beginSegment nx false ((0, 0, 0, 0, false, 0, 0, 0, 0, 0, 0, 0, 0, 0, 0, 0, 0, false, 0, 0), (fun _ => 0), (fun _ => 0), (fun _ => 0), (fun _ => 0), (fun _ => 0))).1.2.2.2.2.2.2.2.2.2.1), .int ((f_M_beginSegment nx false ((0, 0, 0, 0, false, 0, 0, 0, 0, 0, 0, 0, 0, 0, 0, 0, 0, false, 0, 0), (fun _ => 0), (fun _ => 0), (fun _ => 0), (fun _ => 0), (fun _ => 0))).1.2.2.2.2.2.2.2.2.2.2.1), .int ((f_M_beginSegment nx false ((0, 0, 0, 0, false, 0, 0, 0, 0, 0, 0, 0, 0, 0, 0, 0, 0, false, 0, 0), (fun _ => 0), (fun _ => 0), (fun _ => 0), (fun _ => 0), (fun _ => 0))).1.2.2.2.2.2.2.2.2.2.2.2.1), .int ((f_M_beginSegment nx false ((0, 0, 0, 0, false, 0, 0, 0, 0, 0, 0, 0, 0, 0, 0, 0, 0, false, 0, 0), (fun _ => 0), (fun _ => 0), (fun _ => 0), (fun _ => 0), (fun _ => 0))).1.2.2.2.2.2.2.2.2.2.2.2.2.1), .long ((f_M_beginSegment nx false ((0, 0, 0, 0, false, 0, 0, 0, 0, 0, 0, 0, 0, 0, 0, 0, 0, false, 0, 0), (fun _ => 0), (fun _ => 0), (fun _ => 0), (fun _ => 0), (fun _ => 0))).1.2.2.2.2.2.2.2.2.2.2.2.2.2.1), .int ((f_M_beginSegment nx false ((0, 0, 0, 0, false, 0, 0, 0, 0, 0, 0, 0, 0, 0, 0, 0, 0, false, 0, 0), (fun _ => 0), (fun _ => 0), (fun _ => 0), (fun _ => 0), (fun _ => 0))).1.2.2.2.2.2.2.2.2.2.2.2.2.2.2.1), .int ((f_M_beginSegment nx false ((0, 0, 0, 0, false, 0, 0, 0, 0, 0, 0, 0, 0, 0, 0, 0, 0, false, 0, 0), (fun _ => 0), (fun _ => 0), (fun _ => 0), (fun _ => 0), (fun _ => 0))).1.2.2.2.2.2.2.2.2.2.2.2.2.2.2.2.1), .int ((f_M_beginSegment nx false ((0, 0, 0, 0, false, 0, 0, 0, 0, 0, 0, 0, 0, 0, 0, 0, 0, false, 0, 0), (fun _ => 0), (fun _ => 0), (fun _ => 0), (fun _ => 0), (fun _ => 0))).1.2.2.2.2.2.2.2.2.2.2.2.2.2.2.2.2.1), .int (bI ((f_M_beginSegment nx false ((0, 0, 0, 0, false, 0, 0, 0, 0, 0, 0, 0, 0, 0, 0, 0, 0, false, 0, 0), (fun _ => 0), (fun _ => 0), (fun _ => 0), (fun _ => 0), (fun _ => 0))).1.2.2.2.2.2.2.2.2.2.2.2.2.2.2.2.2.2.1)), .int ((f_M_beginSegment nx false ((0, 0, 0, 0, false, 0, 0, 0, 0, 0, 0, 0, 0, 0, 0, 0, 0, false, 0, 0), (fun _ => 0), (fun _ => 0), (fun _ => 0), (fun _ => 0), (fun _ => 0))).1.2.2.2.2.2.2.2.2.2.2.2.2.2.2.2.2.2.2.1), .int ((f_M_beginSegment nx false ((0, 0, 0, 0, false, 0, 0, 0, 0, 0, 0, 0, 0, 0, 0, 0, 0, false, 0, 0), (fun _ => 0), (fun _ => 0), (fun _ => 0), (fun _ => 0), (fun _ => 0))).1.2.2.2.2.2.2.2.2.2.2.2.2.2.2.2.2.2.2.2)])), (q289, .inl (E.2.1 0, 139264, .inl ((f_M_beginSegment nx false ((0, 0, 0, 0, false, 0, 0, 0, 0, 0, 0, 0, 0, 0, 0, 0, 0, false, 0, 0), (fun _ => 0), (fun _ => 0), (fun _ => 0), (fun _ => 0), (fun _ => 0))).2.1))), (q290, .inl (E.2.1 0, 393216, .inl ((f_M_beginSegment nx false ((0, 0, 0, 0, false, 0, 0, 0, 0, 0, 0, 0, 0, 0, 0, 0, 0, false, 0, 0), (fun _ => 0), (fun _ => 0), (fun _ => 0), (fun _ => 0), (fun _ => 0))).2.2.1))), (q291, .inl (E.2.1 0, 1100, .inl ((f_M_beginSegment nx false ((0, 0, 0, 0, false, 0, 0, 0, 0, 0, 0, 0, 0, 0, 0, 0, 0, false, 0, 0), (fun _ => 0), (fun _ => 0), (fun _ => 0), (fun _ => 0), (fun _ => 0))).2.2.2.1))), (q292, .inl (E.2.1 1, 1100, .inl ((f_M_beginSegment nx false ((0, 0, 0, 0, false, 0, 0, 0, 0, 0, 0, 0, 0, 0, 0, 0, 0, false, 0, 0), (fun _ => 0), (fun _ => 0), (fun _ => 0), (fun _ => 0), (fun _ => 0))).2.2.2.2.1))), (q293, .inl (E.2.1 0, 120000, .inl ((f_M_beginSegment nx false ((0, 0, 0, 0, false, 0, 0, 0, 0, 0, 0, 0, 0, 0, 0, 0, 0, false, 0, 0), (fun _ => 0), (fun _ => 0), (fun _ => 0), (fun _ => 0), (fun _ => 0))).2.2.2.2.2))), (q1, .inl (E.2.1 0, 47, .inl (zF 0))), (q97, .inl (E.2.1 0, 47, .inl (zF 1))), (q193, .inl (E.2.1 0, 47, .inl (zF 2)))]) [0, 1, 2, 3, 4, 5, 6, 7, 8] rfl
    replace hD := hD.sub (ws' := [(mo, .inr (5, [.ref q1, .ref q97, .ref q193, .int ((f_M_beginSegment nx false ((0, 0, 0, 0, false, 0, 0, 0, 0, 0, 0, 0, 0, 0, 0, 0, 0, false, 0, 0), (fun _ => 0), (fun _ => 0), (fun _ => 0), (fun _ => 0), (fun _ => 0))).1.1), .int (nI nx), .ref q289, .int ((f_M_beginSegment nx false ((0, 0, 0, 0, false, 0, 0, 0, 0, 0, 0, 0, 0, 0, 0, 0, 0, false, 0, 0), (fun _ => 0), (fun _ => 0), (fun _ => 0), (fun _ => 0), (fun _ => 0))).1.2.1), .ref q290, .int ((f_M_beginSegment nx false ((0, 0, 0, 0, false, 0, 0, 0, 0, 0, 0, 0, 0, 0, 0, 0, 0, false, 0, 0), (fun _ => 0), (fun _ => 0), (fun _ => 0), (fun _ => 0), (fun _ => 0))).1.2.2.1), .ref q291, .ref q292, .int ((f_M_beginSegment nx false ((0, 0, 0, 0, false, 0, 0, 0, 0, 0, 0, 0, 0, 0, 0, 0, 0, false, 0, 0), (fun _ => 0), (fun _ => 0), (fun _ => 0), (fun _ => 0), (fun _ => 0))).1.2.2.2.1), .ref q293, .int (bI ((f_M_beginSegment nx false ((0, 0, 0, 0, false, 0, 0, 0, 0, 0, 0, 0, 0, 0, 0, 0, 0, false, 0, 0), (fun _ => 0), (fun _ => 0), (fun _ => 0), (fun _ => 0), (fun _ => 0))).1.2.2.2.2.1)), .int ((f_M_beginSegment nx false ((0, 0, 0, 0, false, 0, 0, 0, 0, 0, 0, 0, 0, 0, 0, 0, 0, false, 0, 0), (fun _ => 0), (fun _ => 0), (fun _ => 0), (fun _ => 0), (fun _ => 0))).1.2.2.2.2.2.1), .int ((f_M_beginSegment nx false ((0, 0, 0, 0, false, 0, 0, 0, 0, 0, 0, 0, 0, 0, 0, 0, 0, false, 0, 0), (fun _ => 0), (fun _ => 0), (fun _ => 0), (fun _ => 0), (fun _ => 0))).1.2.2.2.2.2.2.1), .int ((f_M_beginSegment nx false ((0, 0, 0, 0, false, 0, 0, 0, 0, 0, 0, 0, 0, 0, 0, 0, 0, false, 0, 0), (fun _ => 0), (fun _ => 0), (fun _ => 0), (fun _ => 0), (fun _ => 0))).1.2.2.2.2.2.2.2.1), .int ((f_M_beginSegment nx false ((0, 0, 0, 0, false, 0, 0, 0, 0, 0, 0, 0, 0, 0, 0, 0, 0, false, 0, 0), (fun _ => 0), (fun _ => 0), (fun _ => 0), (fun _ => 0), (fun _ => 0))).1.2.2.2.2.2.2.2.2.1), .int ((f_M_beginSegment nx false ((0, 0, 0, 0, false, 0, 0, 0, 0, 0, 0, 0, 0, 0, 0, 0, 0, false, 0, 0), (fun _ => 0), (fun _ => 0), (fun _ => 0), (fun _ => 0), (fun _ => 0))).1.2.2.2.2.2.2.2.2.2.1), .int ((f_M_beginSegment nx false ((0, 0, 0, 0, false, 0, 0, 0, 0, 0, 0, 0, 0, 0, 0, 0, 0, false, 0, 0), (fun _ => 0), (fun _ => 0), (fun _ => 0), (fun _ => 0), (fun _ => 0))).1.2.2.2.2.2.2.2.2.2.2.1), .int ((f_M_beginSegment nx false ((0, 0, 0, 0, false, 0, 0, 0, 0, 0, 0, 0, 0, 0, 0, 0, 0, false, 0, 0), (fun _ => 0), (fun _ => 0), (fun _ => 0), (fun _ => 0), (fun _ => 0))).1.2.2.2.2.2.2.2.2.2.2.2.1), .int ((f_M_beginSegment nx false ((0, 0, 0, 0, false, 0, 0, 0, 0, 0, 0, 0, 0, 0, 0, 0, 0, false, 0, 0), (fun _ => 0), (fun _ => 0), (fun _ => 0), (fun _ => 0), (fun _ => 0))).1.2.2.2.2.2.2.2.2.2.2.2.2.1), .long ((f_M_beginSegment nx false ((0, 0, 0, 0, false, 0, 0, 0, 0, 0, 0, 0, 0, 0, 0, 0, 0, false, 0, 0), (fun _ => 0), (fun _ => 0), (fun _ => 0), (fun _ => 0), (fun _ => 0))).1.2.2.2.2.2.2.2.2.2.2.2.2.2.1), .int ((f_M_beginSegment nx false ((0, 0, 0, 0, false, 0, 0, 0, 0, 0, 0, 0, 0, 0, 0, 0, 0, false, 0, 0), (fun _ => 0), (fun _ => 0), (fun _ => 0), (fun _ => 0), (fun _ => 0))).1.2.2.2.2.2.2.2.2.2.2.2.2.2.2.1), .int ((f_M_beginSegment nx false ((0, 0, 0, 0, false, 0, 0, 0, 0, 0, 0, 0, 0, 0, 0, 0, 0, false, 0, 0), (fun _ => 0), (fun _ => 0), (fun _ => 0), (fun _ => 0), (fun _ => 0))).1.2.2.2.2.2.2.2.2.2.2.2.2.2.2.2.1), .int ((f_M_beginSegment nx false ((0, 0, 0, 0, false, 0, 0, 0, 0, 0, 0, 0, 0, 0, 0, 0, 0, false, 0, 0), (fun _ => 0), (fun _ => 0), (fun _ => 0), (fun _ => 0), (fun _ => 0))).1.2.2.2.2.2.2.2.2.2.2.2.2.2.2.2.2.1), .int (bI ((f_M_beginSegment nx false ((0, 0, 0, 0, false, 0, 0, 0, 0, 0, 0, 0, 0, 0, 0, 0, 0, false, 0, 0), (fun _ => 0), (fun _ => 0), (fun _ => 0), (fun _ => 0), (fun _ => 0))).1.2.2.2.2.2.2.2.2.2.2.2.2.2.2.2.2.2.1)), .int ((f_M_beginSegment nx false ((0, 0, 0, 0, false, 0, 0, 0, 0, 0, 0, 0, 0, 0, 0, 0, 0, false, 0, 0), (fun _ => 0), (fun _ => 0), (fun _ => 0), (fun _ => 0), (fun _ => 0))).1.2.2.2.2.2.2.2.2.2.2.2.2.2.2.2.2.2.2.1), .int ((f_M_beginSegment nx false ((0, 0, 0, 0, false, 0, 0, 0, 0, 0, 0, 0, 0, 0, 0, 0, 0, false, 0, 0), (fun _ => 0), (fun _ => 0), (fun _ => 0), (fun _ => 0), (fun _ => 0))).1.2.2.2.2.2.2.2.2.2.2.2.2.2.2.2.2.2.2.2)])), (q289, .inl (E.2.1 0, 139264, .inl ((f_M_beginSegment nx false ((0, 0, 0, 0, false, 0, 0, 0, 0, 0, 0, 0, 0, 0, 0, 0, 0, false, 0, 0), (fun _ => 0), (fun _ => 0), (fun _ => 0), (fun _ => 0), (fun _ => 0))).2.1))), (q290, .inl (E.2.1 0, 393216, .inl ((f_M_beginSegment nx false ((0, 0, 0, 0, false, 0, 0, 0, 0, 0, 0, 0, 0, 0, 0, 0, 0, false, 0, 0), (fun _ => 0), (fun _ => 0), (fun _ => 0), (fun _ => 0), (fun _ => 0))).2.2.1))), (q291, .inl (E.2.1 0, 1100, .inl ((f_M_beginSegment nx false ((0, 0, 0, 0, false, 0, 0, 0, 0, 0, 0, 0, 0, 0, 0, 0, 0, false, 0, 0), (fun _ => 0), (fun _ => 0), (fun _ => 0), (fun _ => 0), (fun _ => 0))).2.2.2.1))), (q292, .inl (E.2.1 1, 1100, .inl ((f_M_beginSegment nx false ((0, 0, 0, 0, false, 0, 0, 0, 0, 0, 0, 0, 0, 0, 0, 0, 0, false, 0, 0), (fun _ => 0), (fun _ => 0), (fun _ => 0), (fun _ => 0), (fun _ => 0))).2.2.2.2.1))), (q293, .inl (E.2.1 0, 120000, .inl ((f_M_beginSegment nx false ((0, 0, 0, 0, false, 0, 0, 0, 0, 0, 0, 0, 0, 0, 0, 0, 0, false, 0, 0), (fun _ => 0), (fun _ => 0), (fun _ => 0), (fun _ => 0), (fun _ => 0))).2.2.2.2.2))), (q1, .inl (E.2.1 0, 47, .inl (zF 0))), (q97, .inl (E.2.1 0, 47, .inl (zF 1))), (q193, .inl (E.2.1 0, 47, .inl (zF 2)))]) [0, 1, 2, 3, 4, 5, 6, 7, 8] (by decide) rfl
    refine W.widen (k := 8) (n := 654821) (by omega) (by omega) ?_
    exact ar_vret hx hb hr hlocks hK hS (q289, q290, q291, q292, q293, q1, q97, q193) trivial hP hD d_M_init_961
