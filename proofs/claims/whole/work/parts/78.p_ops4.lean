/-! pure part 19: save, back, reset, the beginning -/
theorem place_b {nx j : Nat} {m : MS} : f_M_placeOf nx (nI j) m = nI ((if m.1.2.2.2.2.1 then 65536 else 0) + j) ∧ k_M_placeOf nx (nI j) m := by
  cases hd : m.1.2.2.2.2.1 with
  | false => rw [if_neg (by decide), Nat.zero_add]; exact place_e hd
  | true => rw [if_pos rfl]; exact place_d hd
/-- where the side at work lies -/
def sdP (d : Bool) : Nat := if d then 65536 else 0
theorem m_save {nx s : Nat} (hn : nx ≤ 65536) (hs : s < 6) : ∀ (f j : Nat) (m : MS), j + f = nx + 1 → m.1.2.1 = nI s → j ≤ nx →
    ∃ sv, g_M_save nx f m (nI j) = (nI s, ((m.1.1, nI (s + 1), m.1.2.2), m.2.1, sv, m.2.2.2)) ∧ kl_M_save nx f m (nI j) ∧ (∀ i, j ≤ i → i < nx → sv (65536 * s + i) = m.2.1 (sdP m.1.2.2.2.2.1 + i)) ∧ (∀ t, t < 65536 * s + j → sv t = m.2.2.1 t) := by
  intro f
  induction f with
  | zero => intro j m hj _ hle; omega
  | succ f ih =>
    intro j m hj hsm hle
    rw [g_M_save_s, kl_M_save_s]
    by_cases h : j = nx
    · subst h
      have e : nI j ≤ nI j := nI_le (Nat.le_refl j) (by omega)
      have e1 : m.1.2.1 + 1 = nI (s + 1) := by rw [hsm, nI_1]
      refine ⟨m.2.2.1, (if_pos e).trans ?_, br_t e (fun _ _ => trivial), fun i h1 h2 => by omega, fun t _ => rfl⟩
      dsimp only
      rw [e1, nI_pred]
    · have e : ¬ nI nx ≤ nI j := nI_ge (by omega) (by omega)
      obtain ⟨pl, kpl⟩ := place_b (nx := nx) (j := j) (m := m)
      have hP : (if m.1.2.2.2.2.1 then 65536 else 0) + j < 139264 := by
        cases m.1.2.2.2.2.1
        · rw [if_neg (by decide)]; omega
        · rw [if_pos rfl]; omega
      have ep : 65536 * m.1.2.1 + nI j = nI (65536 * s + j) := by rw [hsm, show (65536 : Int32) = nI 65536 from rfl, pk_mul, nI_add]
      obtain ⟨sv, A1, A2, A3, A4⟩ := ih (j + 1) (m.1, m.2.1, upd m.2.2.1 (65536 * s + j) (m.2.1 (sdP m.1.2.2.2.2.1 + j)), m.2.2.2) (by omega) hsm (by omega)
      refine ⟨sv, (if_neg e).trans ?_, br_f e ⟨kpl, ?_⟩, ?_, ?_⟩
      · dsimp only
        rw [pl, ep, nI_clamp (by omega), nI_clamp (by omega), nI_1]
        exact A1
      · intro r4 h4
        rw [pl] at h4
        subst h4
        refine ⟨vp_in_nI hP (by decide), fun x6 h6 => ⟨by rw [ep]; exact vp_in_nI (by omega) (by decide), fun x9 h9 => ?_⟩⟩
        rw [nI_1] at h9
        rw [nI_clamp (by omega)] at h6
        subst h6 h9
        rw [ep, nI_clamp (by omega)]
        exact A2
      · intro i h1 h2
        by_cases q : i = j
        · subst q
          rw [A4 (65536 * s + i) (by omega)]
          exact q_upd _ _ _
        · exact A3 i (by omega) h2
      · intro t ht
        rw [A4 t (by omega)]
        exact q_updn _ _ (by omega)
theorem m_back {nx k : Nat} (hn : nx ≤ 65536) (hk : k < 6) : ∀ (f j : Nat) (m : MS), j + f = nx + 1 → j ≤ nx →
    ∃ mc, g_M_back nx (nI k) f m true (nI j) = (true, (m.1, mc, m.2.2)) ∧ kl_M_back nx (nI k) f m true (nI j) ∧ (∀ i, j ≤ i → i < nx → mc (sdP m.1.2.2.2.2.1 + i) = m.2.2.1 (65536 * k + i)) ∧ (∀ t, t < sdP m.1.2.2.2.2.1 + j ∨ sdP m.1.2.2.2.2.1 + nx ≤ t → mc t = m.2.1 t) := by
  intro f
  induction f with
  | zero => intro j m hj hle; omega
  | succ f ih =>
    intro j m hj hle
    rw [g_M_back_s, kl_M_back_s]
    by_cases h : j = nx
    · subst h
      have e : nI j ≤ nI j := nI_le (Nat.le_refl j) (by omega)
      exact ⟨m.2.1, if_pos e, br_t e trivial, fun i h1 h2 => by omega, fun t _ => rfl⟩
    · have e : ¬ nI nx ≤ nI j := nI_ge (by omega) (by omega)
      obtain ⟨pl, kpl⟩ := place_b (nx := nx) (j := j) (m := m)
      have pl : f_M_placeOf nx (nI j) m = nI (sdP m.1.2.2.2.2.1 + j) := pl
      have hP : sdP m.1.2.2.2.2.1 + j < 139264 := by
        unfold sdP
        cases m.1.2.2.2.2.1
        · rw [if_neg (by decide)]; omega
        · rw [if_pos rfl]; omega
      have ep : 65536 * nI k + nI j = nI (65536 * k + j) := by rw [show (65536 : Int32) = nI 65536 from rfl, pk_mul, nI_add]
      obtain ⟨mc, A1, A2, A3, A4⟩ := ih (j + 1) (m.1, upd m.2.1 (sdP m.1.2.2.2.2.1 + j) (m.2.2.1 (65536 * k + j)), m.2.2) (by omega) (by omega)
      refine ⟨mc, (if_neg e).trans ((if_neg bI_t0).trans ?_), br_f e (br_f bI_t0 ⟨kpl, ?_⟩), ?_, ?_⟩
      · dsimp only
        rw [pl, ep, nI_clamp (n := sdP m.1.2.2.2.2.1 + j) (by omega), nI_clamp (n := 65536 * k + j) (by omega), nI_1]
        exact A1
      · intro r4 h4
        rw [pl] at h4
        subst h4
        refine ⟨by rw [ep]; exact vp_in_nI (by omega) (by decide), fun x6 h6 => ⟨vp_in_nI hP (by decide), fun x9 h9 => ?_⟩⟩
        rw [nI_1] at h9
        rw [ep, nI_clamp (by omega)] at h6
        subst h6 h9
        rw [nI_clamp (by omega)]
        exact A2
      · intro i h1 h2
        by_cases q : i = j
        · subst q
          rw [A4 (sdP m.1.2.2.2.2.1 + i) (Or.inl (by show sdP m.1.2.2.2.2.1 + i < sdP m.1.2.2.2.2.1 + (i + 1); omega))]
          exact q_upd _ _ _
        · exact A3 i (by omega) h2
      · intro t ht
        rw [A4 t (by rcases ht with q | q; exact Or.inl (by show t < sdP m.1.2.2.2.2.1 + (j + 1); omega); exact Or.inr q)]
        exact q_updn _ _ (by omega)
section
variable {nx n : Nat} {x : XS} {m : MS}
theorem kp_lt {k s nx i : Nat} (hk : k < s) (hi : i < nx) : k * nx + i < s * nx := by
  have : (k + 1) * nx ≤ s * nx := Nat.mul_le_mul_right nx hk
  rw [Nat.succ_mul] at this
  omega
theorem save_core (hn : nx ≤ 65536) (s : Nat) (hs : s < 6) (h1 : x.1.1 = nI s) : x.1.1 < 6 ∧ (x.1.1 * nI nx).toNatClampNeg = s * nx ∧ (nI nx).toNatClampNeg = nx ∧ ¬ x.1.1 * nI nx < 0 ∧ ¬ nI nx < 0 ∧ s * nx + nx ≤ 6 * nx := by
  have h6 : (s + 1) * nx ≤ 6 * nx := Nat.mul_le_mul_right nx hs
  rw [Nat.succ_mul] at h6
  have e : x.1.1 * nI nx = nI (s * nx) := by rw [h1, pk_mul]
  rw [e]
  exact ⟨by rw [h1]; exact nI_lt (b := 6) hs (by decide), nI_clamp (by omega), nI_clamp (by omega), nI_pos (by omega), nI_pos (by omega), h6⟩
/-- the class's save, of the side that is at work -/
noncomputable def xSave (nx : Nat) (x : XS) : Int32 × XS := if x.1.2.1 then f_X_save_1 nx x else f_X_save_0 nx x
def kSave (nx : Nat) (x : XS) : Prop := if x.1.2.1 then k_X_save_1 nx x else k_X_save_0 nx x
noncomputable def xBack (nx : Nat) (p : Int32) (x : XS) : Bool × XS := if x.1.2.1 then f_X_back_1 nx p x else f_X_back_0 nx p x
def kBack (nx : Nat) (p : Int32) (x : XS) : Prop := if x.1.2.1 then k_X_back_1 nx p x else k_X_back_0 nx p x
theorem save_op (hn : nx ≤ 65536) (hc : n < 512) (h : XN nx n x m) :
    Ret nx n (xSave nx x) (kSave nx x) (f_M_save nx m) (k_M_save nx m) ∨ Thr nx n x (k_X_save_T1 nx x) 1 (f_M_save nx m) (k_M_save nx m) := by
  have hup := h.up
  obtain ⟨g, ls, z, s, hN, hR, hC, hs1, hs2, hk, hd2, hw⟩ := h
  by_cases h6 : s = 6
  · subst h6
    have e6 : m.1.2.1 = 6 := hs2
    have e : f_M_save nx m = (0, Km m 1) := by rw [f_M_save_s]; exact if_pos e6
    exact Or.inr ⟨br_f (by rw [hs1]; decide) trivial, br_t e6 trivial, by rw [e], by rw [e]; exact hup 1⟩
  · have hs : s < 6 := by have := hk.1; omega
    have e6 : ¬ m.1.2.1 = 6 := by rw [hs2]; exact fun q => h6 ((nI_eq (b := 6) (by omega) (by decide)).mp q)
    obtain ⟨sv, A1, A2, A3, A4⟩ := m_save (nx := nx) hn hs (nx + 1) 0 (Km m 0) (by omega) hs2 (by omega)
    obtain ⟨c1, c2, c3, c4, c5, c6⟩ := save_core (x := x) hn s hs hs1
    have eM : f_M_save nx m = (nI s, (((Km m 0).1.1, nI (s + 1), (Km m 0).1.2.2), (Km m 0).2.1, sv, (Km m 0).2.2.2)) := by
      rw [f_M_save_s, nf_eq]
      exact (if_neg e6).trans A1
    have kM : k_M_save nx m := by
      refine br_f e6 ?_
      rw [nf_eq]; exact A2
    have x9 : x.1.1 + 1 = nI (s + 1) := by rw [hs1, nI_1]
    -- what is kept then
    have keep : ∀ f : Nat → Int32, (∀ i, i < nx → OK (f i) (m.2.1 (sdP m.1.2.2.2.2.1 + i))) → KX nx (s + 1) (va_cpy f x.2.2.2.2.2.2.2.2 0 (s * nx) nx) sv := by
      intro f hf
      refine ⟨by omega, fun k i hks hi => ?_⟩
      by_cases q : k = s
      · subst q
        rw [pk_cpy_in (by omega) (by omega), A3 i (by omega) hi, show 0 + (k * nx + i - k * nx) = i by omega]
        exact hf i hi
      · have hks' : k < s := by omega
        have hlt := kp_lt hks' hi
        rw [pk_cpy_out (Or.inl hlt), A4 (65536 * k + i) (by omega)]
        exact hk.2 k i hks' hi
    cases hd : m.1.2.2.2.2.1 with
    | false =>
      have hxd : x.1.2.1 = false := hd2.trans hd
      have eX : xSave nx x = (nI s, ((nI (s + 1), x.1.2.1, x.1.2.2), x.2.1, x.2.2.1, x.2.2.2.1, x.2.2.2.2.1, x.2.2.2.2.2.1, x.2.2.2.2.2.2.1, x.2.2.2.2.2.2.2.1, va_cpy x.2.2.2.2.1 x.2.2.2.2.2.2.2.2 0 (s * nx) nx)) := by
        unfold xSave
        rw [hxd, if_neg (by decide), f_X_save_0_s]
        refine (if_pos c1).trans ?_
        dsimp only
        rw [c2, c3, x9, nI_pred, hxd]
        rfl
      have kX : kSave nx x := by
        unfold kSave
        rw [hxd, if_neg (by decide)]
        refine br_t c1 ⟨br_t (by rw [hxd]; rfl) trivial, by decide, c4, c5, ?_, ?_, fun _ _ => trivial⟩
        · rw [c3]; exact Nat.le_of_eq (Nat.zero_add nx)
        · rw [c2, c3]; exact c6
      refine Or.inl ⟨kX, kM, by rw [eM, eX], by rw [eM], ?_⟩
      rw [eM, eX]
      refine ⟨g, ls, z, s + 1, by omega, hR, hC, rfl, rfl, keep _ (fun i hi => ?_), hd2, ?_⟩
      · rw [hd]
        show OK _ (m.2.1 (0 + i))
        rw [Nat.zero_add]; exact hC.1 i hi
      · rcases hw with ⟨a, b⟩ | ⟨a, b, c⟩
        · exact Or.inl ⟨a, WR.mono b (by omega)⟩
        · exact Or.inr ⟨a, DR.mono b (by omega), by omega⟩
    | true =>
      have hxd : x.1.2.1 = true := hd2.trans hd
      have eX : xSave nx x = (nI s, ((nI (s + 1), x.1.2.1, x.1.2.2), x.2.1, x.2.2.1, x.2.2.2.1, x.2.2.2.2.1, x.2.2.2.2.2.1, x.2.2.2.2.2.2.1, x.2.2.2.2.2.2.2.1, va_cpy x.2.2.2.2.2.2.1 x.2.2.2.2.2.2.2.2 0 (s * nx) nx)) := by
        unfold xSave
        rw [hxd, if_pos rfl, f_X_save_1_s]
        refine (if_pos c1).trans ?_
        dsimp only
        rw [c2, c3, x9, nI_pred, hxd]
        rfl
      have kX : kSave nx x := by
        unfold kSave
        rw [hxd, if_pos rfl]
        refine br_t c1 ⟨br_f (by rw [hxd]; decide) trivial, by decide, c4, c5, ?_, ?_, fun _ _ => trivial⟩
        · rw [c3]; exact Nat.le_of_eq (Nat.zero_add nx)
        · rw [c2, c3]; exact c6
      refine Or.inl ⟨kX, kM, by rw [eM, eX], by rw [eM], ?_⟩
      rw [eM, eX]
      refine ⟨g, ls, z, s + 1, by omega, hR, hC, rfl, rfl, keep _ (fun i hi => ?_), hd2, ?_⟩
      · rw [hd]
        exact hC.2.2.1 i hi
      · rcases hw with ⟨a, b⟩ | ⟨a, b, c⟩
        · exact Or.inl ⟨a, WR.mono b (by omega)⟩
        · exact Or.inr ⟨a, DR.mono b (by omega), by omega⟩
theorem back_op (hn0 : 0 < nx) (hn : nx ≤ 65536) (hc : n < 512) (h : XN nx n x m) (p0 : Int32) : Ret nx n (xBack nx p0 x) (kBack nx p0 x) (f_M_back nx p0 m) (k_M_back nx p0 m) := by
  have hup := h.up
  obtain ⟨g, ls, z, s, hN, hR, hC, hs1, hs2, hk, hd2, hw⟩ := h
  have hs6 := hk.1
  have no : p0 < 0 ∨ nI s ≤ p0 → Ret nx n (xBack nx p0 x) (kBack nx p0 x) (f_M_back nx p0 m) (k_M_back nx p0 m) := by
    intro hno
    have hin : f_M_in p0 0 (m.1.2.1 - 1) = false := by
      rw [hs2]
      by_cases hz0 : 0 < s
      · exact m_no hz0 (by omega) hno
      · have hzz : s = 0 := by omega
        subst hzz
        rw [m_in]
        refine decide_eq_false (fun q => q.2 ?_)
        have h1 := q.1
        rw [Int32.lt_iff_toInt_lt, Int32.toInt_zero] at h1
        rw [Int32.lt_iff_toInt_lt, show (nI 0 - 1).toInt = -1 from by decide]
        omega
    have e0 : ¬ nI nx ≤ 0 := nI_nle hn0 (by omega)
    have e : f_M_back nx p0 m = (false, Km m 0) := by
      rw [f_M_back_s]
      dsimp only
      rw [hin, nf_eq, g_M_back_s]
      exact (if_neg e0).trans (if_pos bI_f0)
    have kM : k_M_back nx p0 m := by
      intro b1 h1
      rw [hin] at h1; subst h1
      rw [nf_eq, kl_M_back_s]
      exact br_f e0 (br_t bI_f0 trivial)
    have hx0 : ¬ p0 < 0 → ¬ p0 < x.1.1 := by
      intro q
      rw [hs1]
      rcases hno with w | w
      · exact absurd w q
      · rw [Int32.lt_iff_toInt_lt]
        have := Int32.le_iff_toInt_le.mp w
        omega
    have eX : xBack nx p0 x = (false, x) ∧ kBack nx p0 x := by
      unfold xBack kBack
      by_cases q : p0 < 0
      · cases x.1.2.1
        · rw [if_neg (by decide), if_neg (by decide), f_X_back_0_s]; exact ⟨if_pos q, br_t q trivial⟩
        · rw [if_pos rfl, if_pos rfl, f_X_back_1_s]; exact ⟨if_pos q, br_t q trivial⟩
      · cases x.1.2.1
        · rw [if_neg (by decide), if_neg (by decide), f_X_back_0_s]; exact ⟨(if_neg q).trans (if_neg (hx0 q)), br_f q (br_f (hx0 q) trivial)⟩
        · rw [if_pos rfl, if_pos rfl, f_X_back_1_s]; exact ⟨(if_neg q).trans (if_neg (hx0 q)), br_f q (br_f (hx0 q) trivial)⟩
    exact ⟨eX.2, kM, by rw [e, eX.1], by rw [e], by rw [e, eX.1]; exact hup 0⟩
  rcases pk_ix p0 (n := s) (by omega) with h0 | h0 | ⟨k, hks, rfl⟩
  · exact no (Or.inl h0)
  · exact no (Or.inr h0)
  · have hin : f_M_in (nI k) 0 (m.1.2.1 - 1) = true := by rw [hs2]; exact m_yes (by omega) hks
    obtain ⟨mc, A1, A2, A3, A4⟩ := m_back (nx := nx) (k := k) hn (by omega) (nx + 1) 0 (Km m 0) (by omega) (by omega)
    have eM : f_M_back nx (nI k) m = (true, ((Km m 0).1, mc, (Km m 0).2.2)) := by
      rw [f_M_back_s]
      dsimp only
      rw [hin, nf_eq]
      exact A1
    have kM : k_M_back nx (nI k) m := by
      intro b1 h1
      rw [hin] at h1; subst h1
      rw [nf_eq]; exact A2
    have q0 : ¬ nI k < 0 := nI_pos (by omega)
    have q1 : nI k < x.1.1 := by rw [hs1]; exact nI_lt hks (by omega)
    have h6 : (k + 1) * nx ≤ 6 * nx := Nat.mul_le_mul_right nx (by omega)
    rw [Nat.succ_mul] at h6
    have em : nI k * nI nx = nI (k * nx) := pk_mul k nx
    have c2 : (nI k * nI nx).toNatClampNeg = k * nx := by rw [em]; exact nI_clamp (by omega)
    have c3 : (nI nx).toNatClampNeg = nx := nI_clamp (by omega)
    have c4 : ¬ nI k * nI nx < 0 := by rw [em]; exact nI_pos (by omega)
    have c5 : ¬ nI nx < 0 := nI_pos (by omega)
    have cp : ∀ (f : Nat → Int32) i, i < nx → va_cpy x.2.2.2.2.2.2.2.2 f (k * nx) 0 nx i = x.2.2.2.2.2.2.2.2 (k * nx + i) := by
      intro f i hi
      rw [pk_cpy_in (by omega) (by omega), Nat.sub_zero]
    cases hd : m.1.2.2.2.2.1 with
    | false =>
      have hxd : x.1.2.1 = false := hd2.trans hd
      have eX : xBack nx (nI k) x = (true, (x.1, x.2.1, x.2.2.1, x.2.2.2.1, va_cpy x.2.2.2.2.2.2.2.2 x.2.2.2.2.1 (k * nx) 0 nx, x.2.2.2.2.2.1, x.2.2.2.2.2.2.1, x.2.2.2.2.2.2.2.1, x.2.2.2.2.2.2.2.2)) := by
        unfold xBack
        rw [hxd, if_neg (by decide), f_X_back_0_s]
        refine (if_neg q0).trans ((if_pos q1).trans ?_)
        rw [c2, c3]
        rfl
      have kX : kBack nx (nI k) x := by
        unfold kBack
        rw [hxd, if_neg (by decide)]
        refine br_f q0 (br_t q1 ⟨br_t (by rw [hxd]; rfl) trivial, c4, by decide, c5, ?_, ?_, trivial⟩)
        · rw [c2, c3]; exact h6
        · rw [c3]; exact Nat.le_of_eq (Nat.zero_add nx)
      have hsd : sdP (Km m 0).1.2.2.2.2.1 = 0 := by show sdP m.1.2.2.2.2.1 = 0; rw [hd]; rfl
      rw [hsd] at A3 A4
      have hC' : CX nx (va_cpy x.2.2.2.2.2.2.2.2 x.2.2.2.2.1 (k * nx) 0 nx) x.2.2.2.2.2.1 x.2.2.2.2.2.2.1 x.2.2.2.2.2.2.2.1 mc := by
        refine ⟨fun i hi => ?_, fun j hj => ?_, fun i hi => ?_, fun j hj => ?_⟩
        · have := A3 i (by omega) hi
          rw [Nat.zero_add] at this
          rw [cp _ i hi, this]
          exact hk.2 k i hks hi
        · rw [A4 (131072 + j) (by omega)]; exact hC.2.1 j hj
        · rw [A4 (65536 + i) (by omega)]; exact hC.2.2.1 i hi
        · rw [A4 (135168 + j) (by omega)]; exact hC.2.2.2 j hj
      refine ⟨kX, kM, by rw [eM, eX], by rw [eM], ?_⟩
      rw [eM, eX]
      refine ⟨g, ls, z, s, by omega, hR, hC', hs1, hs2, hk, hd2, ?_⟩
      rcases hw with ⟨a, b⟩ | ⟨a, b, c⟩
      · exact Or.inl ⟨a, WR.mono b (by omega)⟩
      · exact Or.inr ⟨a, DR.mono b (by omega), by omega⟩
    | true =>
      have hxd : x.1.2.1 = true := hd2.trans hd
      have eX : xBack nx (nI k) x = (true, (x.1, x.2.1, x.2.2.1, x.2.2.2.1, x.2.2.2.2.1, x.2.2.2.2.2.1, va_cpy x.2.2.2.2.2.2.2.2 x.2.2.2.2.2.2.1 (k * nx) 0 nx, x.2.2.2.2.2.2.2.1, x.2.2.2.2.2.2.2.2)) := by
        unfold xBack
        rw [hxd, if_pos rfl, f_X_back_1_s]
        refine (if_neg q0).trans ((if_pos q1).trans ?_)
        rw [c2, c3]
        rfl
      have kX : kBack nx (nI k) x := by
        unfold kBack
        rw [hxd, if_pos rfl]
        refine br_f q0 (br_t q1 ⟨br_f (by rw [hxd]; decide) trivial, c4, by decide, c5, ?_, ?_, trivial⟩)
        · rw [c2, c3]; exact h6
        · rw [c3]; exact Nat.le_of_eq (Nat.zero_add nx)
      have hsd : sdP (Km m 0).1.2.2.2.2.1 = 65536 := by show sdP m.1.2.2.2.2.1 = 65536; rw [hd]; rfl
      rw [hsd] at A3 A4
      have hC' : CX nx x.2.2.2.2.1 x.2.2.2.2.2.1 (va_cpy x.2.2.2.2.2.2.2.2 x.2.2.2.2.2.2.1 (k * nx) 0 nx) x.2.2.2.2.2.2.2.1 mc := by
        refine ⟨fun i hi => ?_, fun j hj => ?_, fun i hi => ?_, fun j hj => ?_⟩
        · rw [A4 i (by omega)]; exact hC.1 i hi
        · rw [A4 (131072 + j) (by omega)]; exact hC.2.1 j hj
        · rw [cp _ i hi, A3 i (by omega) hi]
          exact hk.2 k i hks hi
        · rw [A4 (135168 + j) (by omega)]; exact hC.2.2.2 j hj
      refine ⟨kX, kM, by rw [eM, eX], by rw [eM], ?_⟩
      rw [eM, eX]
      refine ⟨g, ls, z, s, by omega, hR, hC', hs1, hs2, hk, hd2, ?_⟩
      rcases hw with ⟨a, b⟩ | ⟨a, b, c⟩
      · exact Or.inl ⟨a, WR.mono b (by omega)⟩
      · exact Or.inr ⟨a, DR.mono b (by omega), by omega⟩
end
