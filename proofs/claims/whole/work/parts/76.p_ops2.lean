/-! pure part 17: the calls, on -/
section
variable {nx n : Nat} {x : XS} {m : MS}
theorem set_no {p : Int32} {s : XoS} (h : p < 0 ∨ nI 8 ≤ p) : k_X_needSet_T0 nx p s := by
  by_cases h0 : p < 0
  · exact br_t h0 trivial
  · refine br_f h0 (br_f ?_ trivial)
    rcases h with h | h
    · exact absurd h h0
    · rw [Int32.lt_iff_toInt_lt]
      have := Int32.le_iff_toInt_le.mp h
      rw [show (nI 8).toInt = (8 : Int32).toInt from rfl] at this
      omega
theorem set_yes {q : Nat} {s : XoS} (hq : q < 8) : k_X_needSet nx (nI q) s := br_f (nI_pos (by omega)) (br_t (nI_lt (b := 8) hq (by decide)) trivial)
theorem whole_op (hn : nx ≤ 65536) (hc : n < 512) (h : XN nx n x m) (p0 p1 : Int32) :
    Ret nx n (f_X_whole nx p0 p1 x) (k_X_whole nx p0 p1 x) (f_M_whole nx p0 p1 m) (k_M_whole nx p0 p1 m) ∨ Thr nx n x (k_X_whole_T0 nx p0 p1 x) 1 (f_M_whole nx p0 p1 m) (k_M_whole nx p0 p1 m) ∨ Thr nx n x (k_X_whole_T1 nx p0 p1 x) 2 (f_M_whole nx p0 p1 m) (k_M_whole nx p0 p1 m) := by
  have no : p0 < 0 ∨ nI 8 ≤ p0 → Thr nx n x (k_X_whole_T0 nx p0 p1 x) 1 (f_M_whole nx p0 p1 m) (k_M_whole nx p0 p1 m) := by
    intro hno
    have hin : f_M_in p0 0 7 = false := m_no (n := 8) (by decide) (by decide) hno
    have e : f_M_whole nx p0 p1 m = (0, Km m 1) := by
      rw [f_M_whole_s, hin]; exact if_pos bI_f0
    refine ⟨⟨set_no hno, trivial⟩, fun b1 h1 => ?_, by rw [e], by rw [e]; exact h.up 1⟩
    rw [hin] at h1; subst h1
    exact br_t bI_f0 trivial
  rcases pk_ix p0 (n := 8) (by decide) with h0 | h0 | ⟨q, hq, rfl⟩
  · exact Or.inr (Or.inl (no (Or.inl h0)))
  · exact Or.inr (Or.inl (no (Or.inr h0)))
  · have hin := m_in7 hq
    cases hd : m.1.2.2.2.2.1 with
    | true =>
      have hmd : ¬ bI m.1.2.2.2.2.1 = 0 := by rw [hd]; decide
      have e : f_M_whole nx (nI q) p1 m = (0, Km m 2) := by
        rw [f_M_whole_s, hin]; exact (if_neg bI_t0).trans (if_neg hmd)
      refine Or.inr (Or.inr ⟨⟨set_yes hq, x_encT h hd, trivial⟩, fun b1 h1 => ?_, by rw [e], by rw [e]; exact h.up 2⟩)
      rw [hin] at h1; subst h1
      exact br_f bI_t0 (br_f hmd trivial)
    | false =>
      obtain ⟨r, x', m', A1, A2, A3, A4, A5, A6⟩ := whole_both p1 hn hq (by omega) h hd
      refine Or.inl ⟨A2, A4, by rw [A1, A3], by rw [A3]; exact A5, ?_⟩
      rw [A1, A3]
      exact A6.mono (by omega) (by omega) (by omega)
theorem readWhole_op (hn : nx ≤ 65536) (hc : n < 512) (h : XN nx n x m) (p0 : Int32) :
    Ret nx n (f_X_readWhole nx p0 x) (k_X_readWhole nx p0 x) (f_M_readWhole nx p0 m) (k_M_readWhole nx p0 m) ∨ Thr nx n x (k_X_readWhole_T0 nx p0 x) 1 (f_M_readWhole nx p0 m) (k_M_readWhole nx p0 m) ∨ Thr nx n x (k_X_readWhole_T1 nx p0 x) 2 (f_M_readWhole nx p0 m) (k_M_readWhole nx p0 m) := by
  have no : p0 < 0 ∨ nI 8 ≤ p0 → Thr nx n x (k_X_readWhole_T0 nx p0 x) 1 (f_M_readWhole nx p0 m) (k_M_readWhole nx p0 m) := by
    intro hno
    have hin : f_M_in p0 0 7 = false := m_no (n := 8) (by decide) (by decide) hno
    have e : f_M_readWhole nx p0 m = (0, Km m 1) := by
      rw [f_M_readWhole_s, hin]; exact if_pos bI_f0
    refine ⟨⟨set_no hno, trivial⟩, fun b1 h1 => ?_, by rw [e], by rw [e]; exact h.up 1⟩
    rw [hin] at h1; subst h1
    exact br_t bI_f0 trivial
  rcases pk_ix p0 (n := 8) (by decide) with h0 | h0 | ⟨q, hq, rfl⟩
  · exact Or.inr (Or.inl (no (Or.inl h0)))
  · exact Or.inr (Or.inl (no (Or.inr h0)))
  · have hin := m_in7 hq
    cases hd : m.1.2.2.2.2.1 with
    | false =>
      have hmd : bI m.1.2.2.2.2.1 = 0 := by rw [hd]; rfl
      have e : f_M_readWhole nx (nI q) m = (0, Km m 2) := by
        rw [f_M_readWhole_s, hin]; exact (if_neg bI_t0).trans (if_pos hmd)
      refine Or.inr (Or.inr ⟨⟨set_yes hq, x_decT h hd, trivial⟩, fun b1 h1 => ?_, by rw [e], by rw [e]; exact h.up 2⟩)
      rw [hin] at h1; subst h1
      exact br_f bI_t0 (br_t hmd trivial)
    | true =>
      obtain ⟨r, x', m', A1, A2, A3, A4, A5, A6⟩ := readWhole_both hn hq (by omega) (by omega) h hd
      refine Or.inl ⟨A2, A4, by rw [A1, A3], by rw [A3]; exact A5, ?_⟩
      rw [A1, A3]
      exact A6.mono (by omega) (by omega) (by omega)
theorem finish_op (hc : n < 512) (h : XN nx n x m) :
    Ret nx n (f_X_finish nx x) (k_X_finish nx x) (f_M_finish nx m) (k_M_finish nx m) ∨ Thr nx n x (k_X_finish_T1 nx x) 1 (f_M_finish nx m) (k_M_finish nx m) := by
  cases hd : m.1.2.2.2.2.1 with
  | true =>
    have hmd : ¬ bI m.1.2.2.2.2.1 = 0 := by rw [hd]; decide
    have e : f_M_finish nx m = (0, Km m 1) := by rw [f_M_finish_s]; exact if_neg hmd
    exact Or.inr ⟨⟨x_encT h hd, trivial⟩, br_f hmd trivial, by rw [e], by rw [e]; exact h.up 1⟩
  | false =>
    have hmd : bI m.1.2.2.2.2.1 = 0 := by rw [hd]; rfl
    have henc := x_enc h hd
    obtain ⟨g, ls, z, s, hN, hR, hC, hs1, hs2, hk, hd2, hw⟩ := h
    have hW : WR (570 * n) g ls z x.2.1 m := by
      rcases hw with ⟨-, hw⟩ | ⟨hw, -⟩
      · exact hw
      · rw [hd] at hw; exact absurd hw (by decide)
    obtain ⟨z', e', r', a, c, t, p, q, st, bt, F1, F2, F3, F4, F5, F6⟩ := end_both (nx := nx) (m := Km m 0) (by omega) hR hW
    have F5' := F5
    obtain ⟨bx, sx, px, rfl, R1, R2, hB, hS, hs, hp, hl, hg0, hg1, hz0⟩ := F5
    have kg : nI g ≤ 513 := nI_le (b := 513) hg1 (by decide)
    have hpl : f_Ro_isPlain 0 (nI z', nI g, nI ls, bx, sx, px) = false := by
      exact (plain_in (A := 0) hg0 hg1).trans (if_pos hz0.2.1)
    have eX : f_X_finish nx x = (nI z', ((x.1.1, true, x.1.2.2), e', (0, false, false, x.2.2.1.2.2.2.1, x.2.2.1.2.2.2.2.1, -1, x.2.2.1.2.2.2.2.2.2.1, x.2.2.1.2.2.2.2.2.2.2.1, x.2.2.1.2.2.2.2.2.2.2.2.1, 0), (nI z', nI g, nI ls, bx, sx, px), x.2.2.2.2.1, x.2.2.2.2.2.1, x.2.2.2.2.2.2.1, x.2.2.2.2.2.2.2.1, x.2.2.2.2.2.2.2.2)) := by
      rw [f_X_finish_s]
      dsimp only
      rw [F1, f_De_open_s]
      dsimp only
      rw [hpl]
      rfl
    have kX : k_X_finish nx x := by
      refine ⟨henc, F2, fun u4 h4 => ?_⟩
      rw [F1] at h4
      subst h4
      exact ⟨⟨kg, fun _ _ => trivial⟩, fun _ _ _ _ => trivial⟩
    have kM : k_M_finish nx m := br_t hmd ⟨F4, fun _ _ => ⟨trivial, fun _ _ => trivial⟩⟩
    have hraw0 : m.2.2.2.2.1 0 = 0 := ((hp 0 hg0).1.symm).trans hz0.2.1
    have eM : f_M_finish nx m = (nI z', f_M_beginReading nx 0 ((0, m.1.2.1, nI g, nI z', true, a, c, t, p, q, m.1.2.2.2.2.2.2.2.2.2.2.1, m.1.2.2.2.2.2.2.2.2.2.2.2.1, m.1.2.2.2.2.2.2.2.2.2.2.2.2.1, m.1.2.2.2.2.2.2.2.2.2.2.2.2.2.1, m.1.2.2.2.2.2.2.2.2.2.2.2.2.2.2.1, m.1.2.2.2.2.2.2.2.2.2.2.2.2.2.2.2.1, m.1.2.2.2.2.2.2.2.2.2.2.2.2.2.2.2.2.1, false, m.1.2.2.2.2.2.2.2.2.2.2.2.2.2.2.2.2.2.2.1, m.1.2.2.2.2.2.2.2.2.2.2.2.2.2.2.2.2.2.2.2), m.2.1, m.2.2.1, st, m.2.2.2.2.1, bt)) := by
      rw [f_M_finish_s]
      refine (if_pos hmd).trans ?_
      dsimp only at F3 ⊢
      rw [F3]
      rfl
    refine Or.inl ⟨kX, kM, by rw [eM, eX], by rw [eM]; rfl, ?_⟩
    rw [eM, eX]
    refine ⟨g, ls, z', s, by omega, ⟨bx, sx, px, rfl, rfl, rfl, hB, hS, hs, hp, hl, hg0, hg1, hz0⟩, hC, hs1, hs2, hk, rfl, Or.inr ⟨rfl, ?_, by omega⟩⟩
    exact ⟨0, hg0, rfl, rfl, hraw0, rfl, Or.inl ⟨rfl, rfl, rfl, rfl, rfl⟩⟩
theorem byteAt_op (hc : n < 512) (h : XN nx n x m) (p0 : Int32) :
    Ret nx n (f_X_byteAt nx p0 x, x) (k_X_byteAt nx p0 x) (f_M_byteAt nx p0 m) (k_M_byteAt nx p0 m) ∨ Thr nx n x (k_X_byteAt_T0 nx p0 x) 1 (f_M_byteAt nx p0 m) (k_M_byteAt nx p0 m) := by
  have hup := h.up
  obtain ⟨g, ls, z, s, hN, hR, hC, hs1, hs2, hk, hd2, hw⟩ := h
  have hz : z ≤ 42000 := by
    rcases hw with ⟨-, ⟨_, a, c, t, _, _, _, _, _, _, _, hCI, _, hp⟩ | ⟨_, pt, k, R, _, _, _, _, _, _, _, hp⟩⟩ | ⟨-, -, hp⟩
    · have := hCI.2.2.1; omega
    · omega
    · omega
  obtain ⟨bx, sx, px, hr, R1, R2, hB, hS, hs, hp, hl, hg0, hg1, hz0⟩ := hR
  have hlen : f_Ro_length x.2.2.2.1 = nI z := by rw [hr]; rfl
  have no : p0 < 0 ∨ nI z ≤ p0 → Thr nx n x (k_X_byteAt_T0 nx p0 x) 1 (f_M_byteAt nx p0 m) (k_M_byteAt nx p0 m) := by
    intro hno
    have hin : f_M_in p0 0 (m.1.2.2.2.1 - 1) = false := by
      rw [R2]
      by_cases hz0 : 0 < z
      · exact m_no hz0 (by omega) hno
      · have hzz : z = 0 := by omega
        subst hzz
        rw [m_in]
        refine decide_eq_false (fun q => q.2 ?_)
        have h1 := q.1
        rw [Int32.lt_iff_toInt_lt, Int32.toInt_zero] at h1
        rw [Int32.lt_iff_toInt_lt, show (nI 0 - 1).toInt = -1 from by decide]
        omega
    have e : f_M_byteAt nx p0 m = (0, Km m 1) := by
      rw [f_M_byteAt_s]
      dsimp only
      rw [hin]; exact if_pos bI_f0
    refine ⟨?_, fun b1 h1 => ?_, by rw [e], by rw [e]; exact hup 1⟩
    · by_cases h0 : p0 < 0
      · exact br_t h0 trivial
      · refine br_f h0 (fun r2 h2 => br_f ?_ trivial)
        rw [h2, hlen]
        rcases hno with q | q
        · exact absurd q h0
        · rw [Int32.lt_iff_toInt_lt]
          have := Int32.le_iff_toInt_le.mp q
          omega
    · rw [hin] at h1; subst h1
      exact br_t bI_f0 trivial
  rcases pk_ix p0 (n := z) (by omega) with h0 | h0 | ⟨j, hj, rfl⟩
  · exact Or.inr (no (Or.inl h0))
  · exact Or.inr (no (Or.inr h0))
  · have hin : f_M_in (nI j) 0 (m.1.2.2.2.1 - 1) = true := by rw [R2]; exact m_yes (by omega) hj
    obtain ⟨b1, y, hy, b2⟩ := hB j hj
    have e : f_M_byteAt nx (nI j) m = (nI y, Km m 0) := by
      rw [f_M_byteAt_s]
      dsimp only
      rw [hin]
      refine (if_neg bI_t0).trans ?_
      rw [nI_clamp (by omega), b2]
    have n0 : ¬ nI j < 0 := nI_pos (by omega)
    have nl : nI j < nI z := nI_lt hj (by omega)
    have eX : f_X_byteAt nx (nI j) x = nI y := by
      rw [f_X_byteAt_s]
      refine (if_neg n0).trans ?_
      dsimp only
      rw [hlen, if_pos nl, hr, f_Ro_byteBefore_s]
      refine (if_neg n0).trans ((if_neg (nI_ge hj (by omega))).trans ((if_neg (nI_ge (b := 42000) (by omega) (by decide))).trans ?_))
      dsimp only
      rw [nI_clamp (by omega), b1, b2]
    refine Or.inl ⟨br_f n0 (fun r2 h2 => br_t (by rw [h2, hlen]; exact nl) (fun _ _ => trivial)), fun b1 h1 => ?_, by rw [e, eX], by rw [e], by rw [e]; exact hup 0⟩
    rw [hin] at h1; subst h1
    exact br_f bI_t0 ⟨vp_in_nI (by omega) (by decide), trivial⟩
theorem state_op (hn0 : 0 < nx) (hn : nx ≤ 65536) (hc : n < 512) (h : XN nx n x m) (p0 p1 : Int32) :
    Ret nx n (f_X_state nx p0 p1 x, x) (k_X_state nx p0 p1 x) (f_M_state nx p0 p1 m) (k_M_state nx p0 p1 m) ∨ Thr nx n x (k_X_state_T0 nx p0 p1 x) 1 (f_M_state nx p0 p1 m) (k_M_state nx p0 p1 m) := by
  have hup := h.up
  obtain ⟨g, ls, z, s, hN, hR, hC, hs1, hs2, hk, hd2, hw⟩ := h
  by_cases hb : p0 = 0 ∨ p0 = 1
  · have hin2 : f_M_in p0 0 1 = true := by
      rcases hb with rfl | rfl
      · exact m_yes (n := 2) (j := 0) (by decide) (by decide)
      · exact m_yes (n := 2) (j := 1) (by decide) (by decide)
    have no : p1 < 0 ∨ nI nx ≤ p1 → Thr nx n x (k_X_state_T0 nx p0 p1 x) 1 (f_M_state nx p0 p1 m) (k_M_state nx p0 p1 m) := by
      intro hno
      have hin := m_no hn0 hn hno
      have e : f_M_state nx p0 p1 m = (0, Km m 1) := by
        rw [f_M_state_s, hin2]
        refine (if_neg bI_t0).trans ?_
        rw [hin]; exact if_pos bI_f0
      refine ⟨br_c (fun _ => ⟨nc_no hno, trivial⟩) (fun _ => br_c (fun _ => ⟨nc_no hno, trivial⟩) (fun _ => trivial)), fun b1 h1 => ?_, by rw [e], by rw [e]; exact hup 1⟩
      rw [hin2] at h1; subst h1
      refine br_f bI_t0 (fun b3 h3 => ?_)
      rw [hin] at h3; subst h3
      exact br_t bI_f0 trivial
    rcases pk_ix p1 (n := nx) (by omega) with h0 | h0 | ⟨j, hj, rfl⟩
    · exact Or.inr (no (Or.inl h0))
    · exact Or.inr (no (Or.inr h0))
    · have hin := m_yes hn hj
      have n0 : ¬ nI j < 0 := nI_pos (by omega)
      have nl : ¬ nI nx ≤ nI j := nI_ge hj (by omega)
      have eA : ∀ f : Nat → Int32, f_X_atA nx (nI j) f = f j := by
        intro f
        rw [f_X_atA_s]
        refine (if_neg n0).trans ((if_neg nl).trans ?_)
        rw [nI_clamp (by omega)]
      have kA : ∀ f : Nat → Int32, k_X_atA nx (nI j) f := fun f => ⟨by omega, br_f n0 (br_f nl trivial)⟩
      have eM : ∀ P : Nat, 65536 * p0 + nI j = nI P → P < 139264 → f_M_state nx p0 (nI j) m = (m.2.1 P, Km m 0) ∧ k_M_state nx p0 (nI j) m := by
        intro P hP hP2
        constructor
        · rw [f_M_state_s, hin2]
          refine (if_neg bI_t0).trans ?_
          rw [hin]
          refine (if_neg bI_t0).trans ?_
          rw [hP, nI_clamp (by omega)]
        · intro b1 h1
          rw [hin2] at h1; subst h1
          refine br_f bI_t0 (fun b3 h3 => ?_)
          rw [hin] at h3; subst h3
          refine br_f bI_t0 ⟨?_, trivial⟩
          rw [hP]
          exact vp_in_nI hP2 (by decide)
      have kX : k_X_state nx p0 (nI j) x := by
        refine br_c (fun _ => ⟨nc_yes hn hj, kA _, fun _ _ => trivial⟩) (fun h0 => br_c (fun _ => ⟨nc_yes hn hj, kA _, fun _ _ => trivial⟩) (fun h1 => ?_))
        rcases hb with q | q
        · exact h0 q
        · exact h1 q
      by_cases h0 : p0 = 0
      · obtain ⟨e1, e2⟩ := eM j (by rw [h0, Int32.mul_zero, Int32.zero_add]) (by omega)
        refine Or.inl ⟨kX, e2, ?_, by rw [e1], by rw [e1]; exact hup 0⟩
        rw [e1, f_X_state_s]
        dsimp only
        rw [if_pos h0, eA]
        exact (hC.1 j hj).1.symm
      · have h1 : p0 = 1 := by
          rcases hb with q | q
          · exact absurd q h0
          · exact q
        obtain ⟨e1, e2⟩ := eM (65536 + j) (by rw [h1]; exact nI_add 65536 j) (by omega)
        refine Or.inl ⟨kX, e2, ?_, by rw [e1], by rw [e1]; exact hup 0⟩
        rw [e1, f_X_state_s]
        dsimp only
        rw [if_neg h0, if_pos h1, eA]
        exact (hC.2.2.1 j hj).1.symm
  · have hb0 : ¬ p0 = 0 := fun q => hb (Or.inl q)
    have hb1 : ¬ p0 = 1 := fun q => hb (Or.inr q)
    have hin2 : f_M_in p0 0 1 = false := by
      rcases pk_ix p0 (n := 2) (by decide) with q | q | ⟨k, hk, rfl⟩
      · exact m_no (n := 2) (by decide) (by decide) (Or.inl q)
      · exact m_no (n := 2) (by decide) (by decide) (Or.inr q)
      · exfalso
        by_cases q : k = 0
        · subst q; exact hb0 rfl
        · have : k = 1 := by omega
          subst this; exact hb1 rfl
    have e : f_M_state nx p0 p1 m = (0, Km m 1) := by
      rw [f_M_state_s, hin2]; exact if_pos bI_f0
    refine Or.inr ⟨br_f hb0 (br_f hb1 trivial), fun b1 h1 => ?_, by rw [e], by rw [e]; exact hup 1⟩
    rw [hin2] at h1; subst h1
    exact br_t bI_f0 trivial
end
