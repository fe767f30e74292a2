/-! pure part 18: feed, beyond, raw -/
section
variable {nx n : Nat} {x : XS} {m : MS}
theorem feed_op (hc : n < 512) (h : XN nx n x m) (p0 : Int32) :
    Ret nx n (f_X_feed nx p0 x) (k_X_feed nx p0 x) (f_M_feed nx p0 m) (k_M_feed nx p0 m) ∨ Thr nx n x (k_X_feed_T1 nx p0 x) 1 (f_M_feed nx p0 m) (k_M_feed nx p0 m) ∨ Thr nx n x (k_X_feed_T2 nx p0 x) 2 (f_M_feed nx p0 m) (k_M_feed nx p0 m) := by
  have hup := h.up
  have hdx := h.dec
  cases hd : m.1.2.2.2.2.1 with
  | false =>
    have hmd : bI m.1.2.2.2.2.1 = 0 := by rw [hd]; rfl
    have hxd : bI x.1.2.1 = 0 := by rw [hdx]; exact hmd
    have e : f_M_feed nx p0 m = (false, Km m 1) := by rw [f_M_feed_s]; exact if_pos hmd
    exact Or.inr (Or.inl ⟨br_t hxd trivial, br_t hmd trivial, by rw [e], by rw [e]; exact hup 1⟩)
  | true =>
    have hmd : ¬ bI m.1.2.2.2.2.1 = 0 := by rw [hd]; decide
    have hxd : ¬ bI x.1.2.1 = 0 := by rw [hdx]; exact hmd
    obtain ⟨g, ls, z, s, hN, hR, hC, hs1, hs2, hk, hd2, hw⟩ := h
    have hD : DR (760 * n) g x.2.2.1 m ∧ 7 * z ≤ 570 * n + 12 := by
      rcases hw with ⟨hw, -⟩ | ⟨-, hw⟩
      · rw [hd] at hw; exact absurd hw (by decide)
      · exact hw
    obtain ⟨⟨A, hA, d1, mA, hpl, hmv, hst⟩, h7⟩ := hD
    have hg : g ≤ 513 := by obtain ⟨bx, sx, px, hr, R1, R2, hB, hS, hs, hp, hl, hg0, hg1, hz0⟩ := hR; exact hg1
    -- untouched, both
    by_cases hun : A = 0 ∧ x.2.2.1.2.2.1 = false
    · obtain ⟨rfl, hsd⟩ := hun
      have hunX : f_De_isUntouched x.2.2.1 = true := by
        rw [f_De_isUntouched_s]
        exact (if_pos (by rw [d1]; rfl)).trans (if_pos (by rw [hsd]; rfl))
      have hmv0 : bI m.1.2.2.2.2.2.2.2.2.2.2.2.2.2.2.2.2.2.1 = 0 := by rw [hmv]; rfl
      have hns : m.1.2.2.2.2.2.2.2.2.2.2.2.1 = 0 ∧ x.2.2.1.2.2.2.2.2.1 = -1 ∧ x.2.2.1.2.2.2.2.2.2.2.2.2 = 0 ∧ m.1.2.2.2.2.2.2.2.2.2.2.2.2.2.2.2.2.1 = 0 := by
        rcases hst with ⟨-, q⟩ | ⟨q, -⟩
        · exact q
        · rw [hsd] at q; exact absurd q (by decide)
      have htk : m.1.2.2.2.2.2.2.2.2.2.2.2.1 ≤ 0 := by rw [hns.1]; decide
      have no : p0 < 0 ∨ nI 256 ≤ p0 → Thr nx n x (k_X_feed_T2 nx p0 x) 2 (f_M_feed nx p0 m) (k_M_feed nx p0 m) := by
        intro hno
        have hin : f_M_in p0 0 255 = false := m_no (n := 256) (by decide) (by decide) hno
        have e : f_M_feed nx p0 m = (false, Km m 2) := by
          rw [f_M_feed_s]
          refine (if_neg hmd).trans ((if_pos hmv0).trans ((if_pos htk).trans ?_))
          rw [hin]; exact if_pos bI_f0
        refine ⟨br_f hxd (fun b2 h2 => ?_), br_f hmd (br_t hmv0 (br_t htk (fun b4 h4 => ?_))), by rw [e], by rw [e]; exact hup 2⟩
        · rw [hunX] at h2; subst h2
          refine br_f bI_t0 ?_
          by_cases q0 : p0 < 0
          · exact br_t q0 trivial
          · refine br_f q0 (br_f ?_ trivial)
            rcases hno with q | q
            · exact absurd q q0
            · rw [Int32.le_iff_toInt_le]
              have := Int32.le_iff_toInt_le.mp q
              rw [show (nI 256).toInt = 256 from by decide] at this
              rw [show (255 : Int32).toInt = 255 from by decide]
              omega
        · rw [hin] at h4; subst h4
          exact br_t bI_f0 trivial
      rcases pk_ix p0 (n := 256) (by decide) with h0 | h0 | ⟨b, hb, rfl⟩
      · exact Or.inr (Or.inr (no (Or.inl h0)))
      · exact Or.inr (Or.inr (no (Or.inr h0)))
      · have hin : f_M_in (nI b) 0 255 = true := m_yes (n := 256) (by decide) hb
        have n0 : ¬ nI b < 0 := nI_pos (by omega)
        have n1 : nI b ≤ 255 := nI_le (b := 255) (by omega) (by decide)
        obtain ⟨bx, sx, px, hr, R1, R2, hB, hS, hs, hp, hl, hg0, hg1, hz0⟩ := hR
        have hlen : f_Ro_length x.2.2.2.1 = nI z := by rw [hr]; rfl
        refine Or.inl ?_
        by_cases h4 : z < 4000
        · have e4 : nI z < 4000 := nI_lt (b := 4000) h4 (by decide)
          have m4 : m.1.2.2.2.1 < 4000 := by rw [R2]; exact e4
          have hP := m_put (nx := nx) (m := Km m 0) (g := g) (z := z) (b := b) (a := m.1.2.2.2.2.2.1) (c := m.1.2.2.2.2.2.2.1) (t := m.1.2.2.2.2.2.2.2.1) (p := m.1.2.2.2.2.2.2.2.2.1) (r := m.1.2.2.2.2.2.2.2.2.2.1) (st := m.2.2.2.1) (bt := m.2.2.2.2.2) (by omega) (by omega) (by omega)
          rw [← Wm_self (m := Km m 0) R1 R2 rfl rfl rfl rfl rfl, Nat.mod_eq_of_lt hb] at hP
          have hxa := ro_add (g := g) (ls := ls) (bx := bx) (sx := sx) (px := px) (show z < 42000 by omega) (show b < 2 ^ 32 by omega)
          rw [Nat.mod_eq_of_lt hb] at hxa
          have eM : f_M_feed nx (nI b) m = (true, Wm (Km m 0) (nI g) (nI (z + 1)) m.1.2.2.2.2.2.1 m.1.2.2.2.2.2.2.1 m.1.2.2.2.2.2.2.2.1 m.1.2.2.2.2.2.2.2.2.1 m.1.2.2.2.2.2.2.2.2.2.1 (upd m.2.2.2.1 g (nI (z + 1))) (upd m.2.2.2.2.2 z (nI b))) := by
            rw [f_M_feed_s]
            refine (if_neg hmd).trans ((if_pos hmv0).trans ((if_pos htk).trans ?_))
            rw [hin]
            refine (if_neg bI_t0).trans ((if_pos m4).trans ?_)
            exact congrArg (fun q => (true, q)) hP.2
          have eX : f_X_feed nx (nI b) x = (true, (x.1, x.2.1, x.2.2.1, (nI (z + 1), nI g, nI ls, upd bx z (nI b), sx, px), x.2.2.2.2.1, x.2.2.2.2.2.1, x.2.2.2.2.2.2.1, x.2.2.2.2.2.2.2.1, x.2.2.2.2.2.2.2.2)) := by
            rw [f_X_feed_s]
            refine (if_neg hxd).trans ?_
            dsimp only
            rw [hunX]
            refine (if_neg bI_t0).trans ((if_neg n0).trans ((if_pos n1).trans ?_))
            rw [hlen, if_pos e4, hr, hxa]
          refine ⟨?_, ?_, by rw [eM, eX], by rw [eM], ?_⟩
          · refine br_f hxd (fun b2 h2 => ?_)
            rw [hunX] at h2; subst h2
            exact br_f bI_t0 (br_f n0 (br_t n1 (fun _ _ => br_c (fun _ _ _ => trivial) (fun _ => trivial))))
          · refine br_f hmd (br_t hmv0 (br_t htk (fun b4 hb4 => ?_)))
            rw [hin] at hb4; subst hb4
            exact br_f bI_t0 (br_t m4 ⟨hP.1, fun _ _ => trivial⟩)
          · rw [eM, eX]
            exact ⟨g, ls, z + 1, s, by omega, ⟨upd bx z (nI b), sx, px, rfl, rfl, rfl, hB.add hb, hS.up, hs, hp, by omega, hg0, hg1, hz0⟩, hC, hs1, hs2, hk, hd2, Or.inr ⟨hd, ⟨0, hA, d1, mA, hpl, hmv, Or.inl ⟨hsd, hns⟩⟩, by omega⟩⟩
        · have e4 : ¬ nI z < 4000 := nI_nlt (b := 4000) (by omega) (by omega)
          have m4 : ¬ m.1.2.2.2.1 < 4000 := by rw [R2]; exact e4
          have eM : f_M_feed nx (nI b) m = (false, Km m 0) := by
            rw [f_M_feed_s]
            refine (if_neg hmd).trans ((if_pos hmv0).trans ((if_pos htk).trans ?_))
            rw [hin]
            exact (if_neg bI_t0).trans (if_neg m4)
          have eX : f_X_feed nx (nI b) x = (false, x) := by
            rw [f_X_feed_s]
            refine (if_neg hxd).trans ?_
            dsimp only
            rw [hunX]
            refine (if_neg bI_t0).trans ((if_neg n0).trans ((if_pos n1).trans ?_))
            rw [hlen, if_neg e4]
          refine ⟨?_, ?_, by rw [eM, eX], by rw [eM], by rw [eM, eX]; exact hup 0⟩
          · refine br_f hxd (fun b2 h2 => ?_)
            rw [hunX] at h2; subst h2
            exact br_f bI_t0 (br_f n0 (br_t n1 (fun _ _ => br_c (fun _ _ _ => trivial) (fun _ => trivial))))
          · refine br_f hmd (br_t hmv0 (br_t htk (fun b4 hb4 => ?_)))
            rw [hin] at hb4; subst hb4
            exact br_f bI_t0 (br_f m4 trivial)
    · have hunX : f_De_isUntouched x.2.2.1 = false := by
        rw [f_De_isUntouched_s]
        by_cases q : A = 0
        · have q2 : ¬ x.2.2.1.2.2.1 = false := fun z => hun ⟨q, z⟩
          have q3 : x.2.2.1.2.2.1 = true := by
            cases hq : x.2.2.1.2.2.1 with
            | true => rfl
            | false => exact absurd hq q2
          refine (if_pos (by rw [d1, q]; rfl)).trans (if_neg ?_)
          rw [q3]; decide
        · exact if_neg (by rw [d1]; exact nI_ne0 (by omega) (by omega))
      have e : f_M_feed nx p0 m = (false, Km m 1) ∧ k_M_feed nx p0 m := by
        rw [f_M_feed_s]
        by_cases q : A = 0
        · have q2 : ¬ x.2.2.1.2.2.1 = false := fun z => hun ⟨q, z⟩
          have hmv0 : bI m.1.2.2.2.2.2.2.2.2.2.2.2.2.2.2.2.2.2.1 = 0 := by rw [hmv, q]; rfl
          have htk : ¬ m.1.2.2.2.2.2.2.2.2.2.2.2.1 ≤ 0 := by
            rcases hst with ⟨q3, -⟩ | ⟨-, S, E, tk, la, -, -, -, -, s5, s6, s7, -⟩
            · exact absurd q3 q2
            · rw [s5]; exact nI_nle s6 (by omega)
          exact ⟨(if_neg hmd).trans ((if_pos hmv0).trans (if_neg htk)), br_f hmd (br_t hmv0 (br_f htk trivial))⟩
        · have hmv0 : ¬ bI m.1.2.2.2.2.2.2.2.2.2.2.2.2.2.2.2.2.2.1 = 0 := by rw [hmv, decide_eq_true q]; decide
          exact ⟨(if_neg hmd).trans (if_neg hmv0), br_f hmd (br_f hmv0 trivial)⟩
      refine Or.inr (Or.inl ⟨br_f hxd (fun b2 h2 => ?_), e.2, by rw [e.1], by rw [e.1]; exact hup 1⟩)
      rw [hunX] at h2; subst h2
      exact br_t bI_f0 trivial
theorem beyond_op (hc : n < 512) (h : XN nx n x m) : Ret nx n (f_X_beyond nx x, x) (k_X_beyond nx x) (f_M_beyond nx m) (k_M_beyond nx m) := by
  have hup := h.up
  have hdx := h.dec
  have kX : k_X_beyond nx x := br_c (fun _ => trivial) (fun _ _ _ => trivial)
  cases hd : m.1.2.2.2.2.1 with
  | false =>
    have hmd : bI m.1.2.2.2.2.1 = 0 := by rw [hd]; rfl
    have hxd : bI x.1.2.1 = 0 := by rw [hdx]; exact hmd
    have e : f_M_beyond nx m = (0, Km m 0) := by rw [f_M_beyond_s]; exact if_pos hmd
    have eX : f_X_beyond nx x = 0 := by rw [f_X_beyond_s]; exact if_pos hxd
    exact ⟨kX, br_t hmd trivial, by rw [e, eX], by rw [e], by rw [e]; exact hup 0⟩
  | true =>
    have hmd : ¬ bI m.1.2.2.2.2.1 = 0 := by rw [hd]; decide
    have hxd : ¬ bI x.1.2.1 = 0 := by rw [hdx]; exact hmd
    obtain ⟨g, ls, z, s, hN, hR, hC, hs1, hs2, hk, hd2, hw⟩ := h
    have hD : DR (760 * n) g x.2.2.1 m ∧ 7 * z ≤ 570 * n + 12 := by
      rcases hw with ⟨hw, -⟩ | ⟨-, hw⟩
      · rw [hd] at hw; exact absurd hw (by decide)
      · exact hw
    obtain ⟨⟨A, hA, d1, mA, hpl, hmv, hst⟩, h7⟩ := hD
    obtain ⟨bx, sx, px, hr, R1, R2, hB, hS, hs, hp, hl, hg0, hg1, hz0⟩ := hR
    -- the segment's start and end
    obtain ⟨S, E, hSE, hE, m1, m2⟩ : ∃ S E, S ≤ E ∧ E < 2 ^ 30 ∧ m.2.2.2.1 A = nI S ∧ m.2.2.2.1 (A + 1) = nI E := by
      by_cases q : A + 1 < g
      · obtain ⟨a, b, q1, q2, q3, q4⟩ := hz0.2.2 A q
        exact ⟨a, b, q1, q2, (hS.1 A hA).1.symm.trans q3, (hS.1 (A + 1) q).1.symm.trans q4⟩
      · have e : A + 1 = g := by omega
        refine ⟨ls, z, hl, by omega, ?_, by rw [e]; exact hS.2⟩
        rw [show A = g - 1 by omega]
        exact (hS.1 (g - 1) (by omega)).1.symm.trans hs
    have c1 : m.1.2.2.2.2.2.2.2.2.2.2.1 + 1 = nI (A + 1) := by rw [mA, nI_1]
    have x4 : m.2.2.2.1 (m.1.2.2.2.2.2.2.2.2.2.2.1 + 1).toNatClampNeg - m.2.2.2.1 m.1.2.2.2.2.2.2.2.2.2.2.1.toNatClampNeg = nI (E - S) := by
      rw [c1, mA, nI_clamp (by omega), nI_clamp (by omega), m1, m2]
      exact pk_sub hSE
    have kM : k_M_beyond nx m := by
      refine br_f hmd ⟨?_, ?_, fun _ _ => br_c (fun _ => trivial) (fun _ => trivial)⟩
      · rw [c1]; exact vp_in_nI (by omega) (by decide)
      · rw [mA]; exact vp_in_nI (by omega) (by decide)
    rcases hst with ⟨q1, q2, -⟩ | ⟨q1, S', E', tk, la, s1, s2, s3, s4, s5, s6, s7, -⟩
    · have e : f_M_beyond nx m = (0, Km m 0) := by
        rw [f_M_beyond_s]
        refine (if_neg hmd).trans ?_
        rw [x4]
        refine if_pos ?_
        rw [q2]; exact nI_pos' (by omega)
      have eX : f_X_beyond nx x = 0 := by
        rw [f_X_beyond_s]
        refine (if_neg hxd).trans ?_
        rw [f_De_takenBeyond_s]
        exact if_pos (by rw [q1]; rfl)
      exact ⟨kX, kM, by rw [e, eX], by rw [e], by rw [e]; exact hup 0⟩
    · have hSS : nI S' = nI S := s1.symm.trans m1
      have hEE : nI E' = nI E := s2.symm.trans m2
      have hpp : nI (S' + tk) = nI (S + tk) := by rw [← nI_add, hSS, nI_add]
      rw [hEE] at s3
      rw [hpp] at s4
      have nst : ¬ bI x.2.2.1.2.2.1 = 0 := by rw [q1]; decide
      by_cases hle : S + tk ≤ E
      · have e : f_M_beyond nx m = (0, Km m 0) := by
          rw [f_M_beyond_s]
          refine (if_neg hmd).trans ?_
          rw [x4]
          refine if_pos ?_
          rw [s5]; exact nI_le (by omega) (by omega)
        have eX : f_X_beyond nx x = 0 := by
          rw [f_X_beyond_s]
          refine (if_neg hxd).trans ?_
          rw [f_De_takenBeyond_s]
          refine (if_neg nst).trans (if_neg ?_)
          rw [s3, s4, Int32.lt_iff_toInt_lt, pk_sub_toInt (by omega) (by omega), Int32.toInt_zero]
          omega
        exact ⟨kX, kM, by rw [e, eX], by rw [e], by rw [e]; exact hup 0⟩
      · have e : f_M_beyond nx m = (nI (S + tk - E), Km m 0) := by
          rw [f_M_beyond_s]
          refine (if_neg hmd).trans ?_
          rw [x4]
          refine (if_neg ?_).trans ?_
          · rw [s5]; exact nI_ge (by omega) (by omega)
          · have e9 : m.1.2.2.2.2.2.2.2.2.2.2.2.1 - nI (E - S) = nI (S + tk - E) := by
              rw [s5, pk_sub (by omega)]
              exact congrArg nI (by omega)
            rw [e9]
        have eX : f_X_beyond nx x = nI (S + tk - E) := by
          rw [f_X_beyond_s]
          refine (if_neg hxd).trans ?_
          rw [f_De_takenBeyond_s]
          refine (if_neg nst).trans ?_
          rw [s3, s4, pk_sub (by omega)]
          exact if_pos (nI_lt (a := 0) (by omega) (by omega))
        exact ⟨kX, kM, by rw [e, eX], by rw [e], by rw [e]; exact hup 0⟩
theorem raw_op (hc : n < 512) (h : XN nx n x m) (on : Bool) : Ret nx n (f_X_raw nx on x) (k_X_raw nx on x) (f_M_raw nx on m) (k_M_raw nx on m) := by
  have hup := h.up
  have hdx := h.dec
  cases hd : m.1.2.2.2.2.1 with
  | false =>
    have hmd : bI m.1.2.2.2.2.1 = 0 := by rw [hd]; rfl
    have hxd : bI x.1.2.1 = 0 := by rw [hdx]; exact hmd
    obtain ⟨g, ls, z, s, hN, hR, hC, hs1, hs2, hk, hd2, hw⟩ := h
    have hW : WR (570 * n) g ls z x.2.1 m := by
      rcases hw with ⟨-, hw⟩ | ⟨hw, -⟩
      · exact hw
      · rw [hd] at hw; exact absurd hw (by decide)
    have hpl := hW.plain
    have hR' := hR
    obtain ⟨bx, sx, px, hr, R1, R2, hB, hS, hs, hp, hl, hg0, hg1, hz0⟩ := hR
    obtain ⟨eg, vg⟩ := q_gm1 hg0 (show g < 1100 by omega)
    have hraw : m.2.2.2.2.1 (m.1.2.2.1 - 1).toNatClampNeg = bI x.2.1.1 := by rw [R1, eg, hpl]
    have vg' : vp_in (m.1.2.2.1 - 1) 1100 := by rw [R1]; exact vg
    by_cases hon : bI x.2.1.1 = bI on
    · have e : f_M_raw nx on m = (false, Km m 0) := by
        rw [f_M_raw_s]; exact (if_pos hmd).trans (if_pos (hraw.trans hon))
      have eT : f_En_turn on (x.2.1, x.2.2.2.1) = (false, (x.2.1, x.2.2.2.1)) := by rw [f_En_turn_s]; exact if_pos hon
      have eX : f_X_raw nx on x = (false, x) := by
        rw [f_X_raw_s]
        refine (if_pos hxd).trans ?_
        rw [eT]
      exact ⟨br_t hxd ⟨br_t hon trivial, fun _ _ _ _ => trivial⟩, br_t hmd ⟨vg', br_t (hraw.trans hon) trivial⟩, by rw [e, eX], by rw [e], by rw [e, eX]; exact hup 0⟩
    · have hnr : ¬ m.2.2.2.2.1 (m.1.2.2.1 - 1).toNatClampNeg = bI on := fun q => hon (hraw.symm.trans q)
      obtain ⟨z', e', r', a, c, t, p, q, st, bt, F1, F2, F3, F4, F5, F6⟩ := end_both (nx := nx) (m := Km m 0) (by omega) hR' hW
      obtain ⟨G1, G2, G3⟩ := begin_both (nx := nx) (e := e') on (show g < 513 by omega) F6 (by omega) F5
      have eM : f_M_raw nx on m = (true, f_M_beginSegment nx on (Wm (Km m 0) (nI g) (nI z') a c t p q st bt)) := by
        rw [f_M_raw_s]
        refine (if_pos hmd).trans ((if_neg hnr).trans ?_)
        exact congrArg (fun q => (true, f_M_beginSegment nx on q)) F3
      have eX : f_X_raw nx on x = (true, (x.1, f_En_begin on e', x.2.2.1, f_Ro_beginSegment on r', x.2.2.2.2.1, x.2.2.2.2.2.1, x.2.2.2.2.2.2.1, x.2.2.2.2.2.2.2.1, x.2.2.2.2.2.2.2.2)) := by
        rw [f_X_raw_s]
        refine (if_pos hxd).trans ?_
        have eT : f_En_turn on (x.2.1, x.2.2.2.1) = (true, (f_En_begin on e', f_Ro_beginSegment on r')) := by
          rw [f_En_turn_s]
          refine (if_neg hon).trans ?_
          rw [F1]
        rw [eT]
      refine ⟨br_t hxd ⟨br_f hon ⟨F2, fun _ _ _ _ _ _ => trivial⟩, fun _ _ _ _ => trivial⟩, br_t hmd ⟨vg', br_f hnr ⟨F4, fun u h => ?_⟩⟩, by rw [eM, eX], by rw [eM]; rfl, ?_⟩
      · have h := h.trans F3
        subst h
        exact ⟨G1, fun _ _ => trivial⟩
      · rw [eM, eX]
        exact ⟨g + 1, z', z', s, by omega, G2, hC, hs1, hs2, hk, hd2, Or.inl ⟨hd, G3.mono (by omega)⟩⟩
  | true =>
    have hmd : ¬ bI m.1.2.2.2.2.1 = 0 := by rw [hd]; decide
    have hxd : ¬ bI x.1.2.1 = 0 := by rw [hdx]; exact hmd
    obtain ⟨g, ls, z, s, hN, hR, hC, hs1, hs2, hk, hd2, hw⟩ := h
    have hD : DR (760 * n) g x.2.2.1 m ∧ 7 * z ≤ 570 * n + 12 := by
      rcases hw with ⟨hw, -⟩ | ⟨-, hw⟩
      · rw [hd] at hw; exact absurd hw (by decide)
      · exact hw
    obtain ⟨⟨A, hA, d1, mA, hpl, hmv, hst⟩, h7⟩ := hD
    have hR' := hR
    obtain ⟨bx, sx, px, hr, R1, R2, hB, hS, hs, hp, hl, hg0, hg1, hz0⟩ := hR
    have kg : x.2.2.2.1.2.1 ≤ 513 := by rw [hr]; exact nI_le (b := 513) hg1 (by decide)
    have c1 : m.1.2.2.2.2.2.2.2.2.2.2.1 + 1 = nI (A + 1) := by rw [mA, nI_1]
    have x1 : x.2.2.1.1 + 1 = nI (A + 1) := by rw [d1, nI_1]
    have hsc : f_Ro_segmentCount x.2.2.2.1 = nI g := by rw [hr]; rfl
    by_cases hend : A + 1 = g
    · have e : f_M_raw nx on m = (false, Km m 0) := by
        rw [f_M_raw_s]
        exact (if_neg hmd).trans (if_pos (by rw [c1, R1, hend]))
      have hge : nI g ≤ nI (A + 1) := nI_le (by omega) (by omega)
      have eT : f_De_goOn on (x.2.2.1, x.2.2.2.1) = (false, (x.2.2.1, x.2.2.2.1)) := by
        rw [f_De_goOn_s]
        dsimp only
        rw [hsc, x1]
        exact if_pos hge
      have eX : f_X_raw nx on x = (false, x) := by
        rw [f_X_raw_s]
        refine (if_neg hxd).trans ?_
        rw [eT]
      refine ⟨br_f hxd ⟨?_, fun _ _ _ _ => trivial⟩, br_f hmd (br_t (by rw [c1, R1, hend]) trivial), by rw [e, eX], by rw [e], by rw [e, eX]; exact hup 0⟩
      intro y1 h1 r2 h2
      have h1 := h1.trans x1
      have h2 := h2.trans hsc
      subst h1 h2
      exact br_t hge trivial
    · have hlt : A + 1 < g := by omega
      have hne : ¬ m.1.2.2.2.2.2.2.2.2.2.2.1 + 1 = m.1.2.2.1 := by
        rw [c1, R1]
        exact fun q => hend ((nI_eq (by omega) (by omega)).mp q)
      have hge : ¬ nI g ≤ nI (A + 1) := nI_ge hlt (by omega)
      obtain ⟨p1, p2⟩ := hp (A + 1) hlt
      have hip : bI (f_Ro_isPlain (nI (A + 1)) x.2.2.2.1) = m.2.2.2.2.1 (A + 1) := by
        rcases p2 with q | q
        · have e9 : f_Ro_isPlain (nI (A + 1)) (nI z, nI g, nI ls, bx, sx, px) = false := by
            exact (plain_in hlt hg1).trans (if_pos (p1.trans q))
          rw [hr, e9, q]; rfl
        · have e9 : f_Ro_isPlain (nI (A + 1)) (nI z, nI g, nI ls, bx, sx, px) = true := by
            exact (plain_in hlt hg1).trans (if_neg (fun w => absurd ((p1.trans q).symm.trans w) (by decide)))
          rw [hr, e9, q]; rfl
      have cA : m.2.2.2.2.1 (m.1.2.2.2.2.2.2.2.2.2.2.1 + 1).toNatClampNeg = m.2.2.2.2.1 (A + 1) := by rw [c1, nI_clamp (by omega)]
      have vA : vp_in (m.1.2.2.2.2.2.2.2.2.2.2.1 + 1) 1100 := by rw [c1]; exact vp_in_nI (by omega) (by decide)
      by_cases hon : m.2.2.2.2.1 (A + 1) = bI on
      · have eM : f_M_raw nx on m = (true, ((0, m.1.2.1, m.1.2.2.1, m.1.2.2.2.1, m.1.2.2.2.2.1, m.1.2.2.2.2.2.1, m.1.2.2.2.2.2.2.1, m.1.2.2.2.2.2.2.2.1, m.1.2.2.2.2.2.2.2.2.1, m.1.2.2.2.2.2.2.2.2.2.1, nI (A + 1), 0, m.1.2.2.2.2.2.2.2.2.2.2.2.2.1, m.1.2.2.2.2.2.2.2.2.2.2.2.2.2.1, m.1.2.2.2.2.2.2.2.2.2.2.2.2.2.2.1, 0, 0, true, m.1.2.2.2.2.2.2.2.2.2.2.2.2.2.2.2.2.2.2.1, m.1.2.2.2.2.2.2.2.2.2.2.2.2.2.2.2.2.2.2.2), m.2.1, m.2.2.1, m.2.2.2.1, m.2.2.2.2.1, m.2.2.2.2.2)) := by
          rw [f_M_raw_s]
          refine (if_neg hmd).trans ((if_neg hne).trans ((if_pos (cA.trans hon)).trans ?_))
          rw [c1]
          rfl
        have eT : f_De_goOn on (x.2.2.1, x.2.2.2.1) = (true, f_De_open (nI (A + 1)) (x.2.2.1, x.2.2.2.1)) := by
          rw [f_De_goOn_s]
          dsimp only
          rw [hsc, x1]
          refine (if_neg hge).trans ?_
          exact if_pos (hip.trans hon)
        have eX : f_X_raw nx on x = (true, (x.1, x.2.1, (f_De_open (nI (A + 1)) (x.2.2.1, x.2.2.2.1)).1, x.2.2.2.1, x.2.2.2.2.1, x.2.2.2.2.2.1, x.2.2.2.2.2.2.1, x.2.2.2.2.2.2.2.1, x.2.2.2.2.2.2.2.2)) := by
          rw [f_X_raw_s]
          refine (if_neg hxd).trans ?_
          rw [eT]
          rfl
        refine ⟨br_f hxd ⟨?_, fun _ _ _ _ => trivial⟩, br_f hmd (br_f hne ⟨vA, br_t (cA.trans hon) ⟨trivial, fun _ _ => trivial⟩⟩), by rw [eM, eX], by rw [eM], ?_⟩
        · intro y1 h1 r2 h2
          have h1 := h1.trans x1
          have h2 := h2.trans hsc
          subst h1 h2
          exact br_f hge ⟨kg, fun b5 h5 => br_c (fun _ => ⟨⟨kg, fun _ _ => trivial⟩, fun _ _ => trivial⟩) (fun _ => trivial)⟩
        · rw [eM, eX]
          exact ⟨g, ls, z, s, by omega, ⟨bx, sx, px, hr, R1, R2, hB, hS, hs, hp, hl, hg0, hg1, hz0⟩, hC, hs1, hs2, hk, hd2, Or.inr ⟨hd, ⟨A + 1, hlt, rfl, rfl, hip.symm, (decide_eq_true (by omega)).symm, Or.inl ⟨rfl, rfl, rfl, rfl, rfl⟩⟩, by omega⟩⟩
      · have eM : f_M_raw nx on m = (false, Km m 0) := by
          rw [f_M_raw_s]
          exact (if_neg hmd).trans ((if_neg hne).trans (if_neg (fun q => hon (cA.symm.trans q))))
        have eT : f_De_goOn on (x.2.2.1, x.2.2.2.1) = (false, (x.2.2.1, x.2.2.2.1)) := by
          rw [f_De_goOn_s]
          dsimp only
          rw [hsc, x1]
          refine (if_neg hge).trans ?_
          exact if_neg (fun q => hon (hip.symm.trans q))
        have eX : f_X_raw nx on x = (false, x) := by
          rw [f_X_raw_s]
          refine (if_neg hxd).trans ?_
          rw [eT]
        refine ⟨br_f hxd ⟨?_, fun _ _ _ _ => trivial⟩, br_f hmd (br_f hne ⟨vA, br_f (fun q => hon (cA.symm.trans q)) trivial⟩), by rw [eM, eX], by rw [eM], by rw [eM, eX]; exact hup 0⟩
        intro y1 h1 r2 h2
        have h1 := h1.trans x1
        have h2 := h2.trans hsc
        subst h1 h2
        exact br_f hge ⟨kg, fun b5 h5 => br_c (fun _ => ⟨⟨kg, fun _ _ => trivial⟩, fun _ _ => trivial⟩) (fun _ => trivial)⟩
end
