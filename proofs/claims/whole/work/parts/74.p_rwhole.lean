/-! pure part 15: whole numbers are read -/
theorem q_orb (y : Nat) {b : Nat} (hb : b < 2) : nI y <<< (1 &&& 31 : Int32) ||| nI b = nI (2 * y + b) := by
  rw [q_dbl, q_or (by omega) (by omega), show 2 * y % 4294967296 = 2 * (y % 2147483648) by omega, n_or1 hb, q_modL (2 * y + b)]
  exact congrArg nI (by omega)
theorem x_getS {nx n : Nat} {p0 p1 k3 k4 : Int32} {x : XS} : g_X_readBits nx p0 p1 (n + 1) x k3 k4 = if p1 ≤ k4 then (k3, x) else g_X_readBits nx p0 p1 n (xGet p0 x).2 ((k3 <<< (1 &&& 31)) ||| (xGet p0 x).1) (k4 + 1) := rfl
/-- bits are read: the class counts up, the reference down -/
theorem rnum {nx K N q W : Nat} (hn : nx ≤ 65536) (hK : K ≤ 293988) (hq : q < 8) (hW : W ≤ 32) (p1 p3 : Int32) : ∀ (w n j : Nat) (T p c y : Nat) (x : XS) (m : MS), w ≤ W → w < n → w < j → T + 20 * w ≤ 1000000000 → PR nx K T N p c true x m →
    ∃ m' x' p' y', g_X_readBits nx (nI q) (nI W) n x (nI y) (nI (W - w)) = (nI y', x') ∧ kl_X_readBits nx (nI q) (nI W) n x (nI y) (nI (W - w)) ∧ g_M_passNumber nx (nI q) p1 p3 j m (nI y) (nI w - 1) = (nI y', m') ∧ kl_M_passNumber nx (nI q) p1 p3 j m (nI y) (nI w - 1) ∧ PR nx K (T + 20 * w) N p' (c + w) true x' m' := by
  intro w
  induction w with
  | zero =>
    intro n j T p c y x m hw hn1 hj hT h
    obtain ⟨n, rfl⟩ : ∃ k, n = k + 1 := ⟨n - 1, by omega⟩
    obtain ⟨j, rfl⟩ : ∃ k, j = k + 1 := ⟨j - 1, by omega⟩
    have e : nI 0 - 1 < 0 := by decide
    have e2 : nI W ≤ nI (W - 0) := nI_le (by omega) (by omega)
    rw [x_getS, if_pos e2, kl_X_readBits_s, g_M_passNumber_s, kl_M_passNumber_s]
    exact ⟨m, x, p, y, rfl, br_t e2 trivial, if_pos e, br_t e trivial, h⟩
  | succ w ih =>
    intro n j T p c y x m hw hn1 hj hT h
    obtain ⟨n, rfl⟩ : ∃ k, n = k + 1 := ⟨n - 1, by omega⟩
    obtain ⟨j, rfl⟩ : ∃ k, j = k + 1 := ⟨j - 1, by omega⟩
    have e1 : nI (w + 1) - 1 = nI w := nI_pred w
    have e : ¬ nI w < 0 := nI_pos (by omega)
    have e2 : ¬ nI W ≤ nI (W - (w + 1)) := nI_ge (by omega) (by omega)
    have e3 : nI (W - (w + 1)) + 1 = nI (W - w) := by rw [nI_1]; exact congrArg nI (by omega)
    obtain ⟨b, x1, m1, hb, A1, A2, A3, A4, A5⟩ := rpass ((p1 >>> (nI w &&& 31)) &&& 1) hn hK (by omega) hq h
    obtain ⟨m', x', p', y', B1, B2, B3, B4, B5⟩ := ih n j (T + 20) (pN p b) (c + 1) (2 * y + b) x1 m1 (by omega) (by omega) (by omega) (by omega) A5
    have m2 : 2 * nI y + nI b = nI (2 * y + b) := by rw [q_2x, nI_add]
    rw [x_getS, if_neg e2, kl_X_readBits_s, g_M_passNumber_s, kl_M_passNumber_s, e1]
    refine ⟨m', x', p', y', ?_, ?_, ?_, ?_, ?_⟩
    · rw [A3, q_orb y hb, e3]
      exact B1
    · refine br_f e2 ⟨A4, ?_⟩
      intro r3 h3 u3 h3' r4 h4 x5 h5 x6 h6
      have h3 : r3 = nI b := h3.trans (congrArg Prod.fst A3)
      subst h3
      rw [q_orb y hb] at h5
      rw [e3] at h6
      subst h5 h6
      have hx1 : ((x.1.1, x.1.2.1, r4), x.2.1, u3.1, u3.2.1, x.2.2.2.2.1, x.2.2.2.2.2.1, x.2.2.2.2.2.2.1, u3.2.2, x.2.2.2.2.2.2.2.2) = x1 := by
        have hA := congrArg Prod.snd A3
        have hb1 : (f_De_read 4096 ((nI q * 512) + x.1.2.2) (x.2.2.1, x.2.2.2.1, x.2.2.2.2.2.2.2.1)).1 = nI b := congrArg Prod.fst A3
        rw [h4, h3', ← hb1]
        exact hA
      rw [hx1]
      exact B2
    · refine (if_neg e).trans ?_
      rw [A1]
      dsimp only
      rw [m2, q_neg1]
      exact B3
    · refine br_f e ⟨A2, ?_⟩
      intro r3 h3 u3 h3' x4 h4 x5 h5
      rw [A1] at h3 h3'
      rw [q_neg1] at h5
      subst h3 h3'
      have h4 := h4.trans m2
      subst h4 h5
      exact B4
    · have e15 : T + 20 * (w + 1) = T + 20 + 20 * w := by omega
      have ec : c + (w + 1) = c + 1 + w := by omega
      rw [e15, ec]
      exact B5
theorem x_get1 {nx q w : Nat} {x x' : XS} (hw : w < 2) (hg : xGet (nI q) x = (nI w, x')) (hk : k_De_read 4096 ((nI q * 512) + x.1.2.2) (x.2.2.1, x.2.2.2.1, x.2.2.2.2.2.2.2.1)) : f_X_readBits nx (nI q) 1 x = (nI w, x') ∧ k_X_readBits nx (nI q) 1 x := by
  have e0 : ¬ (1 : Int32) ≤ 0 := by decide
  have e1 : (1 : Int32) ≤ 0 + 1 := by decide
  have e2 : (0 : Int32) <<< (1 &&& 31 : Int32) ||| nI w = nI w := (q_orb 0 hw).trans (congrArg nI (by omega))
  constructor
  · rw [f_X_readBits_s, nf_eq, x_getS, if_neg e0, hg]
    dsimp only
    rw [e2, x_getS, if_pos e1]
  · unfold k_X_readBits
    rw [nf_eq, kl_X_readBits_s]
    refine br_f e0 ⟨hk, ?_⟩
    intro r3 h3 u3 h3' r4 h4 x5 h5 x6 h6
    subst h6
    rw [kl_X_readBits_s]
    exact br_t e1 trivial
theorem x_fin {k2 x6 : Int32} {u : XS} : (if k2 = 0 then (x6, u) else if x6 = 0 then ((-2147483648 : Int32), u) else (ineg x6, u)) = (fin k2 x6, u) := by
  unfold fin
  by_cases h1 : k2 = 0
  · rw [if_pos h1, if_pos h1]
  · rw [if_neg h1, if_neg h1]
    by_cases h2 : x6 = 0
    · rw [if_pos h2, if_pos h2]
    · rw [if_neg h2, if_neg h2]
theorem k_fin {k2 : Int32} (x : Int32) : ((k2 = 0) → True) ∧ (¬ (k2 = 0) → ((x = 0) → True) ∧ (¬ (x = 0) → True)) := br_c (fun _ => trivial) (fun _ => br_c (fun _ => trivial) (fun _ => trivial))
theorem rtail {nx K T N q k p c : Nat} {x : XS} {m : MS} (hn : nx ≤ 65536) (hK : K ≤ 293988) (hq : q < 8) (hk : k < 6) (p1 k3 : Int32) (hT : T + 640 ≤ 1000000000) (h : PR nx K T N p c true x m) :
    ∃ y x' m' p' c', f_X_readBits nx (nI q) (nI (wdN k)) x = (nI y, x') ∧ k_X_readBits nx (nI q) (nI (wdN k)) x ∧ g_M_passWhole nx (nI q) p1 1 m k3 0 (nI k) (decide (k = 5)) = (fin k3 (nI y + nI (leN k)), m') ∧ kl_M_passWhole nx (nI q) p1 1 m k3 0 (nI k) (decide (k = 5)) ∧ PR nx K (T + 640) N p' c' true x' m' := by
  obtain ⟨-, -, -, -, -, tle, tpl, tpl1, twd, twd1, tpre⟩ := tab_k k hk
  obtain ⟨m', x', p', y, B1, B2, B3, B4, B5⟩ := rnum hn hK hq twd (0 - nI (leN k)) (nI (wdN k)) (wdN k) 33 33 T p c 0 x m (Nat.le_refl _) (by omega) (by omega) (by omega) h
  rw [Nat.sub_self] at B1 B2
  have hPN : f_M_passNumber nx (nI q) (0 - nI (leN k)) (nI (wdN k)) m = (nI y, m') := by
    rw [f_M_passNumber_s, nf_eq]; exact B3
  have hPK : k_M_passNumber nx (nI q) (0 - nI (leN k)) (nI (wdN k)) m := by
    intro x1 h1
    rw [nf_eq, h1]; exact B4
  obtain ⟨D1, D2⟩ := m_pwT (p1 := p1) (k3 := k3) hk hPN hPK
  refine ⟨y, x', m', p', _, ?_, ?_, ?_, D2, B5.1.mono (Nat.le_refl K) (by omega) (Nat.le_refl N), B5.2⟩
  · rw [f_X_readBits_s, nf_eq]; exact B1
  · unfold k_X_readBits; rw [nf_eq]; exact B2
  · rw [D1, Int32.add_comm]
theorem rpre {nx K N q : Nat} (hn : nx ≤ 65536) (hK : K ≤ 293988) (hq : q < 8) (p1 k3 : Int32) : ∀ (d n f j T p c : Nat) (x : XS) (m : MS), j + d = 5 → d < n → d < f → T + 20 * d + 640 ≤ 1000000000 → PR nx K T N p c true x m →
    ∃ r x' m' p' c', g_X_readWhole nx (nI q) n x k3 (nI j) = (r, x') ∧ kl_X_readWhole nx (nI q) n x k3 (nI j) ∧ g_M_passWhole nx (nI q) p1 f m k3 0 (nI j) true = (r, m') ∧ kl_M_passWhole nx (nI q) p1 f m k3 0 (nI j) true ∧ PR nx K (T + 20 * d + 640) N p' c' true x' m' := by
  intro d
  induction d with
  | zero =>
    intro n f j T p c x m hj hn1 hf hT h
    have hj : j = 5 := by omega
    subst hj
    obtain ⟨n, rfl⟩ : ∃ k, n = k + 1 := ⟨n - 1, by omega⟩
    obtain ⟨f, rfl⟩ : ∃ k, f = k + 1 := ⟨f - 1, by omega⟩
    obtain ⟨y, x', m', p', c', A1, A2, A3, A4, A5⟩ := rtail (k := 5) hn hK hq (by decide) p1 k3 (by omega) h
    obtain ⟨G1, G2⟩ := m_pw1 (nx := nx) (n := f) (p0 := nI q) (p1 := p1) (k3 := k3) (k4 := 0) (k := 5) (m := m) (by decide)
    obtain ⟨-, -, t5, t6, -⟩ := tab_k 5 (by decide)
    have e5 : (5 : Int32) ≤ nI 5 := by decide
    rw [decide_eq_true rfl] at A3 A4 G1 G2
    refine ⟨_, x', m', p', c', ?_, ?_, G1.trans A3, G2 A4, A5⟩
    · rw [g_X_readWhole_s]
      refine (if_pos e5).trans ?_
      dsimp only
      rw [t6, t5, A1]
      exact x_fin
    · rw [kl_X_readWhole_s]
      refine br_t e5 ?_
      intro r2 h2
      rw [t6] at h2
      subst h2
      exact ⟨A2, fun _ _ _ _ _ _ x _ => k_fin x⟩
  | succ d ih =>
    intro n f j T p c x m hj hn1 hf hT h
    obtain ⟨n, rfl⟩ : ∃ k, n = k + 1 := ⟨n - 1, by omega⟩
    obtain ⟨f, rfl⟩ : ∃ k, f = k + 1 := ⟨f - 1, by omega⟩
    have e5 : ¬ (5 : Int32) ≤ nI j := nI_ge (b := 5) (by omega) (by decide)
    obtain ⟨-, -, -, -, tl, tl6, -⟩ := tab_k (j + 1) (by omega)
    have el : (0 : Int32) < nI (leN (j + 1)) := nI_lt (a := 0) (le_pos j (by omega)) (by omega)
    obtain ⟨w, x1, m1, hw, P1, P2, P3, P4, P5⟩ := rpass 0 hn hK (by omega) hq h
    obtain ⟨R1, R2⟩ := x_get1 (nx := nx) hw P3 P4
    by_cases h1 : w = 1
    · subst h1
      obtain ⟨r, x', m', p', c', B1, B2, B3, B4, B5⟩ := ih n f (j + 1) (T + 20) _ _ x1 m1 (by omega) (by omega) (by omega) (by omega) P5
      refine ⟨r, x', m', p', c', ?_, ?_, ?_, ?_, ?_⟩
      · rw [g_X_readWhole_s]
        refine (if_neg e5).trans ?_
        dsimp only
        rw [R1]
        refine (if_pos (show nI 1 = 1 from rfl)).trans ?_
        rw [nI_1]
        exact B1
      · rw [kl_X_readWhole_s]
        refine br_f e5 ⟨R2, ?_⟩
        intro r10 h10 u10 h10'
        rw [R1] at h10 h10'
        subst h10 h10'
        refine br_t (show nI 1 = 1 from rfl) ?_
        intro x19 h19
        rw [nI_1] at h19
        subst h19
        exact B2
      · rw [g_M_passWhole_s]
        refine (if_neg bI_t0).trans ((if_neg e5).trans ?_)
        dsimp only
        rw [nI_1, tl]
        refine (if_pos el).trans ?_
        rw [P1]
        exact (if_pos (show nI 1 = 1 from rfl)).trans B3
      · rw [kl_M_passWhole_s]
        refine br_f bI_t0 (br_f e5 ?_)
        intro r51 h51
        rw [nI_1, tl] at h51
        subst h51
        refine br_t el ⟨P2, ?_⟩
        intro r54 h54 u54 h54'
        rw [P1] at h54 h54'
        subst h54 h54'
        refine br_t (show nI 1 = 1 from rfl) ?_
        intro x56 h56
        rw [nI_1] at h56
        subst h56
        exact B4
      · have e15 : T + 20 * (d + 1) + 640 = T + 20 + 20 * d + 640 := by omega
        rw [e15]
        exact B5
    · have hw0 : w = 0 := by omega
      subst hw0
      obtain ⟨y, x', m', p', c', A1, A2, A3, A4, A5⟩ := rtail (k := j) hn hK hq (by omega) p1 k3 (by omega) P5
      obtain ⟨f, rfl⟩ : ∃ k, f = k + 1 := ⟨f - 1, by omega⟩
      obtain ⟨G1, G2⟩ := m_pw1 (nx := nx) (n := f) (p0 := nI q) (p1 := p1) (k3 := k3) (k4 := 0) (k := j) (m := m1) (by omega)
      obtain ⟨-, -, t5, t6, -⟩ := tab_k j (by omega)
      have hj5 : ¬ j = 5 := by omega
      rw [decide_eq_false hj5] at A3 A4 G1 G2
      refine ⟨fin k3 (nI y + nI (leN j)), x', m', p', c', ?_, ?_, ?_, ?_, A5.1.mono (Nat.le_refl K) (by omega) (Nat.le_refl N), A5.2⟩
      · rw [g_X_readWhole_s]
        refine (if_neg e5).trans ?_
        dsimp only
        rw [R1]
        refine (if_neg (show ¬ nI 0 = 1 by decide)).trans ?_
        dsimp only
        rw [t6, t5, A1]
        exact x_fin
      · rw [kl_X_readWhole_s]
        refine br_f e5 ⟨R2, ?_⟩
        intro r10 h10 u10 h10'
        rw [R1] at h10 h10'
        subst h10 h10'
        refine br_f (show ¬ nI 0 = 1 by decide) ?_
        intro r2 h2
        rw [t6] at h2
        subst h2
        exact ⟨A2, fun _ _ _ _ _ _ x _ => k_fin x⟩
      · rw [g_M_passWhole_s]
        refine (if_neg bI_t0).trans ((if_neg e5).trans ?_)
        dsimp only
        rw [nI_1, tl]
        refine (if_pos el).trans ?_
        rw [P1]
        exact (if_neg (show ¬ nI 0 = 1 by decide)).trans (G1.trans A3)
      · rw [kl_M_passWhole_s]
        refine br_f bI_t0 (br_f e5 ?_)
        intro r51 h51
        rw [nI_1, tl] at h51
        subst h51
        refine br_t el ⟨P2, ?_⟩
        intro r54 h54 u54 h54'
        rw [P1] at h54 h54'
        subst h54 h54'
        exact br_f (show ¬ nI 0 = 1 by decide) (G2 A4)
theorem readWhole_both {nx K T N q : Nat} {x : XS} {m : MS} (hn : nx ≤ 65536) (hq : q < 8) (hK : K ≤ 293988) (hT : T + 760 ≤ 1000000000) (h : XR nx K T N x m) (hd : m.1.2.2.2.2.1 = true) :
    ∃ r x' m', f_X_readWhole nx (nI q) x = (r, x') ∧ k_X_readWhole nx (nI q) x ∧ f_M_readWhole nx (nI q) m = (r, m') ∧ k_M_readWhole nx (nI q) m ∧ m'.1.1 = 0 ∧ XR nx K (T + 760) N x' m' := by
  have hmd : ¬ bI m.1.2.2.2.2.1 = 0 := by rw [hd]; decide
  have hin := m_in7 hq
  have hset : k_X_needSet nx (nI q) x.1 := br_f (nI_pos (by omega)) (br_t (nI_lt (b := 8) hq (by decide)) trivial)
  have hdec : k_X_needDecoding nx x.1 := by
    obtain ⟨g, ls, z, s, hN, hR, hC, hs1, hs2, hk, hd2, hw⟩ := h
    exact br_f (by rw [hd2, hd]; decide) trivial
  obtain ⟨w, x1, m1, hw, P1, P2, P3, P4, P5⟩ := rpass 0 hn hK (by omega) hq (PR.begin (h.km 0) hd rfl)
  obtain ⟨R1, R2⟩ := x_get1 (nx := nx) hw P3 P4
  have P1 : f_M_pass nx (nI q) 0 (Pm (Km m 0) 1 0) = (nI w, m1) := P1
  have n0 : ¬ (0 : Int32) = -2147483648 := by decide
  have h0 : (0 : Int32) ≤ 0 := by decide
  obtain ⟨r, x', m', p', c', B1, B2, B3, B4, B5⟩ := rpre hn hK hq 0 (nI w) 5 6 7 0 (T + 20) _ _ x1 m1 (by decide) (by decide) (by decide) (by omega) P5
  have hM : f_M_passWhole nx (nI q) 0 (Km m 0) = (r, m') := by
    rw [f_M_passWhole_s]
    refine (if_pos h0).trans ?_
    dsimp only at P1 ⊢
    rw [P1, nf_eq]
    by_cases h1 : w = 1
    · subst h1
      exact (if_pos (show nI 1 = 1 from rfl)).trans ((if_neg n0).trans B3)
    · have hw0 : w = 0 := by omega
      subst hw0
      exact (if_neg (show ¬ nI 0 = 1 by decide)).trans ((if_neg n0).trans B3)
  have kM : k_M_passWhole nx (nI q) 0 (Km m 0) := by
    refine br_t h0 ⟨P2, ?_⟩
    intro r3 h3 u3 h3'
    have h3 : r3 = nI w := h3.trans (congrArg Prod.fst P1)
    have h3' : u3 = m1 := h3'.trans (congrArg Prod.snd P1)
    subst h3 h3'
    rw [nf_eq]
    by_cases h1 : w = 1
    · subst h1
      exact br_t (show nI 1 = 1 from rfl) (br_f n0 B4)
    · have hw0 : w = 0 := by omega
      subst hw0
      exact br_f (show ¬ nI 0 = 1 by decide) (br_f n0 B4)
  refine ⟨r, x', m', ?_, ?_, ?_, ?_, B5.2.2.2.2.2.2, B5.1.mono (Nat.le_refl K) (by omega) (Nat.le_refl N)⟩
  · rw [f_X_readWhole_s]
    dsimp only
    rw [R1, nf_eq]
    by_cases h1 : w = 1
    · subst h1
      exact (if_pos (show nI 1 = 1 from rfl)).trans B1
    · have hw0 : w = 0 := by omega
      subst hw0
      exact (if_neg (show ¬ nI 0 = 1 by decide)).trans B1
  · refine ⟨hset, hdec, R2, ?_⟩
    intro r6 h6 u6 h6'
    have h6 : r6 = nI w := h6.trans (congrArg Prod.fst R1)
    have h6' : u6 = x1 := h6'.trans (congrArg Prod.snd R1)
    subst h6 h6'
    rw [nf_eq]
    by_cases h1 : w = 1
    · subst h1
      exact br_t (show nI 1 = 1 from rfl) B2
    · have hw0 : w = 0 := by omega
      subst hw0
      exact br_f (show ¬ nI 0 = 1 by decide) B2
  · rw [f_M_readWhole_s, hin]
    refine (if_neg bI_t0).trans ((if_neg hmd).trans ?_)
    dsimp only at hM ⊢
    rw [hM]
  · refine fun b1 h1 => ?_
    rw [hin] at h1
    subst h1
    exact br_f bI_t0 (br_f hmd ⟨kM, fun _ _ _ _ => trivial⟩)
