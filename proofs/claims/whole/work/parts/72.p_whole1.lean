/-! pure part 13: whole numbers are written -/
theorem q_ush32 : ∀ L, L < 32 → (((nI L).toUInt32 &&& Int32.toUInt32 31).toBitVec % 32).toNat = L := by decide +kernel
theorem q_sh32 : ∀ L, L < 32 → ((nI L &&& 31).toBitVec.smod 32).toNat = L := by decide +kernel
theorem bit_num {y L : Nat} (hy : y < 2 ^ 31) (hL : L < 32) : ushr (nI y) (nI L) &&& 1 = nI (y / 2 ^ L % 2) ∧ nI y >>> (nI L &&& 31) &&& 1 = nI (y / 2 ^ L % 2) := by
  have h : y / 2 ^ L ≤ y := Nat.div_le_self _ _
  constructor
  · rw [show ushr (nI y) (nI L) = nI (y / 2 ^ L) from pk_ushrN (by omega) (nI L) L (q_ush32 L hL), q_a1 (by omega)]
  · rw [pk_shrN hy _ L (q_sh32 L hL), q_a1 (by omega)]
theorem q_neg1 (a : Int32) : a + (-1) = a - 1 := (Int32.sub_eq_add_neg a 1).symm
theorem x_putS {nx n : Nat} {p0 p1 p2 k4 : Int32} {x : XS} : g_X_putBits nx p0 p1 p2 (n + 1) x k4 = if k4 < 0 then x else g_X_putBits nx p0 p1 p2 n (xPut p0 ((ushr p1 k4) &&& 1) x) (k4 + (-1)) := rfl
/-- the bits of a number pass -/
theorem wnum {nx T N q u : Nat} (hn : nx ≤ 65536) (hq : q < 8) (hu : u < 2 ^ 31) (p2 p3 : Int32) : ∀ (w n j : Nat) (K p c : Nat) (x : XS) (m : MS) (got : Int32), w ≤ 32 → w < n → w < j → K + 15 * w ≤ 293988 → PR nx K T N p c false x m →
    ∃ m' p' r', kl_X_putBits nx (nI q) (nI u) p2 n x (nI w - 1) ∧ g_M_passNumber nx (nI q) (nI u) p3 j m got (nI w - 1) = (r', m') ∧ kl_M_passNumber nx (nI q) (nI u) p3 j m got (nI w - 1) ∧ PR nx (K + 15 * w) T N p' (c + w) false (g_X_putBits nx (nI q) (nI u) p2 n x (nI w - 1)) m' := by
  intro w
  induction w with
  | zero =>
    intro n j K p c x m got hw hn1 hj hK h
    obtain ⟨n, rfl⟩ : ∃ k, n = k + 1 := ⟨n - 1, by omega⟩
    obtain ⟨j, rfl⟩ : ∃ k, j = k + 1 := ⟨j - 1, by omega⟩
    have e : nI 0 - 1 < 0 := by decide
    rw [x_putS, if_pos e, kl_X_putBits_s, g_M_passNumber_s, kl_M_passNumber_s]
    exact ⟨m, p, got, br_t e trivial, if_pos e, br_t e trivial, h⟩
  | succ w ih =>
    intro n j K p c x m got hw hn1 hj hK h
    obtain ⟨n, rfl⟩ : ∃ k, n = k + 1 := ⟨n - 1, by omega⟩
    obtain ⟨j, rfl⟩ : ∃ k, j = k + 1 := ⟨j - 1, by omega⟩
    have e1 : nI (w + 1) - 1 = nI w := nI_pred w
    have e : ¬ nI w < 0 := nI_pos (by omega)
    obtain ⟨b1, b2⟩ := bit_num hu (show w < 32 by omega)
    obtain ⟨m1, A1, A2, A3, A4⟩ := wpass (b := u / 2 ^ w % 2) hn (by omega) hq (Nat.mod_lt _ (by decide)) h
    obtain ⟨m', p', r', B1, B2, B3, B4⟩ := ih n j (K + 15) (pN p (u / 2 ^ w % 2)) (c + 1) _ m1 (2 * got + nI (u / 2 ^ w % 2)) (by omega) (by omega) (by omega) (by omega) A4
    rw [x_putS, e1, if_neg e, b1, q_neg1, kl_X_putBits_s, g_M_passNumber_s, kl_M_passNumber_s]
    refine ⟨m', p', r', ?_, ?_, ?_, ?_⟩
    · refine br_f e ?_
      intro x2 h2
      rw [b1] at h2
      subst h2
      refine ⟨A3, ?_⟩
      intro u4 h4 r5 h5 x6 h6
      rw [q_neg1] at h6
      subst h4 h5 h6
      exact B1
    · refine (if_neg e).trans ?_
      rw [b2, A1]
      dsimp only
      rw [q_neg1]
      exact B2
    · refine br_f e ?_
      rw [b2]
      refine ⟨A2, ?_⟩
      intro r3 h3 u3 h3' x4 h4 x5 h5
      rw [A1] at h3 h3'
      rw [q_neg1] at h5
      subst h3 h3' h4 h5
      exact B3
    · have e15 : K + 15 * (w + 1) = K + 15 + 15 * w := by omega
      have ec : c + (w + 1) = c + 1 + w := by omega
      rw [e15, ec]
      exact B4
def leN (k : Nat) : Nat := [0, 4, 20, 84, 340, 4436].getD k 0
def preN (k : Nat) : Nat := [0, 2, 6, 14, 30, 31].getD k 0
def plN (k : Nat) : Nat := [1, 2, 3, 4, 5, 5].getD k 0
def wdN (k : Nat) : Nat := [2, 4, 6, 8, 12, 32].getD k 0
set_option maxRecDepth 10000 in
theorem tab_k : ∀ k, k < 6 → f_X_at3 (nI k) = nI (preN k) ∧ f_X_at4 (nI k) = nI (plN k) ∧ f_X_at5 (nI k) = nI (leN k) ∧ f_X_at6 (nI k) = nI (wdN k) ∧ f_M_leastOf (nI k) = nI (leN k) ∧ leN k ≤ 4436 ∧ plN k ≤ 5 ∧ 1 ≤ plN k ∧ wdN k ≤ 32 ∧ 1 ≤ wdN k ∧ preN k < 32 := by decide +kernel
/-- the kind of a size -/
def KD (u k : Nat) : Prop := k < 6 ∧ leN k ≤ u ∧ (k < 5 → u < leN (k + 1))
theorem x_kind {u : Nat} (hu : u < 2 ^ 31) : ∃ k, KD u k ∧ f_X_kindOf (nI u) = nI k ∧ k_X_kindOf (nI u) := by
  have step : ∀ n k, k < 6 → k < n → (k < 5 → u < leN (k + 1)) → ∃ r, KD u r ∧ g_X_kindOf (nI u) n (nI k) = nI r ∧ kl_X_kindOf (nI u) n (nI k) := by
    intro n
    induction n with
    | zero => intro k _ h; omega
    | succ n ih =>
      intro k hk hkn hlt
      rw [g_X_kindOf_s, kl_X_kindOf_s]
      obtain ⟨-, -, t5, -, -, t6, -⟩ := tab_k k hk
      by_cases h0 : k = 0
      · subst h0
        exact ⟨0, ⟨by decide, by simp [leN], hlt⟩, if_pos (show nI 0 ≤ 0 by decide), br_t (show nI 0 ≤ 0 by decide) trivial⟩
      · have e0 : ¬ nI k ≤ 0 := nI_nle (by omega) (by omega)
        by_cases hle : leN k ≤ u
        · have e1 : nI (leN k) ≤ nI u := nI_le hle hu
          refine ⟨k, ⟨hk, hle, hlt⟩, (if_neg e0).trans ?_, br_f e0 (fun r2 h2 => ?_)⟩
          · dsimp only
            rw [t5]
            exact if_pos e1
          · rw [t5] at h2
            subst h2
            exact br_t e1 trivial
        · have e1 : ¬ nI (leN k) ≤ nI u := nI_ge (by omega) (by omega)
          obtain ⟨r, hr, g1, g2⟩ := ih (k - 1) (by omega) (by omega) (fun _ => by rw [Nat.sub_add_cancel (by omega)]; omega)
          have ek : nI k + (-1) = nI (k - 1) := by rw [q_neg1]; exact q_sub1 (by omega)
          refine ⟨r, hr, (if_neg e0).trans ?_, br_f e0 (fun r2 h2 => ?_)⟩
          · dsimp only
            rw [t5]
            refine (if_neg e1).trans ?_
            rw [ek]
            exact g1
          · rw [t5] at h2
            subst h2
            refine br_f e1 (fun x4 h4 => ?_)
            rw [ek] at h4
            subst h4
            exact g2
  rw [f_X_kindOf_s]
  unfold k_X_kindOf
  rw [nf_eq]
  exact step 6 5 (by decide) (by decide) (fun h => absurd h (by decide))
/-- the end of the reference's passWhole does not look at its fuel -/
theorem m_pw1 {nx n : Nat} {p0 p1 k3 k4 : Int32} {k : Nat} {m : MS} (hk : k < 6) : g_M_passWhole nx p0 p1 (n + 1) m k3 k4 (nI k) (decide (k = 5)) = g_M_passWhole nx p0 p1 1 m k3 k4 (nI k) (decide (k = 5)) ∧ (kl_M_passWhole nx p0 p1 1 m k3 k4 (nI k) (decide (k = 5)) → kl_M_passWhole nx p0 p1 (n + 1) m k3 k4 (nI k) (decide (k = 5))) := by
  by_cases h5 : k = 5
  · subst h5
    rw [decide_eq_true rfl]
    constructor
    · rw [g_M_passWhole_s, g_M_passWhole_s]
      exact ((if_neg bI_t0).trans (if_pos (show (5 : Int32) ≤ nI 5 by decide))).trans ((if_neg bI_t0).trans (if_pos (show (5 : Int32) ≤ nI 5 by decide))).symm
    · intro h
      rw [kl_M_passWhole_s] at h ⊢
      exact br_f bI_t0 (br_t (show (5 : Int32) ≤ nI 5 by decide) ((h.2 bI_t0).1 (show (5 : Int32) ≤ nI 5 by decide)))
  · rw [decide_eq_false h5]
    constructor
    · rw [g_M_passWhole_s, g_M_passWhole_s]
      exact (if_pos bI_f0).trans (if_pos bI_f0).symm
    · intro h
      rw [kl_M_passWhole_s] at h ⊢
      exact br_t bI_f0 (h.1 bI_f0)
noncomputable def fin (k3 x : Int32) : Int32 := if k3 = 0 then x else if x = 0 then -2147483648 else ineg x
theorem m_pwT {nx : Nat} {p0 p1 k3 k4 : Int32} {k : Nat} {m m' : MS} {r : Int32} (hk : k < 6) (hf : f_M_passNumber nx p0 (k4 - nI (leN k)) (nI (wdN k)) m = (r, m')) (hkk : k_M_passNumber nx p0 (k4 - nI (leN k)) (nI (wdN k)) m) :
    g_M_passWhole nx p0 p1 1 m k3 k4 (nI k) (decide (k = 5)) = (fin k3 (nI (leN k) + r), m') ∧ kl_M_passWhole nx p0 p1 1 m k3 k4 (nI k) (decide (k = 5)) := by
  obtain ⟨-, -, -, -, t5, -⟩ := tab_k k hk
  have hfin : ∀ (x : Int32), (if k3 = 0 then (x, m') else if x = 0 then ((-2147483648 : Int32), m') else (ineg x, m')) = (fin k3 x, m') := by
    intro x
    unfold fin
    by_cases h1 : k3 = 0
    · rw [if_pos h1, if_pos h1]
    · rw [if_neg h1, if_neg h1]
      by_cases h2 : x = 0
      · rw [if_pos h2, if_pos h2]
      · rw [if_neg h2, if_neg h2]
  have kfin : ∀ (x : Int32), ((k3 = 0) → True) ∧ (¬ (k3 = 0) → ((x = 0) → True) ∧ (¬ (x = 0) → True)) := fun x => br_c (fun _ => trivial) (fun _ => br_c (fun _ => trivial) (fun _ => trivial))
  by_cases h5 : k = 5
  · subst h5
    rw [decide_eq_true rfl]
    constructor
    · rw [g_M_passWhole_s]
      refine (if_neg bI_t0).trans ((if_pos (show (5 : Int32) ≤ nI 5 by decide)).trans ((if_pos (show nI 5 = 5 by decide)).trans ?_))
      dsimp only
      rw [t5, show (32 : Int32) = nI (wdN 5) by decide, hf]
      exact hfin _
    · rw [kl_M_passWhole_s]
      refine br_f bI_t0 (br_t (show (5 : Int32) ≤ nI 5 by decide) (br_t (show nI 5 = 5 by decide) ?_))
      intro r44 h44
      rw [t5] at h44
      subst h44
      exact ⟨hkk, fun _ _ _ _ x _ => kfin x⟩
  · rw [decide_eq_false h5]
    have n5 : ¬ nI k = 5 := fun q => h5 ((nI_eq (b := 5) (by omega) (by decide)).mp q)
    by_cases h4 : k = 4
    · subst h4
      constructor
      · rw [g_M_passWhole_s]
        refine (if_pos bI_f0).trans ((if_neg n5).trans ((if_pos (show nI 4 = 4 by decide)).trans ?_))
        dsimp only
        rw [t5, show (12 : Int32) = nI (wdN 4) by decide, hf]
        exact hfin _
      · rw [kl_M_passWhole_s]
        refine br_t bI_f0 (br_f n5 (br_t (show nI 4 = 4 by decide) ?_))
        intro r44 h44
        rw [t5] at h44
        subst h44
        exact ⟨hkk, fun _ _ _ _ x _ => kfin x⟩
    · have n4 : ¬ nI k = 4 := fun q => h4 ((nI_eq (b := 4) (by omega) (by decide)).mp q)
      have ew : 2 + 2 * nI k = nI (wdN k) := by
        have : ∀ k, k < 4 → 2 + 2 * nI k = nI (wdN k) := by decide +kernel
        exact this k (by omega)
      constructor
      · rw [g_M_passWhole_s]
        refine (if_pos bI_f0).trans ((if_neg n5).trans ((if_neg n4).trans ?_))
        dsimp only
        rw [t5, ew, hf]
        exact hfin _
      · rw [kl_M_passWhole_s]
        refine br_t bI_f0 (br_f n5 (br_f n4 ?_))
        intro x4 hx4 r44 h44
        rw [t5] at h44
        rw [ew] at hx4
        subst h44 hx4
        exact ⟨hkk, fun _ _ _ _ x _ => kfin x⟩
theorem tab_p : ∀ k, k < 6 → (∀ j, j < k → preN k / 2 ^ (plN k - j - 1) % 2 = 1) ∧ (k < 5 → preN k % 2 = 0 ∧ plN k = k + 1) ∧ (k = 5 → plN k = 5) := by decide +kernel
theorem le_mono : ∀ k, k < 6 → ∀ j, j < k → leN (j + 1) ≤ leN k := by decide +kernel
theorem le_pos : ∀ k, k < 5 → 0 < leN (k + 1) := by decide +kernel
/-- the prefix passes -/
theorem wpre {nx T N q u k : Nat} (hn : nx ≤ 65536) (hq : q < 8) (hu : u < 2 ^ 31) (hk : KD u k) (p1 p2 k3 : Int32) : ∀ (d n f j : Nat) (K p c : Nat) (x : XS) (m : MS), j + d = k → plN k - j < n → plN k - j < f → K + 15 * (plN k - j) ≤ 293988 → PR nx K T N p c false x m →
    ∃ m' p', kl_X_putBits nx (nI q) (nI (preN k)) p2 n x (nI (plN k - j) - 1) ∧ PR nx (K + 15 * (plN k - j)) T N p' (c + (plN k - j)) false (g_X_putBits nx (nI q) (nI (preN k)) p2 n x (nI (plN k - j) - 1)) m' ∧
      g_M_passWhole nx (nI q) p1 f m k3 (nI u) (nI j) true = g_M_passWhole nx (nI q) p1 1 m' k3 (nI u) (nI k) (decide (k = 5)) ∧
      (kl_M_passWhole nx (nI q) p1 1 m' k3 (nI u) (nI k) (decide (k = 5)) → kl_M_passWhole nx (nI q) p1 f m k3 (nI u) (nI j) true) := by
  obtain ⟨hk6, hle, hlt⟩ := hk
  obtain ⟨tp1, tp2, tp3⟩ := tab_p k hk6
  obtain ⟨-, -, -, -, -, tle, tpl, tpl1, -, -, tpre⟩ := tab_k k hk6
  intro d
  induction d with
  | zero =>
    intro n f j K p c x m hj hn1 hf hK h
    have hj : j = k := by omega
    subst hj
    obtain ⟨n, rfl⟩ : ∃ k, n = k + 1 := ⟨n - 1, by omega⟩
    obtain ⟨f, rfl⟩ : ∃ k, f = k + 1 := ⟨f - 1, by omega⟩
    by_cases h5 : j = 5
    · have hpl := tp3 h5
      subst h5
      have e0 : plN 5 - 5 = 0 := by omega
      have e : nI 0 - 1 < 0 := by decide
      obtain ⟨G1, G2⟩ := m_pw1 (nx := nx) (n := f) (p0 := nI q) (p1 := p1) (k3 := k3) (k4 := nI u) (m := m) hk6
      rw [e0, x_putS, if_pos e, kl_X_putBits_s]
      exact ⟨m, p, br_t e trivial, h, G1, G2⟩
    · obtain ⟨tz, tpl'⟩ := tp2 (by omega)
      have e0 : plN j - j = 1 := by omega
      have e1 : nI 1 - 1 = nI 0 := by decide
      have e : ¬ nI 0 < 0 := by decide
      obtain ⟨b1, -⟩ := bit_num (y := preN j) (L := 0) (by omega) (by decide)
      rw [Nat.pow_zero, Nat.div_one, tz] at b1
      rw [e0] at hK hn1 hf ⊢
      obtain ⟨n, rfl⟩ : ∃ k, n = k + 1 := ⟨n - 1, by omega⟩
      obtain ⟨f, rfl⟩ : ∃ k, f = k + 1 := ⟨f - 1, by omega⟩
      obtain ⟨m1, A1, A2, A3, A4⟩ := wpass (b := 0) hn (by omega) hq (by decide) h
      obtain ⟨-, -, -, -, tl, -⟩ := tab_k (j + 1) (by omega)
      have n5 : ¬ (5 : Int32) ≤ nI j := nI_ge (b := 5) (by omega) (by decide)
      have el : nI u < nI (leN (j + 1)) := nI_lt (hlt (by omega)) (by have := (tab_k (j + 1) (by omega)).2.2.2.2.2.1; omega)
      obtain ⟨G1, G2⟩ := m_pw1 (nx := nx) (n := f) (p0 := nI q) (p1 := p1) (k3 := k3) (k4 := nI u) (m := m1) hk6
      have e00 : nI 0 + (-1) < 0 := by decide
      refine ⟨m1, pN p 0, ?_, ?_, ?_, ?_⟩
      · rw [kl_X_putBits_s, e1]
        refine br_f e ?_
        intro x2 h2
        rw [b1] at h2
        subst h2
        refine ⟨A3, ?_⟩
        intro u4 h4 r5 h5 x6 h6
        subst h6
        rw [kl_X_putBits_s]
        exact br_t e00 trivial
      · rw [x_putS, e1, if_neg e, b1, x_putS, if_pos e00]
        exact A4
      · rw [g_M_passWhole_s]
        refine (if_neg bI_t0).trans ((if_neg n5).trans ?_)
        dsimp only
        rw [nI_1, tl]
        refine (if_pos el).trans ?_
        rw [show (0 : Int32) = nI 0 from rfl, A1]
        refine (if_neg (show ¬ nI 0 = 1 by decide)).trans ?_
        rw [decide_eq_false h5] at G1 ⊢
        exact G1
      · intro hkk
        rw [kl_M_passWhole_s]
        refine br_f bI_t0 (br_f n5 ?_)
        intro r51 h51
        rw [nI_1, tl] at h51
        subst h51
        refine br_t el ⟨A2, ?_⟩
        intro r54 h54 u54 h54'
        have A1' : f_M_pass nx (nI q) 0 m = (nI 0, m1) := A1
        rw [A1'] at h54 h54'
        subst h54 h54'
        refine br_f (show ¬ nI 0 = 1 by decide) ?_
        rw [decide_eq_false h5] at G2 hkk
        exact G2 hkk
  | succ d ih =>
    intro n f j K p c x m hj hn1 hf hK h
    obtain ⟨n, rfl⟩ : ∃ k, n = k + 1 := ⟨n - 1, by omega⟩
    obtain ⟨f, rfl⟩ : ∃ k, f = k + 1 := ⟨f - 1, by omega⟩
    have hjk : j < k := by omega
    have hplk : k ≤ plN k := by
      by_cases h5 : k = 5
      · rw [tp3 h5]; omega
      · have := (tp2 (by omega)).2; omega
    have tb := tp1 j hjk
    obtain ⟨w, hw⟩ : ∃ w, plN k - j = w + 1 := ⟨plN k - j - 1, by omega⟩
    have hw2 : plN k - (j + 1) = w := by omega
    rw [hw] at hK hn1 hf ⊢
    rw [hw, Nat.add_sub_cancel] at tb
    have e1 : nI (w + 1) - 1 = nI w := nI_pred w
    have e : ¬ nI w < 0 := nI_pos (by omega)
    obtain ⟨b1, -⟩ := bit_num (y := preN k) (L := w) (by omega) (by omega)
    rw [tb] at b1
    obtain ⟨m1, A1, A2, A3, A4⟩ := wpass (b := 1) hn (by omega) hq (by decide) h
    obtain ⟨-, -, -, -, tl, tl6, -⟩ := tab_k (j + 1) (by omega)
    have n5 : ¬ (5 : Int32) ≤ nI j := nI_ge (b := 5) (by omega) (by decide)
    have hge : leN (j + 1) ≤ u := Nat.le_trans (le_mono k hk6 j hjk) hle
    have el : ¬ nI u < nI (leN (j + 1)) := nI_nlt hge hu
    obtain ⟨m', p', B1, B2, B3, B4⟩ := ih n f (j + 1) (K + 15) (pN p 1) (c + 1) _ m1 (by omega) (by rw [hw2]; omega) (by rw [hw2]; omega) (by rw [hw2]; omega) A4
    rw [hw2] at B1 B2
    refine ⟨m', p', ?_, ?_, ?_, ?_⟩
    · rw [kl_X_putBits_s, e1]
      refine br_f e ?_
      intro x2 h2
      rw [b1] at h2
      subst h2
      refine ⟨A3, ?_⟩
      intro u4 h4 r5 h5 x6 h6
      rw [q_neg1] at h6
      subst h4 h5 h6
      exact B1
    · rw [x_putS, e1, if_neg e, b1, q_neg1]
      have e15 : K + 15 * (w + 1) = K + 15 + 15 * w := by omega
      have ec : c + (w + 1) = c + 1 + w := by omega
      rw [e15, ec]
      exact B2
    · rw [g_M_passWhole_s]
      refine (if_neg bI_t0).trans ((if_neg n5).trans ?_)
      dsimp only
      rw [nI_1, tl]
      refine (if_neg el).trans ?_
      rw [show (1 : Int32) = nI 1 from rfl, A1]
      refine (if_pos (show nI 1 = nI 1 from rfl)).trans ?_
      exact B3
    · intro hkk
      rw [kl_M_passWhole_s]
      refine br_f bI_t0 (br_f n5 ?_)
      intro r51 h51
      rw [nI_1, tl] at h51
      subst h51
      refine br_f el ⟨A2, ?_⟩
      intro r54 h54 u54 h54'
      have A1' : f_M_pass nx (nI q) 1 m = (nI 1, m1) := A1
      rw [A1'] at h54 h54'
      subst h54 h54'
      refine br_t (show nI 1 = 1 from rfl) ?_
      intro x56 h56
      rw [nI_1] at h56
      subst h56
      exact B4 hkk
