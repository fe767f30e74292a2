/-! pure part 14: a whole number, class and reference -/
abbrev Km (m : MS) (c : Int32) : MS := ((c, m.1.2.1, m.1.2.2.1, m.1.2.2.2.1, m.1.2.2.2.2.1, m.1.2.2.2.2.2.1, m.1.2.2.2.2.2.2.1, m.1.2.2.2.2.2.2.2.1, m.1.2.2.2.2.2.2.2.2.1, m.1.2.2.2.2.2.2.2.2.2.1, m.1.2.2.2.2.2.2.2.2.2.2.1, m.1.2.2.2.2.2.2.2.2.2.2.2.1, m.1.2.2.2.2.2.2.2.2.2.2.2.2.1, m.1.2.2.2.2.2.2.2.2.2.2.2.2.2.1, m.1.2.2.2.2.2.2.2.2.2.2.2.2.2.2.1, m.1.2.2.2.2.2.2.2.2.2.2.2.2.2.2.2.1, m.1.2.2.2.2.2.2.2.2.2.2.2.2.2.2.2.2.1, m.1.2.2.2.2.2.2.2.2.2.2.2.2.2.2.2.2.2.1, m.1.2.2.2.2.2.2.2.2.2.2.2.2.2.2.2.2.2.2.1, m.1.2.2.2.2.2.2.2.2.2.2.2.2.2.2.2.2.2.2.2), m.2.1, m.2.2.1, m.2.2.2.1, m.2.2.2.2.1, m.2.2.2.2.2)
theorem XR.km {nx K T N : Nat} {x : XS} {m : MS} (h : XR nx K T N x m) (c : Int32) : XR nx K T N x (Km m c) := h
abbrev xP (x : XS) (p : Int32) : XS := ((x.1.1, x.1.2.1, p), x.2.1, x.2.2.1, x.2.2.2.1, x.2.2.2.2.1, x.2.2.2.2.2.1, x.2.2.2.2.2.2.1, x.2.2.2.2.2.2.2.1, x.2.2.2.2.2.2.2.2)
theorem PR.begin {nx K T N : Nat} {x : XS} {m : MS} (h : XR nx K T N x m) {dec : Bool} (hd : m.1.2.2.2.2.1 = dec) (hc : m.1.1 = 0) : PR nx K T N 1 0 dec (xP x 1) (Pm m 1 0) := ⟨h, rfl, rfl, rfl, by decide, hd, hc⟩
theorem x_put1 {nx q b : Nat} {x : XS} (hb : b < 2) (hk : k_En_put 4096 ((nI q * 512) + x.1.2.2) (nI b) (x.2.1, x.2.2.2.1, x.2.2.2.2.2.1)) : f_X_putBits nx (nI q) (nI b) 1 x = xPut (nI q) (nI b) x ∧ k_X_putBits nx (nI q) (nI b) 1 x := by
  have e1 : (1 : Int32) - 1 = nI 0 := by decide
  have e : ¬ nI 0 < 0 := by decide
  have e00 : nI 0 + (-1) < 0 := by decide
  obtain ⟨b1, -⟩ := bit_num (y := b) (L := 0) (by omega) (by decide)
  rw [Nat.pow_zero, Nat.div_one, Nat.mod_eq_of_lt hb] at b1
  constructor
  · rw [f_X_putBits_s]
    dsimp only
    rw [nf_eq, e1, x_putS, if_neg e, b1, x_putS, if_pos e00]
  · intro x1 h1
    rw [e1] at h1
    subst h1
    rw [nf_eq, kl_X_putBits_s]
    refine br_f e ?_
    intro x2 h2
    rw [b1] at h2
    subst h2
    refine ⟨hk, ?_⟩
    intro u4 h4 r5 h5 x6 h6
    subst h6
    rw [kl_X_putBits_s]
    exact br_t e00 trivial
set_option maxHeartbeats 1000000 in
theorem whole_core {nx K T N q b u k : Nat} {x : XS} {m : MS} (p1 k3 : Int32) (hn : nx ≤ 65536) (hq : q < 8) (hb : b < 2) (hu : u < 2 ^ 31) (hk : KD u k) (hK : K + 570 ≤ 293988) (h : XR nx K T N x m) (hd : m.1.2.2.2.2.1 = false) (hc : m.1.1 = 0) :
    ∃ m1 m3 r3, f_M_pass nx (nI q) (nI b) (Pm m 1 0) = (nI b, m1) ∧ k_M_pass nx (nI q) (nI b) (Pm m 1 0) ∧ g_M_passWhole nx (nI q) p1 (nf 7) m1 k3 (nI u) 0 true = (r3, m3) ∧ kl_M_passWhole nx (nI q) p1 (nf 7) m1 k3 (nI u) 0 true ∧
      k_X_putBits nx (nI q) (nI b) 1 (xP x 1) ∧ k_X_putBits nx (nI q) (nI (preN k)) (nI (plN k)) (f_X_putBits nx (nI q) (nI b) 1 (xP x 1)) ∧ k_X_putBits nx (nI q) (nI u - nI (leN k)) (nI (wdN k)) (f_X_putBits nx (nI q) (nI (preN k)) (nI (plN k)) (f_X_putBits nx (nI q) (nI b) 1 (xP x 1))) ∧
      XR nx (K + 570) T N (f_X_putBits nx (nI q) (nI u - nI (leN k)) (nI (wdN k)) (f_X_putBits nx (nI q) (nI (preN k)) (nI (plN k)) (f_X_putBits nx (nI q) (nI b) 1 (xP x 1)))) m3 ∧ m3.1.2.2.2.2.2.2.2.2.2.2.2.2.2.2.2.2.2.2.2 = nI (1 + plN k + wdN k) ∧ m3.1.1 = 0 := by
  obtain ⟨hk6, hle, hlt⟩ := hk
  obtain ⟨-, -, -, -, -, tle, tpl, tpl1, twd, twd1, tpre⟩ := tab_k k hk6
  obtain ⟨m1, A1, A2, A3, A4⟩ := wpass (b := b) hn (by omega) hq hb (PR.begin h hd hc)
  obtain ⟨S1, S2⟩ := x_put1 (nx := nx) hb A3
  obtain ⟨m2, p2, B1, B2, B3, B4⟩ := wpre hn hq hu ⟨hk6, hle, hlt⟩ p1 (nI (plN k)) k3 k 33 7 0 (K + 15) _ _ _ m1 (by omega) (by omega) (by omega) (by omega) A4
  rw [Nat.sub_zero] at B1 B2
  have eu : nI u - nI (leN k) = nI (u - leN k) := pk_sub hle
  obtain ⟨m3, p3, r3, C1, C2, C3, C4⟩ := wnum hn hq (show u - leN k < 2 ^ 31 by omega) (nI (wdN k)) (nI (wdN k)) (wdN k) 33 33 _ _ _ _ m2 0 twd (by omega) (by omega) (by omega) B2
  have hPN : f_M_passNumber nx (nI q) (nI u - nI (leN k)) (nI (wdN k)) m2 = (r3, m3) := by
    rw [f_M_passNumber_s, eu, nf_eq]; exact C2
  have hPK : k_M_passNumber nx (nI q) (nI u - nI (leN k)) (nI (wdN k)) m2 := by
    intro x1 h1
    rw [eu, nf_eq, h1]; exact C3
  obtain ⟨D1, D2⟩ := m_pwT (p1 := p1) (k3 := k3) hk6 hPN hPK
  have X2 : f_X_putBits nx (nI q) (nI (preN k)) (nI (plN k)) (xPut (nI q) (nI b) (xP x 1)) = g_X_putBits nx (nI q) (nI (preN k)) (nI (plN k)) 33 (xPut (nI q) (nI b) (xP x 1)) (nI (plN k) - 1) := by
    rw [f_X_putBits_s, nf_eq]
  have X3 : ∀ y, f_X_putBits nx (nI q) (nI u - nI (leN k)) (nI (wdN k)) y = g_X_putBits nx (nI q) (nI (u - leN k)) (nI (wdN k)) 33 y (nI (wdN k) - 1) := by
    intro y
    rw [f_X_putBits_s, nf_eq, eu]
  refine ⟨m1, m3, fin k3 (nI (leN k) + r3), A1, A2, ?_, ?_, S2, ?_, ?_, ?_, ?_, ?_⟩
  · rw [nf_eq]; exact B3.trans D1
  · rw [nf_eq]; exact B4 D2
  · rw [S1]
    intro x1 h1
    rw [h1, nf_eq]; exact B1
  · rw [S1, X2]
    intro x1 h1
    rw [h1, nf_eq, eu]; exact C1
  · rw [S1, X2, X3]
    exact C4.1.mono (by omega) (Nat.le_refl T) (Nat.le_refl N)
  · exact C4.2.2.2.1.trans (congrArg nI (by omega))
  · exact C4.2.2.2.2.2.2
theorem m_in {a b c : Int32} : f_M_in a b c = decide (¬ a < b ∧ ¬ c < a) := by
  rw [f_M_in_s]
  by_cases h : a < b
  · rw [if_pos h, decide_eq_false (fun q => q.1 h)]
  · rw [if_neg h]
    by_cases h2 : c < a
    · rw [if_pos h2, decide_eq_false (fun q => q.2 h2)]
    · rw [if_neg h2, decide_eq_true ⟨h, h2⟩]
theorem m_in7 {q : Nat} (hq : q < 8) : f_M_in (nI q) 0 7 = true := by
  rw [m_in]
  exact decide_eq_true ⟨nI_pos (by omega), nI_nlt (a := 7) (by omega) (by omega)⟩
/-- an int that is not the least one: its size and sign -/
theorem abs_of (p1 : Int32) (h : ¬ p1 = -2147483648) : ∃ u, u < 2 ^ 31 ∧ ((0 ≤ p1 ∧ p1 = nI u) ∨ (¬ 0 ≤ p1 ∧ 0 - p1 = nI u ∧ ineg p1 = nI u)) := by
  have hx := Int32.toInt_lt p1
  have hx2 := Int32.le_toInt p1
  by_cases h0 : 0 ≤ p1
  · have h1 := Int32.le_iff_toInt_le.mp h0
    rw [Int32.toInt_zero] at h1
    refine ⟨p1.toInt.toNat, by omega, Or.inl ⟨h0, Int32.toInt_inj.mp ?_⟩⟩
    rw [nI_toInt (by omega)]
    omega
  · have h1 : p1.toInt < 0 := by
      have h3 := h0
      rw [Int32.le_iff_toInt_le, Int32.toInt_zero] at h3
      omega
    have h2 : p1.toInt ≠ -2147483648 := fun q => h (Int32.toInt_inj.mp (by rw [q]; decide))
    have e : ineg p1 = nI (-p1.toInt).toNat := by
      apply Int32.toInt_inj.mp
      unfold ineg
      rw [Int32.toInt_neg, nI_toInt (by omega), Int.bmod_eq_of_le (by omega) (by omega)]
      omega
    refine ⟨(-p1.toInt).toNat, by omega, Or.inr ⟨h0, ?_, e⟩⟩
    rw [Int32.zero_sub]
    exact e
set_option maxHeartbeats 1000000 in
theorem whole_both {nx K T N q : Nat} {x : XS} {m : MS} (p1 : Int32) (hn : nx ≤ 65536) (hq : q < 8) (hK : K + 570 ≤ 293988) (h : XR nx K T N x m) (hd : m.1.2.2.2.2.1 = false) :
    ∃ r x' m', f_X_whole nx (nI q) p1 x = (r, x') ∧ k_X_whole nx (nI q) p1 x ∧ f_M_whole nx (nI q) p1 m = (r, m') ∧ k_M_whole nx (nI q) p1 m ∧ m'.1.1 = 0 ∧ XR nx (K + 570) T N x' m' := by
  have hmd : bI m.1.2.2.2.2.1 = 0 := by rw [hd]; rfl
  have hin := m_in7 hq
  have hset : k_X_needSet nx (nI q) x.1 := br_f (nI_pos (by omega)) (br_t (nI_lt (b := 8) hq (by decide)) trivial)
  have henc : k_X_needEncoding nx x.1 := by
    obtain ⟨g, ls, z, s, hN, hR, hC, hs1, hs2, hk, hd2, hw⟩ := h
    exact br_t (by rw [hd2, hd]; rfl) trivial
  -- what is common: sign b, size u, kind k
  have core : ∀ (b u k : Nat) (k3 : Int32), b < 2 → u < 2 ^ 31 → KD u k → f_M_passWhole nx (nI q) p1 (Km m 0) = g_M_passWhole nx (nI q) p1 (nf 7) (f_M_pass nx (nI q) (nI b) (Pm (Km m 0) 1 0)).2 (nI b) (nI u) 0 true →
      (k_M_pass nx (nI q) (nI b) (Pm (Km m 0) 1 0) → kl_M_passWhole nx (nI q) p1 (nf 7) (f_M_pass nx (nI q) (nI b) (Pm (Km m 0) 1 0)).2 (nI b) (nI u) 0 true → k_M_passWhole nx (nI q) p1 (Km m 0)) →
      (f_X_whole nx (nI q) p1 x = (nI (1 + plN k + wdN k), f_X_putBits nx (nI q) (nI u - nI (leN k)) (nI (wdN k)) (f_X_putBits nx (nI q) (nI (preN k)) (nI (plN k)) (f_X_putBits nx (nI q) (nI b) 1 (xP x 1))))) →
      (k_X_putBits nx (nI q) (nI b) 1 (xP x 1) → k_X_putBits nx (nI q) (nI (preN k)) (nI (plN k)) (f_X_putBits nx (nI q) (nI b) 1 (xP x 1)) → k_X_putBits nx (nI q) (nI u - nI (leN k)) (nI (wdN k)) (f_X_putBits nx (nI q) (nI (preN k)) (nI (plN k)) (f_X_putBits nx (nI q) (nI b) 1 (xP x 1))) → k_X_whole nx (nI q) p1 x) →
      ∃ r x' m', f_X_whole nx (nI q) p1 x = (r, x') ∧ k_X_whole nx (nI q) p1 x ∧ f_M_whole nx (nI q) p1 m = (r, m') ∧ k_M_whole nx (nI q) p1 m ∧ m'.1.1 = 0 ∧ XR nx (K + 570) T N x' m' := by
    intro b u k k3 hb hu hk e1 e2 e3 e4
    obtain ⟨m1, m3, r3, A1, A2, A3, A4, A5, A6, A7, A8, A9, A10⟩ := whole_core (b := b) p1 (nI b) hn hq hb hu hk hK (h.km 0) hd rfl
    rw [A1] at e1 e2
    have e1 := e1.trans A3
    have e2 := e2 A2 A4
    refine ⟨_, _, m3, e3, e4 A5 A6 A7, ?_, ?_, A10, A8⟩
    · rw [f_M_whole_s, hin]
      refine (if_neg bI_t0).trans ((if_pos hmd).trans ?_)
      have e1' : f_M_passWhole nx (nI q) p1 (Km m 0) = (r3, m3) := e1
      dsimp only at e1' ⊢
      rw [e1', A9]
    · refine fun b1 h1 => ?_
      rw [hin] at h1
      subst h1
      exact br_f bI_t0 (br_t hmd ⟨e2, fun _ _ _ _ => trivial⟩)
  by_cases hmin : p1 = -2147483648
  · have n0 : ¬ 0 ≤ p1 := by rw [hmin]; decide
    obtain ⟨k, hk, X1, X2⟩ := x_kind (u := 0) (by decide)
    obtain ⟨t3, t4, t5, t6, -⟩ := tab_k k hk.1
    have X1 : f_X_kindOf 0 = nI k := X1
    refine core 1 0 k 1 (by decide) (by decide) hk ?_ ?_ ?_ ?_
    · rw [f_M_passWhole_s]
      refine (if_neg n0).trans ?_
      obtain ⟨m1, A1, -⟩ := wpass (b := 1) hn (by omega) hq (by decide) (PR.begin (h.km 0) hd rfl)
      have A1' : f_M_pass nx (nI q) 1 (Pm (Km m 0) 1 0) = (nI 1, m1) := A1
      dsimp only at A1 A1' ⊢
      rw [A1', A1]
      exact (if_pos (show nI 1 = 1 from rfl)).trans (if_pos hmin)
    · intro kp kw
      refine br_f n0 ⟨kp, ?_⟩
      intro r8 h8 u8 h8'
      obtain ⟨m1, A1, -⟩ := wpass (b := 1) hn (by omega) hq (by decide) (PR.begin (h.km 0) hd rfl)
      have A1' : f_M_pass nx (nI q) 1 (Pm (Km m 0) 1 0) = (nI 1, m1) := A1
      rw [A1] at kw
      have h8 := h8.trans (congrArg Prod.fst A1')
      have h8' := h8'.trans (congrArg Prod.snd A1')
      subst h8 h8'
      exact br_t (show nI 1 = 1 from rfl) (br_t hmin kw)
    · rw [f_X_whole_s]
      refine (if_pos hmin).trans ?_
      dsimp only
      rw [X1, t3, t4, t5, t6, if_neg n0, show (1 : Int32) = nI 1 from rfl, nI_add, nI_add]
      rfl
    · intro k1 k2 k3'
      refine ⟨hset, henc, br_t hmin ⟨X2, ?_⟩⟩
      intro r29 h29 r30 h30 r31 h31
      rw [X1] at h29
      subst h29
      rw [t4] at h30
      rw [t6] at h31
      subst h30 h31
      refine br_f n0 ⟨k1, ?_⟩
      intro u42 h42 r43 h43
      rw [t3] at h43
      subst h42 h43
      refine ⟨k2, ?_⟩
      intro u45 h45 r46 h46
      rw [t5] at h46
      subst h45 h46
      exact ⟨k3', fun _ _ => trivial⟩
  · obtain ⟨u, hu, hs⟩ := abs_of p1 hmin
    obtain ⟨k, hk, X1, X2⟩ := x_kind hu
    obtain ⟨t3, t4, t5, t6, -⟩ := tab_k k hk.1
    rcases hs with ⟨h0, hp⟩ | ⟨n0, hp, hp2⟩
    · have xa : (if 0 ≤ p1 then p1 else 0 - p1) = nI u := (if_pos h0).trans hp
      refine core 0 u k 1 (by decide) hu hk ?_ ?_ ?_ ?_
      · rw [f_M_passWhole_s]
        refine (if_pos h0).trans ?_
        obtain ⟨m1, A1, -⟩ := wpass (b := 0) hn (by omega) hq (by decide) (PR.begin (h.km 0) hd rfl)
        have A1' : f_M_pass nx (nI q) 0 (Pm (Km m 0) 1 0) = (nI 0, m1) := A1
        dsimp only at A1 A1' ⊢
        rw [A1', A1]
        refine (if_neg (show ¬ nI 0 = 1 by decide)).trans ((if_neg hmin).trans ?_)
        rw [← hp]
        rfl
      · intro kp kw
        refine br_t h0 ⟨kp, ?_⟩
        intro r8 h8 u8 h8'
        obtain ⟨m1, A1, -⟩ := wpass (b := 0) hn (by omega) hq (by decide) (PR.begin (h.km 0) hd rfl)
        have A1' : f_M_pass nx (nI q) 0 (Pm (Km m 0) 1 0) = (nI 0, m1) := A1
        rw [A1] at kw
        have h8 := h8.trans (congrArg Prod.fst A1')
        have h8' := h8'.trans (congrArg Prod.snd A1')
        subst h8 h8'
        refine br_f (show ¬ nI 0 = 1 by decide) (br_f hmin ?_)
        rw [← hp] at kw
        exact kw
      · rw [f_X_whole_s]
        refine (if_neg hmin).trans ?_
        dsimp only
        rw [xa, X1, t3, t4, t5, t6, if_pos h0, show (1 : Int32) = nI 1 from rfl, nI_add, nI_add]
        rfl
      · intro k1 k2 k3'
        refine ⟨hset, henc, br_f hmin ?_⟩
        intro x6 h6
        rw [xa] at h6
        subst h6
        refine ⟨X2, ?_⟩
        intro r29 h29 r30 h30 r31 h31
        rw [X1] at h29
        subst h29
        rw [t4] at h30
        rw [t6] at h31
        subst h30 h31
        refine br_t h0 ⟨k1, ?_⟩
        intro u42 h42 r43 h43
        rw [t3] at h43
        subst h42 h43
        refine ⟨k2, ?_⟩
        intro u45 h45 r46 h46
        rw [t5] at h46
        subst h45 h46
        exact ⟨k3', fun _ _ => trivial⟩
    · have xa : (if 0 ≤ p1 then p1 else 0 - p1) = nI u := (if_neg n0).trans hp
      refine core 1 u k 1 (by decide) hu hk ?_ ?_ ?_ ?_
      · rw [f_M_passWhole_s]
        refine (if_neg n0).trans ?_
        obtain ⟨m1, A1, -⟩ := wpass (b := 1) hn (by omega) hq (by decide) (PR.begin (h.km 0) hd rfl)
        have A1' : f_M_pass nx (nI q) 1 (Pm (Km m 0) 1 0) = (nI 1, m1) := A1
        dsimp only at A1 A1' ⊢
        rw [A1', A1]
        refine (if_pos (show nI 1 = 1 from rfl)).trans ((if_neg hmin).trans ?_)
        rw [hp2]
        rfl
      · intro kp kw
        refine br_f n0 ⟨kp, ?_⟩
        intro r8 h8 u8 h8'
        obtain ⟨m1, A1, -⟩ := wpass (b := 1) hn (by omega) hq (by decide) (PR.begin (h.km 0) hd rfl)
        have A1' : f_M_pass nx (nI q) 1 (Pm (Km m 0) 1 0) = (nI 1, m1) := A1
        rw [A1] at kw
        have h8 := h8.trans (congrArg Prod.fst A1')
        have h8' := h8'.trans (congrArg Prod.snd A1')
        subst h8 h8'
        refine br_t (show nI 1 = 1 from rfl) (br_f hmin ?_)
        intro x13 h13
        rw [hp2] at h13
        subst h13
        exact kw
      · rw [f_X_whole_s]
        refine (if_neg hmin).trans ?_
        dsimp only
        rw [xa, X1, t3, t4, t5, t6, if_neg n0, show (1 : Int32) = nI 1 from rfl, nI_add, nI_add]
      · intro k1 k2 k3'
        refine ⟨hset, henc, br_f hmin ?_⟩
        intro x6 h6
        rw [xa] at h6
        subst h6
        refine ⟨X2, ?_⟩
        intro r29 h29 r30 h30 r31 h31
        rw [X1] at h29
        subst h29
        rw [t4] at h30
        rw [t6] at h31
        subst h30 h31
        refine br_f n0 ⟨k1, ?_⟩
        intro u42 h42 r43 h43
        rw [t3] at h43
        subst h42 h43
        refine ⟨k2, ?_⟩
        intro u45 h45 r46 h46
        rw [t5] at h46
        subst h45 h46
        exact ⟨k3', fun _ _ => trivial⟩
