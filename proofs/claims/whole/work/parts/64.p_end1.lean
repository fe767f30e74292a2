/-! pure part 5: ending a segment; bits as they are -/
theorem n_or16 (c : Nat) : c ||| 65535 = c - c % 65536 + 65535 := by
  have h1 : c % 65536 ||| 65535 = 65535 := by
    apply Nat.eq_of_testBit_eq
    intro i
    rw [Nat.testBit_or, show (65535 : Nat) = 2 ^ 16 - 1 from rfl, Nat.testBit_two_pow_sub_one]
    by_cases h : i < 16
    · simp [h]
    · have : (c % 65536).testBit i = false := Nat.testBit_lt_two_pow (Nat.lt_of_lt_of_le (Nat.mod_lt _ (by decide)) (show 65536 ≤ 2 ^ i from Nat.pow_le_pow_right (n := 2) (i := 16) (by decide) (by omega)))
      simp [h, this]
  have h2 : c = 2 ^ 16 * (c / 65536) + c % 65536 := by omega
  have h3 : 2 ^ 16 * (c / 65536) + c % 65536 = 2 ^ 16 * (c / 65536) ||| c % 65536 := Nat.two_pow_add_eq_or_of_lt (Nat.mod_lt _ (by decide)) _
  have h4 : 2 ^ 16 * (c / 65536) + 65535 = 2 ^ 16 * (c / 65536) ||| 65535 := Nat.two_pow_add_eq_or_of_lt (by decide) _
  calc c ||| 65535 = (2 ^ 16 * (c / 65536) ||| c % 65536) ||| 65535 := by rw [← h3, ← h2]
    _ = 2 ^ 16 * (c / 65536) ||| 65535 := by rw [Nat.or_assoc, h1]
    _ = 2 ^ 16 * (c / 65536) + 65535 := h4.symm
    _ = _ := by omega
theorem n_or1 {n b : Nat} (hb : b < 2) : 2 * n ||| b = 2 * n + b := (Nat.two_pow_add_eq_or_of_lt (i := 1) hb n).symm
theorem q_or {a b : Nat} (ha : a < 2 ^ 32) (hb : b < 2 ^ 32) : nI a ||| nI b = nI (a ||| b) := by
  apply Int32.toBitVec_inj.mp
  apply BitVec.eq_of_toNat_eq
  rw [Int32.toBitVec_or, BitVec.toNat_or, pk_tn ha, pk_tn hb, pk_tn (Nat.or_lt_two_pow ha hb)]
theorem q_or16 {c : Nat} (h : c < 2 ^ 32) : nI c ||| 65535 = nI (c - c % 65536 + 65535) := by
  rw [show (65535 : Int32) = nI 65535 from rfl, q_or h (by decide), n_or16]
theorem q_sm : ∀ t, t < 13 → ((nI t &&& 31).toBitVec.smod 32).toNat = t := by decide +kernel
theorem q_shlt {n t : Nat} (ht : t < 13) (h : n * 2 ^ t < 2 ^ 31) : nI n <<< (nI t &&& 31) = nI (n * 2 ^ t) := pk_shlN _ t (q_sm t ht) (by omega)
theorem q_r16 {c : Nat} (h : c < 2 ^ 31) : irem (nI c) 65536 = nI (c % 65536) := pk_rem (d := 65536) h (by decide) (by decide)
/-- the last byte goes if it is full -/
theorem drop_both {nx g ls z : Nat} {a c t p r : Int32} {m : MS} {sx px bx st bt : Nat → Int32} (hg0 : 0 < g) (hg1 : g < 1100) (hs : sx (g - 1) = nI ls) (hz : z < 42000) (hl : ls ≤ z) (hB : BR z bx bt) (hS : SR g ls z sx st) :
    ∃ z' st', ls ≤ z' ∧ z' ≤ z ∧ BR z' bx bt ∧ SR g ls z' sx st' ∧ f_Ro_dropLastIfFull (nI z, nI g, nI ls, bx, sx, px) = (nI z', nI g, nI ls, bx, sx, px) ∧ k_M_isFull nx (Wm m (nI g) (nI z) a c t p r st bt) ∧
      ((f_M_isFull nx (Wm m (nI g) (nI z) a c t p r st bt) = false ∧ z' = z ∧ st' = st) ∨ (f_M_isFull nx (Wm m (nI g) (nI z) a c t p r st bt) = true ∧ ls < z ∧ z' = z - 1 ∧ nI z - 1 = nI z' ∧ upd st (nI g).toNatClampNeg (nI z - 1) = st')) := by
  have hF := m_full (nx := nx) (m := m) (a := a) (c := c) (t := t) (p := p) (r := r) (st := st) (bt := bt) hg0 hg1 (show z < 120000 by omega) (hS.ls hg0 hs) hl
  by_cases h : ls < z ∧ bt (z - 1) = 255
  · obtain ⟨h1, h2⟩ := h
    have e : nI z - 1 = nI (z - 1) := q_sub1 (by omega)
    refine ⟨z - 1, upd st g (nI (z - 1)), by omega, by omega, hB.mono (by omega), hS.set _, ?_, hF.1, Or.inr ⟨hF.2.trans (decide_eq_true ⟨h1, h2⟩), h1, rfl, e, by rw [e, nI_clamp (by omega)]⟩⟩
    rw [f_Ro_dropLastIfFull_s]
    dsimp only
    rw [ro_last1 (by omega) h1, (hB (z - 1) (by omega)).1, h2, if_pos rfl, e]
  · refine ⟨z, st, hl, Nat.le_refl z, hB, hS, ?_, hF.1, Or.inl ⟨hF.2.trans (decide_eq_false h), rfl, rfl⟩⟩
    rw [f_Ro_dropLastIfFull_s]
    dsimp only
    by_cases h1 : ls < z
    · rw [ro_last1 (by omega) h1, (hB (z - 1) (by omega)).1, if_neg (fun q => h ⟨h1, q⟩)]
    · rw [ro_last0 hz (by omega) (by omega), if_neg (by decide)]
section
variable {nx : Nat} {m : MS} {g z a p r : Int32} {st bt : Nat → Int32}
theorem m_enda : ∀ (t n low : Nat), t < 13 → t < n → low * 2 ^ t < 2 ^ 31 → k_M_putOut nx (Wm m g z a (nI (low * 2 ^ t)) (nI 0) p r st bt) → (∀ u3, u3 = f_M_putOut nx (Wm m g z a (nI (low * 2 ^ t)) (nI 0) p r st bt) → (k_M_isFull nx u3) ∧ (bI (f_M_isFull nx u3) ≠ 0 → vp_in u3.1.2.2.1 1100)) →
    kl_M_endSegmenta nx n (Wm m g z a (nI low) (nI t) p r st bt) ∧ g_M_endSegmenta nx n (Wm m g z a (nI low) (nI t) p r st bt) = g_M_endSegmenta nx 1 (Wm m g z a (nI (low * 2 ^ t)) (nI 0) p r st bt) := by
  intro t
  induction t with
  | zero =>
    intro n low h13 hn hl hk hv
    obtain ⟨k, rfl⟩ : ∃ k, n = k + 1 := ⟨n - 1, by omega⟩
    rw [Nat.pow_zero, Nat.mul_one] at hk hv ⊢
    constructor
    · rw [kl_M_endSegmenta_s]
      refine br_t (show nI 0 ≤ 0 by decide) ⟨hk, fun u3 h3 => ⟨(hv u3 h3).1, fun b5 h5 => br_c (fun _ => trivial) (fun q x7 _ => ⟨(hv u3 h3).2 (by rw [← h5]; exact q), trivial⟩)⟩⟩
    · rw [g_M_endSegmenta_s, g_M_endSegmenta_s, if_pos (show nI 0 ≤ 0 by decide), if_pos (show nI 0 ≤ 0 by decide)]
  | succ t ih =>
    intro n low h13 hn hl hk hv
    obtain ⟨k, rfl⟩ : ∃ k, n = k + 1 := ⟨n - 1, by omega⟩
    have e : low * 2 ^ (t + 1) = 2 * low * 2 ^ t := by rw [Nat.pow_succ, Nat.mul_comm 2 low, Nat.mul_assoc, Nat.mul_comm 2]
    have ht : t + 1 < 2 ^ 31 := by omega
    rw [e] at hk hv hl ⊢
    have I := ih k (2 * low) (by omega) (by omega) hl hk hv
    have n0 : ¬ nI (t + 1) ≤ 0 := nI_nle (by omega) ht
    constructor
    · rw [kl_M_endSegmenta_s]
      refine br_f n0 ?_
      intro x10 h10 x11 h11
      have h10 : x10 = nI (2 * low) := h10.trans (q_2x low)
      have h11 : x11 = nI t := h11.trans (nI_pred t)
      subst h10 h11
      exact I.1
    · rw [g_M_endSegmenta_s, if_neg n0]
      dsimp only
      rw [q_2x, nI_pred]
      exact I.2
theorem m_endb : ∀ (t n low : Nat), t < 13 → t < n → low * 2 ^ t < 2 ^ 31 → k_M_putOut nx (Wm m g z a (nI (low * 2 ^ t)) (nI 0) p r st bt) → kl_M_endSegmenta nx (nf 13) (f_M_putOut nx (Wm m g z a (nI (low * 2 ^ t)) (nI 0) p r st bt)) →
    kl_M_endSegmentb nx n (Wm m g z a (nI low) (nI t) p r st bt) ∧ g_M_endSegmentb nx n (Wm m g z a (nI low) (nI t) p r st bt) = g_M_endSegmenta nx (nf 13) (f_M_putOut nx (Wm m g z a (nI (low * 2 ^ t)) (nI 0) p r st bt)) := by
  intro t
  induction t with
  | zero =>
    intro n low h13 hn hl hk hv
    obtain ⟨k, rfl⟩ : ∃ k, n = k + 1 := ⟨n - 1, by omega⟩
    rw [Nat.pow_zero, Nat.mul_one] at hk hv ⊢
    constructor
    · rw [kl_M_endSegmentb_s]
      refine br_t (show nI 0 ≤ 0 by decide) ⟨hk, fun u3 h3 => ?_⟩
      subst h3
      exact hv
    · rw [g_M_endSegmentb_s, if_pos (show nI 0 ≤ 0 by decide)]
  | succ t ih =>
    intro n low h13 hn hl hk hv
    obtain ⟨k, rfl⟩ : ∃ k, n = k + 1 := ⟨n - 1, by omega⟩
    have e : low * 2 ^ (t + 1) = 2 * low * 2 ^ t := by rw [Nat.pow_succ, Nat.mul_comm 2 low, Nat.mul_assoc, Nat.mul_comm 2]
    have ht : t + 1 < 2 ^ 31 := by omega
    rw [e] at hk hv hl ⊢
    have I := ih k (2 * low) (by omega) (by omega) hl hk hv
    have n0 : ¬ nI (t + 1) ≤ 0 := nI_nle (by omega) ht
    constructor
    · rw [kl_M_endSegmentb_s]
      refine br_f n0 ?_
      intro x10 h10 x11 h11
      have h10 : x10 = nI (2 * low) := h10.trans (q_2x low)
      have h11 : x11 = nI t := h11.trans (nI_pred t)
      subst h10 h11
      exact I.1
    · rw [g_M_endSegmentb_s, if_neg n0]
      dsimp only
      rw [q_2x, nI_pred]
      exact I.2
end
/-- two bytes are put out, and the last one goes if it is full: from the number that is shifted on -/
theorem flush_tail {nx g ls z w t : Nat} {pl : Bool} {a p r bg bb rf : Int32} {m : MS} {sx px bx st bt : Nat → Int32} (hg0 : 0 < g) (hg1 : g < 1100) (hs : sx (g - 1) = nI ls) (hz : z < 41998) (hl : ls ≤ z) (ht : t < 13) (hw : w * 2 ^ t < 2 ^ 31) (hw0 : z = ls → w * 2 ^ t < 2 ^ 27) (hB : BR z bx bt) (hS : SR g ls z sx st) :
    ∃ e' z' c' t' bx' st' bt', 
      (let u5 := f_En_putOut ((pl, a, nI w <<< (nI t &&& 31), nI t, bg, bb, rf), (nI z, nI g, nI ls, bx, sx, px))
       let u7 := f_En_putOut ((u5.1.1, u5.1.2.1, u5.1.2.2.1 <<< (u5.1.2.2.2.1 &&& 31), u5.1.2.2.2.1, u5.1.2.2.2.2.1, u5.1.2.2.2.2.2.1, u5.1.2.2.2.2.2.2), u5.2)
       (u7.1, f_Ro_dropLastIfFull u7.2)) = (e', (nI z', nI g, nI ls, bx', sx, px)) ∧
      kl_M_endSegmentb nx (nf 13) (Wm m (nI g) (nI z) a (nI w) (nI t) p r st bt) ∧
      g_M_endSegmentb nx (nf 13) (Wm m (nI g) (nI z) a (nI w) (nI t) p r st bt) = Wm m (nI g) (nI z') a c' t' p r st' bt' ∧
      ls ≤ z' ∧ z' ≤ z + 2 ∧ BR z' bx' bt' ∧ SR g ls z' sx st' := by
  have x1 : nI w <<< (nI t &&& 31) = nI (w * 2 ^ t) := q_shlt ht hw
  obtain ⟨c1, t1, bx1, bt1, E1, E2, E3, E4, E5⟩ := out_both (nx := nx) (m := m) (pl := pl) (a := a) (tx := nI t) (t := nI 0) (p := p) (r := r) (bg := bg) (bb := bb) (rf := rf) (sx := sx) (px := px) hg0 hg1 (show z < 42000 by omega) hl (hS.ls hg0 hs) hw hw0 hB
  have ht1 : t1 < 13 := by omega
  have hw1 : c1 * 2 ^ t1 < 2 ^ 31 := by rcases E5 with ⟨rfl, h⟩ | ⟨rfl, h⟩ <;> omega
  have x2 : nI c1 <<< (nI t1 &&& 31) = nI (c1 * 2 ^ t1) := q_shlt ht1 hw1
  obtain ⟨c2, t2, bx2, bt2, G1, G2, G3, G4, G5⟩ := out_both (nx := nx) (m := m) (pl := pl) (a := a) (tx := nI t1) (t := nI 0) (p := p) (r := r) (bg := bg) (bb := bb) (rf := rf) (sx := sx) (px := px) hg0 hg1 (show z + 1 < 42000 by omega) (show ls ≤ z + 1 by omega) (hS.up.ls hg0 hs) hw1 (fun q => by omega) E4
  obtain ⟨z', st', D1, D2, D3, D4, D5, D6, D7⟩ := drop_both (nx := nx) (m := m) (a := a) (c := nI c2) (t := nI t2) (p := p) (r := r) (px := px) hg0 hg1 hs (show z + 1 + 1 < 42000 by omega) (show ls ≤ z + 1 + 1 by omega) G4 hS.up.up
  have A := m_enda (nx := nx) (m := m) (g := nI g) (z := nI (z + 1)) (a := a) (p := p) (r := r) (st := upd st g (nI (z + 1))) (bt := bt1) t1 (nf 13) c1 ht1 (by rw [nf_eq]; exact ht1) hw1 G3 (fun u3 h3 => by
    rw [G2] at h3
    subst h3
    exact ⟨D6, fun _ => vp_in_nI (by omega) (by decide)⟩)
  have B := m_endb (nx := nx) (m := m) (g := nI g) (z := nI z) (a := a) (p := p) (r := r) (st := st) (bt := bt) t (nf 13) w ht (by rw [nf_eq]; exact ht) hw E3 (by rw [E2]; exact A.1)
  refine ⟨(pl, a, nI c2, nI t2, bg, bb, rf), z', nI c2, nI t2, bx2, st', bt2, ?_, B.1, ?_, D1, by omega, D3, D4⟩
  · dsimp only
    rw [x1, E1]
    dsimp only
    rw [x2, G1]
    dsimp only
    rw [D5]
  · rw [B.2, E2, A.2, g_M_endSegmenta_s]
    refine (if_pos (show nI 0 ≤ 0 by decide)).trans ?_
    rw [G2]
    rcases D7 with ⟨d1, d2, d3⟩ | ⟨d1, d2, d3, d4, d5⟩
    · refine (if_pos (by rw [d1]; rfl)).trans ?_
      rw [d2, d3]
    · refine (if_neg (by rw [d1]; decide)).trans ?_
      dsimp only
      rw [d4] at d5 ⊢
      rw [d5]
