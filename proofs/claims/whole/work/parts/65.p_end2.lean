/-! pure part 6: segments end; bits as they are; a bit is put -/
theorem bI_f0 : bI false = 0 := rfl
theorem bI_t0 : ¬ bI true = 0 := by decide
theorem q_gm1 {g : Nat} (hg0 : 0 < g) (hg1 : g < 1100) : (nI g - 1).toNatClampNeg = g - 1 ∧ vp_in (nI g - 1) 1100 := by
  rw [q_sub1 hg0]
  exact ⟨nI_clamp (by omega), vp_in_nI (by omega) (by decide)⟩
/-- what ending a segment gives -/
def ER (nx g ls z : Nat) (m : MS) (sx px : Nat → Int32) (X : EnS × RoS) (M : MS) : Prop :=
  ∃ e' z' a' c' t' p' r' bx' st' bt', f_En_endSegment X = (e', (nI z', nI g, nI ls, bx', sx, px)) ∧ k_En_endSegment X ∧ f_M_endSegment nx M = Wm m (nI g) (nI z') a' c' t' p' r' st' bt' ∧ k_M_endSegment nx M ∧ ls ≤ z' ∧ z' ≤ z + 2 ∧ BR z' bx' bt' ∧ SR g ls z' sx st'
theorem endC_both {nx g ls z a c t : Nat} {p r bg bb rf : Int32} {m : MS} {sx px bx st bt : Nat → Int32} (hg0 : 0 < g) (hg1 : g < 1100) (hs : sx (g - 1) = nI ls) (hz : z < 41998) (hC : CI ls z a c t) (ha : 32768 ≤ a) (hB : BR z bx bt) (hS : SR g ls z sx st) (hr : m.2.2.2.2.1 (g - 1) = 0) :
    ER nx g ls z m sx px ((false, nI a, nI c, nI t, bg, bb, rf), (nI z, nI g, nI ls, bx, sx, px)) (Wm m (nI g) (nI z) (nI a) (nI c) (nI t) p r st bt) := by
  have hcc := hC.c
  obtain ⟨hl, ht1, ht2, ha0, ha1, hJ, hJ2⟩ := hC
  have xd : nI c + nI a = nI (c + a) := nI_add _ _
  have xo : nI c ||| 65535 = nI (c - c % 65536 + 65535) := q_or16 (by omega)
  have mo : nI c - irem (nI c) 65536 + 65535 = nI (c - c % 65536 + 65535) := by
    rw [q_r16 (by omega), pk_sub (by omega)]; exact nI_add _ 65535
  obtain ⟨eg, vg⟩ := q_gm1 hg0 hg1
  have hraw : m.2.2.2.2.1 (nI g - 1).toNatClampNeg = 0 := by rw [eg, hr]
  have key : ∀ w, w < c + a → w * 2 ^ t < 2 ^ 31 ∧ (z = ls → w * 2 ^ t < 2 ^ 27) := by
    intro w hw
    have h1 : w * 2 ^ t < (c + a) * 2 ^ t := Nat.mul_lt_mul_of_pos_right hw (Nat.two_pow_pos t)
    exact ⟨by omega, fun q => by have := hJ q; omega⟩
  by_cases h : c - c % 65536 + 65535 < c + a
  · have e : nI (c - c % 65536 + 65535) < nI (c + a) := nI_lt h (by omega)
    obtain ⟨k1, k2⟩ := key _ h
    obtain ⟨e', z', c', t', bx', st', bt', F1, F2, F3, F4, F5, F6, F7⟩ := flush_tail (nx := nx) (m := m) (pl := false) (a := nI a) (p := p) (r := r) (bg := bg) (bb := bb) (rf := rf) (px := px) hg0 hg1 hs hz hl (show t < 13 by omega) k1 k2 hB hS
    refine ⟨e', z', nI a, c', t', p, r, bx', st', bt', ?_, br_t bI_f0 (fun _ _ _ _ => trivial), ?_, ⟨vg, br_t hraw ?_⟩, F4, F5, F6, F7⟩
    · rw [f_En_endSegment_s]
      refine (if_pos bI_f0).trans ?_
      rw [f_En_flush_s]
      dsimp only
      rw [xd, xo, if_pos e]
      exact F1
    · rw [f_M_endSegment_s]
      refine (if_pos hraw).trans ?_
      dsimp only
      rw [xd, mo, if_pos e]
      exact F3
    · intro x3 h3 x4 h4
      have h3 := h3.trans xd
      have h4 := h4.trans mo
      subst h3 h4
      exact br_t e F2
  · have e : ¬ nI (c - c % 65536 + 65535) < nI (c + a) := nI_nlt (by omega) (by omega)
    have x8 : nI (c - c % 65536 + 65535) - 32768 = nI (c - c % 65536 + 65535 - 32768) := pk_sub (b := 32768) (by omega)
    obtain ⟨k1, k2⟩ := key (c - c % 65536 + 65535 - 32768) (by omega)
    obtain ⟨e', z', c', t', bx', st', bt', F1, F2, F3, F4, F5, F6, F7⟩ := flush_tail (nx := nx) (m := m) (pl := false) (a := nI a) (p := p) (r := r) (bg := bg) (bb := bb) (rf := rf) (px := px) hg0 hg1 hs hz hl (show t < 13 by omega) k1 k2 hB hS
    refine ⟨e', z', nI a, c', t', p, r, bx', st', bt', ?_, br_t bI_f0 (fun _ _ _ _ => trivial), ?_, ⟨vg, br_t hraw ?_⟩, F4, F5, F6, F7⟩
    · rw [f_En_endSegment_s]
      refine (if_pos bI_f0).trans ?_
      rw [f_En_flush_s]
      dsimp only
      rw [xd, xo, if_neg e, x8]
      exact F1
    · rw [f_M_endSegment_s]
      refine (if_pos hraw).trans ?_
      dsimp only
      rw [xd, mo, if_neg e, x8]
      exact F3
    · intro x3 h3 x4 h4
      have h3 := h3.trans xd
      have h4 := h4.trans mo
      subst h3 h4
      refine br_f e (fun x6 h6 => ?_)
      have h6 := h6.trans x8
      subst h6
      exact F2
/-- bits as they are: the byte that is begun has k of R bits, pt -/
def PI (ls z pt k R : Nat) (bt : Nat → Int32) : Prop := ls ≤ z ∧ k < R ∧ pt < 2 ^ k ∧ ((R = 7 ∧ ls < z ∧ bt (z - 1) = 255) ∨ (R = 8 ∧ ¬ (ls < z ∧ bt (z - 1) = 255)))
theorem PI.R {ls z pt k R : Nat} {bt : Nat → Int32} (h : PI ls z pt k R bt) : R = 7 ∨ R = 8 := by
  rcases h.2.2.2 with h | h <;> omega
theorem plain_both {nx g ls z pt k R b : Nat} {pl : Bool} {ea ec et a c t : Int32} {m : MS} {sx px bx st bt : Nat → Int32} (hg0 : 0 < g) (hg1 : g < 1100) (hs : sx (g - 1) = nI ls) (hz : z < 41999) (hb : b < 2) (hI : PI ls z pt k R bt) (hB : BR z bx bt) (hS : SR g ls z sx st) :
    ∃ z' pt' k' R' bx' st' bt', f_En_putPlain (nI b) ((pl, ea, ec, et, nI pt, nI k, nI R), (nI z, nI g, nI ls, bx, sx, px)) = ((pl, ea, ec, et, nI pt', nI k', nI R'), (nI z', nI g, nI ls, bx', sx, px)) ∧
      f_M_writeRaw nx (nI b) (Wm m (nI g) (nI z) a c t (nI pt) (nI (R - k)) st bt) = Wm m (nI g) (nI z') a c t (nI pt') (nI (R' - k')) st' bt' ∧
      k_M_writeRaw nx (nI b) (Wm m (nI g) (nI z) a c t (nI pt) (nI (R - k)) st bt) ∧ PI ls z' pt' k' R' bt' ∧ BR z' bx' bt' ∧ SR g ls z' sx st' ∧
      ((z' = z ∧ k' = k + 1) ∨ (z' = z + 1 ∧ k' = 0 ∧ k + 1 = R)) := by
  have hR := hI.R
  obtain ⟨hl, hk, hp, hf⟩ := hI
  have hp8 : pt < 128 := by
    have : (2 : Nat) ^ k ≤ 2 ^ 7 := Nat.pow_le_pow_right (by decide) (by omega)
    omega
  have x1 : nI pt <<< (1 &&& 31 : Int32) ||| nI b = nI (2 * pt + b) := by
    rw [q_shl1 (by omega), q_or (by omega) (by omega), n_or1 hb]
  have m1 : 2 * nI pt + nI b = nI (2 * pt + b) := by rw [q_2x, nI_add]
  have x2 : nI k + 1 = nI (k + 1) := nI_1 k
  have m2 : nI (R - k) - 1 = nI (R - k - 1) := q_sub1 (by omega)
  have hp' : 2 * pt + b < 2 ^ (k + 1) := by rw [Nat.pow_succ]; omega
  by_cases h : k + 1 < R
  · have e : nI (k + 1) < nI R := nI_lt h (by omega)
    have e0 : ¬ nI (R - k - 1) = 0 := nI_ne0 (by omega) (by omega)
    refine ⟨z, 2 * pt + b, k + 1, R, bx, st, bt, ?_, ?_, ?_, ⟨hl, h, hp', hf⟩, hB, hS, Or.inl ⟨rfl, rfl⟩⟩
    · rw [f_En_putPlain_s]
      dsimp only
      rw [x1, x2, if_pos e]
    · rw [f_M_writeRaw_s]
      dsimp only
      rw [m1, m2, if_neg e0, show R - k - 1 = R - (k + 1) by omega]
    · intro y1 h1 y2 h2
      have h2 := h2.trans m2
      subst h2
      exact br_f e0 trivial
  · have hkR : k + 1 = R := by omega
    have e : ¬ nI (k + 1) < nI R := nI_nlt (by omega) (by omega)
    have e0 : R - k - 1 = 0 := by omega
    rw [e0] at m2
    have hp256 : 2 * pt + b < 256 := by omega
    have hP := m_put (nx := nx) (m := m) (a := a) (c := c) (t := t) (p := nI (2 * pt + b)) (r := nI 0) (st := st) (bt := bt) (b := 2 * pt + b) hg1 (show z < 120000 by omega) (by omega)
    rw [Nat.mod_eq_of_lt hp256] at hP
    have hF := m_full (nx := nx) (m := m) (a := a) (c := c) (t := t) (p := nI 0) (r := nI 0) (st := upd st g (nI (z + 1))) (bt := upd bt z (nI (2 * pt + b))) hg0 hg1 (show z + 1 < 120000 by omega) (hS.up.ls hg0 hs) (by omega)
    rw [Nat.add_sub_cancel, q_upd] at hF
    have hxa := ro_add (g := g) (ls := ls) (bx := bx) (sx := sx) (px := px) (show z < 42000 by omega) (show 2 * pt + b < 2 ^ 32 by omega)
    rw [Nat.mod_eq_of_lt hp256] at hxa
    have kk : k_M_writeRaw nx (nI b) (Wm m (nI g) (nI z) a c t (nI pt) (nI (R - k)) st bt) := by
      intro y1 h1 y2 h2
      have h1 := h1.trans m1
      have h2 := h2.trans m2
      subst h1 h2
      refine br_t (by decide) ⟨hP.1, fun u5 h5 => ?_⟩
      have h5 := h5.trans hP.2
      subst h5
      exact ⟨hF.1, fun _ _ => br_c (fun _ => trivial) (fun _ => trivial)⟩
    by_cases h255 : 2 * pt + b = 255
    · refine ⟨z + 1, 0, 0, 7, upd bx z (nI (2 * pt + b)), upd st g (nI (z + 1)), upd bt z (nI (2 * pt + b)), ?_, ?_, kk, ⟨by omega, by decide, by decide, Or.inl ⟨rfl, by omega, ?_⟩⟩, hB.add hp256, hS.up, Or.inr ⟨rfl, rfl, hkR⟩⟩
      · rw [f_En_putPlain_s]
        dsimp only
        rw [x1, x2, if_neg e, hxa, if_pos (by rw [h255]; rfl)]
        rfl
      · rw [f_M_writeRaw_s]
        dsimp only
        rw [m1, m2, if_pos (by decide), hP.2]
        refine (if_neg ?_).trans rfl
        refine fun q => (bI_dec.mp ((congrArg bI hF.2).symm.trans q)) ⟨by omega, ?_⟩
        rw [h255]; rfl
      · rw [Nat.add_sub_cancel, q_upd, h255]; rfl
    · have n255 : ¬ nI (2 * pt + b) = 255 := fun q => h255 ((nI_eq (b := 255) (by omega) (by decide)).mp q)
      refine ⟨z + 1, 0, 0, 8, upd bx z (nI (2 * pt + b)), upd st g (nI (z + 1)), upd bt z (nI (2 * pt + b)), ?_, ?_, kk, ⟨by omega, by decide, by decide, Or.inr ⟨rfl, ?_⟩⟩, hB.add hp256, hS.up, Or.inr ⟨rfl, rfl, hkR⟩⟩
      · rw [f_En_putPlain_s]
        dsimp only
        rw [x1, x2, if_neg e, hxa, if_neg n255]
        rfl
      · rw [f_M_writeRaw_s]
        dsimp only
        rw [m1, m2, if_pos (by decide), hP.2]
        refine (if_pos ?_).trans rfl
        exact (congrArg bI hF.2).trans (bI_dec.mpr (fun q => n255 q.2))
      · rw [Nat.add_sub_cancel, q_upd]
        exact fun q => n255 q.2
theorem q_bit : ∀ j, j < 9 → (nI j &&& 1 = nI (j % 2) ∧ 1 - nI (j % 2) = nI ((j + 1) % 2)) := by decide +kernel
/-- the begun byte is filled, and the last one goes if it is full -/
theorem fill_both {nx g ls : Nat} {pl : Bool} {ea ec et a c t : Int32} {m : MS} {sx px : Nat → Int32} (hg0 : 0 < g) (hg1 : g < 1100) (hs : sx (g - 1) = nI ls) (B : Nat) (hB8 : B < 41999) :
    ∀ (n j z pt k R : Nat) (bx st bt : Nat → Int32), j + n = 9 → ((k = 0 ∧ j ≤ 8) ∨ j < k) → PI ls z pt k R bt → BR z bx bt → SR g ls z sx st → (0 < k → z + 1 ≤ B) → z ≤ B →
    ∃ e' z' z1 a' c' t' p' r' bx' st' bt', g_En_fillByte n ((pl, ea, ec, et, nI pt, nI k, nI R), (nI z, nI g, nI ls, bx, sx, px)) (nI j) = (e', (nI z1, nI g, nI ls, bx', sx, px)) ∧ kl_En_fillByte n ((pl, ea, ec, et, nI pt, nI k, nI R), (nI z, nI g, nI ls, bx, sx, px)) (nI j) ∧
      f_Ro_dropLastIfFull (nI z1, nI g, nI ls, bx', sx, px) = (nI z', nI g, nI ls, bx', sx, px) ∧
      g_M_endSegmentr nx n (Wm m (nI g) (nI z) a c t (nI pt) (nI (R - k)) st bt) (nI (j % 2)) = Wm m (nI g) (nI z') a' c' t' p' r' st' bt' ∧ kl_M_endSegmentr nx n (Wm m (nI g) (nI z) a c t (nI pt) (nI (R - k)) st bt) (nI (j % 2)) ∧
      ls ≤ z' ∧ z' ≤ B ∧ BR z' bx' bt' ∧ SR g ls z' sx st' := by
  intro n
  induction n with
  | zero =>
    intro j z pt k R bx st bt hj hk hI
    have := hI.R
    have := hI.2.1
    omega
  | succ n ih =>
    intro j z pt k R bx st bt hj hk hI hB hS hz1 hz
    have hR := hI.R
    have hkR := hI.2.1
    obtain ⟨hl, -, hpt, hf⟩ := hI
    have hF := m_full (nx := nx) (m := m) (a := a) (c := c) (t := t) (p := nI pt) (r := nI (R - k)) (st := st) (bt := bt) hg0 hg1 (show z < 120000 by omega) (hS.ls hg0 hs) hl
    rw [g_En_fillByte_s, kl_En_fillByte_s, g_M_endSegmentr_s, kl_M_endSegmentr_s]
    by_cases h0 : k = 0
    · subst h0
      obtain ⟨z', st', D1, D2, D3, D4, D5, D6, D7⟩ := drop_both (nx := nx) (m := m) (a := a) (c := c) (t := t) (p := nI pt) (r := nI (R - 0)) (px := px) hg0 hg1 hs (show z < 42000 by omega) hl hB hS
      refine ⟨(pl, ea, ec, et, nI pt, nI 0, nI R), z', z, a, c, t, nI pt, nI (R - 0), bx, st', bt, ?_, ?_, D5, ?_, ?_, D1, by omega, D3, D4⟩
      · by_cases h8 : (8 : Int32) ≤ nI j
        · exact if_pos h8
        · exact (if_neg h8).trans (if_pos (show nI 0 ≤ 0 by decide))
      · exact br_c (fun _ => trivial) (fun _ => br_t (show nI 0 ≤ 0 by decide) trivial)
      · rcases D7 with ⟨d1, d2, d3⟩ | ⟨d1, d2, d3, d4, d5⟩
        · have hR8 : R = 8 := by
            rcases hf with ⟨-, q⟩ | q
            · rw [hF.2] at d1; exact absurd q (of_decide_eq_false d1)
            · exact q.1
          subst hR8
          refine (if_pos (by rw [d1]; rfl)).trans ((if_pos (show (8 : Int32) ≤ nI (8 - 0) by decide)).trans ?_)
          rw [d2, d3]
        · have hR7 : R = 7 := by
            rcases hf with ⟨q, -⟩ | ⟨-, q⟩
            · exact q
            · rw [hF.2] at d1; exact absurd (of_decide_eq_true d1) q
          subst hR7
          refine (if_neg (by rw [d1]; decide)).trans ((if_pos (show (7 : Int32) ≤ nI (7 - 0) by decide)).trans ?_)
          dsimp only
          rw [d4] at d5 ⊢
          rw [d5]
      · refine ⟨D6, fun b2 h2 => br_c (fun q => ?_) (fun q => ?_)⟩
        · rcases D7 with ⟨d1, d2, d3⟩ | ⟨d1, d2, d3, d4, d5⟩
          · have hR8 : R = 8 := by
              rcases hf with ⟨-, q⟩ | q
              · rw [hF.2] at d1; exact absurd q (of_decide_eq_false d1)
              · exact q.1
            subst hR8
            exact br_t (show (8 : Int32) ≤ nI (8 - 0) by decide) ⟨D6, trivial⟩
          · rw [h2, d1] at q; exact absurd q (by decide)
        · rcases D7 with ⟨d1, d2, d3⟩ | ⟨d1, d2, d3, d4, d5⟩
          · rw [h2, d1] at q; exact absurd rfl q
          · have hR7 : R = 7 := by
              rcases hf with ⟨q, -⟩ | ⟨-, q⟩
              · exact q
              · rw [hF.2] at d1; exact absurd (of_decide_eq_true d1) q
            subst hR7
            exact br_t (show (7 : Int32) ≤ nI (7 - 0) by decide) ⟨D6, fun _ _ => ⟨vp_in_nI hg1 (by decide), trivial⟩⟩
    · have hj8 : j < 8 := by omega
      obtain ⟨qb1, qb2⟩ := q_bit j (by omega)
      obtain ⟨z2, pt2, k2, R2, bx2, st2, bt2, P1, P2, P3, P4, P5, P6, P7⟩ := plain_both (nx := nx) (pl := pl) (ea := ea) (ec := ec) (et := et) (a := a) (c := c) (t := t) (m := m) (px := px) hg0 hg1 hs (show z < 41999 by omega) (show j % 2 < 2 by omega) ⟨hl, hkR, hpt, hf⟩ hB hS
      obtain ⟨e', z', z1, a', c', t', p', r', bx', st', bt', F1, F2, F3, F4, F5, F6⟩ := ih (j + 1) z2 pt2 k2 R2 bx2 st2 bt2 (by omega) (by omega) P4 P5 P6 (by omega) (by omega)
      have e8 : ¬ (8 : Int32) ≤ nI j := nI_ge (b := 8) hj8 (by decide)
      have ek : ¬ nI k ≤ 0 := nI_nle (by omega) (by omega)
      have er8 : R = 8 → ¬ (8 : Int32) ≤ nI (R - k) := fun _ => nI_ge (b := 8) (by omega) (by decide)
      have er7 : R = 7 → ¬ (7 : Int32) ≤ nI (R - k) := fun _ => nI_ge (b := 7) (by omega) (by decide)
      refine ⟨e', z', z1, a', c', t', p', r', bx', st', bt', ?_, ?_, F3, ?_, ?_, F6⟩
      · refine (if_neg e8).trans ((if_neg ek).trans ?_)
        dsimp only
        rw [qb1, P1, nI_1]
        exact F1
      · refine br_f e8 (br_f ek ?_)
        intro u3 h3 x4 h4
        rw [qb1, P1] at h3
        rw [nI_1] at h4
        subst h3 h4
        exact F2
      · by_cases hfull : ls < z ∧ bt (z - 1) = 255
        · have hR7 : R = 7 := by
            rcases hf with q | q
            · exact q.1
            · exact absurd hfull q.2
          refine (if_neg (by rw [hF.2, decide_eq_true hfull]; decide)).trans ((if_neg (er7 hR7)).trans ?_)
          dsimp only
          rw [P2, qb2]
          exact F4
        · have hR8 : R = 8 := by
            rcases hf with q | q
            · exact absurd q.2 hfull
            · exact q.1
          refine (if_pos (by rw [hF.2, decide_eq_false hfull]; rfl)).trans ((if_neg (er8 hR8)).trans ?_)
          dsimp only
          rw [P2, qb2]
          exact F4
      · refine ⟨hF.1, fun b2 h2 => br_c (fun q => ?_) (fun q => ?_)⟩
        · rw [h2, hF.2, bI_dec] at q
          have hR8 : R = 8 := by
            rcases hf with z | z
            · exact absurd z.2 q
            · exact z.1
          refine br_f (er8 hR8) ⟨P3, ?_⟩
          intro u8 h8 x9 h9
          have h8 := h8.trans P2
          have h9 := h9.trans qb2
          subst h8 h9
          exact F5
        · rw [h2, hF.2, bI_dec] at q
          have hR7 : R = 7 := by
            rcases hf with z | z
            · exact z.1
            · exact absurd z.2 q
          refine br_f (er7 hR7) ⟨P3, ?_⟩
          intro u8 h8 x9 h9
          have h8 := h8.trans P2
          have h9 := h9.trans qb2
          subst h8 h9
          exact F5
theorem endP_both {nx g ls z pt k R : Nat} {ea ec et a c t : Int32} {m : MS} {sx px bx st bt : Nat → Int32} (hg0 : 0 < g) (hg1 : g < 1100) (hs : sx (g - 1) = nI ls) (hz : z < 41998) (hI : PI ls z pt k R bt) (hB : BR z bx bt) (hS : SR g ls z sx st) (hr : m.2.2.2.2.1 (g - 1) = 1) :
    ER nx g ls z m sx px ((true, ea, ec, et, nI pt, nI k, nI R), (nI z, nI g, nI ls, bx, sx, px)) (Wm m (nI g) (nI z) a c t (nI pt) (nI (R - k)) st bt) := by
  obtain ⟨eg, vg⟩ := q_gm1 hg0 hg1
  have hraw : ¬ m.2.2.2.2.1 (nI g - 1).toNatClampNeg = 0 := by rw [eg, hr]; decide
  obtain ⟨e', z', z1, a', c', t', p', r', bx', st', bt', F1, F2, F3, F4, F5, F6, F7, F8, F9⟩ := fill_both (nx := nx) (pl := true) (ea := ea) (ec := ec) (et := et) (a := a) (c := c) (t := t) (m := m) (px := px) hg0 hg1 hs (z + 1) (by omega) 9 0 z pt k R bx st bt rfl (by omega) hI hB hS (by omega) (by omega)
  have F1' : f_En_fillByte ((true, ea, ec, et, nI pt, nI k, nI R), (nI z, nI g, nI ls, bx, sx, px)) = (e', (nI z1, nI g, nI ls, bx', sx, px)) := by rw [f_En_fillByte_s, nf_eq]; exact F1
  refine ⟨e', z', a', c', t', p', r', bx', st', bt', ?_, br_f bI_t0 ⟨?_, fun _ _ _ _ => trivial⟩, ?_, ⟨vg, br_f hraw ?_⟩, F6, by omega, F8, F9⟩
  · rw [f_En_endSegment_s]
    refine (if_neg bI_t0).trans ?_
    rw [F1']
    dsimp only
    rw [F3]
  · unfold k_En_fillByte; rw [nf_eq]; exact F2
  · rw [f_M_endSegment_s]
    refine (if_neg hraw).trans ?_
    rw [nf_eq]; exact F4
  · rw [nf_eq]; exact F5
