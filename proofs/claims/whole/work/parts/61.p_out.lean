/-! pure part 2: a byte is put out -/
theorem bI_dec {P : Prop} [Decidable P] : (bI (decide P) = 0) ↔ ¬ P := by
  by_cases h : P <;> simp [h, bI]
theorem q_div {a : Nat} (d : Nat) (ha : a < 2 ^ 31) (h0 : 0 < d) (hd : d < 2 ^ 31) : nI a / nI d = nI (a / d) := pk_div ha h0 hd
theorem q_19 {c : Nat} (h : c < 2 ^ 31) : nI c / 524288 = nI (c / 524288) := pk_div (d := 524288) h (by decide) (by decide)
theorem q_20 {c : Nat} (h : c < 2 ^ 31) : nI c / 1048576 = nI (c / 1048576) := pk_div (d := 1048576) h (by decide) (by decide)
theorem q_27 {c : Nat} (h : c < 2 ^ 31) : nI c / 134217728 = nI (c / 134217728) := pk_div (d := 134217728) h (by decide) (by decide)
theorem q_r19 {c : Nat} (h : c < 2 ^ 31) : irem (nI c) 524288 = nI (c % 524288) := pk_rem (d := 524288) h (by decide) (by decide)
theorem q_r20 {c : Nat} (h : c < 2 ^ 31) : irem (nI c) 1048576 = nI (c % 1048576) := pk_rem (d := 1048576) h (by decide) (by decide)
theorem q_r27 {c : Nat} (h : c < 2 ^ 31) : irem (nI c) 134217728 = nI (c % 134217728) := pk_rem (d := 134217728) h (by decide) (by decide)
theorem q_a19 {c : Nat} (h : c < 2 ^ 31) : nI c &&& 524287 = nI (c % 524288) := pk_andN (by omega) 19 (by decide)
theorem q_a20 {c : Nat} (h : c < 2 ^ 31) : nI c &&& 1048575 = nI (c % 1048576) := pk_andN (by omega) 20 (by decide)
theorem q_a27 {c : Nat} (h : c < 2 ^ 31) : nI c &&& 134217727 = nI (c % 134217728) := pk_andN (by omega) 27 (by decide)
theorem q_u19 {c : Nat} (h : c < 2 ^ 31) : ushr (nI c) 19 = nI (c / 524288) := pk_ushrN (by omega) 19 19 (by decide)
theorem q_u20 {c : Nat} (h : c < 2 ^ 31) : ushr (nI c) 20 = nI (c / 1048576) := pk_ushrN (by omega) 20 20 (by decide)
theorem m1_ne (n : Nat) (h : n < 2 ^ 31) : ¬ (-1 : Int32) = nI n := fun q => by
  have := congrArg Int32.toInt q
  rw [nI_toInt h, show (-1 : Int32).toInt = -1 from by decide] at this
  omega
/-- the four ways out of the class's putOut -/
theorem x_out_r {e : EnS} {r : RoS} {v : Int32} (hl : f_Ro_last r = v) (h : v = -1 ∨ (∃ b, b < 255 ∧ v = nI b ∧ e.2.2.1 < 134217728)) :
    f_En_putOut (e, r) = ((e.1, e.2.1, e.2.2.1 &&& 524287, 8, e.2.2.2.2.1, e.2.2.2.2.2.1, e.2.2.2.2.2.2), f_Ro_add (ushr e.2.2.1 19) r) := by
  rw [f_En_putOut_s]
  dsimp only
  rw [hl]
  rcases h with rfl | ⟨b, hb, rfl, hc⟩
  · rw [if_pos (by decide), if_neg (by decide)]
  · rw [if_neg (nI_pos (by omega)), if_neg (by rw [q_255, nI_leI (by omega) (by omega)]; omega), if_pos hc, if_neg (by rw [q_255, nI_eq (by omega) (by omega)]; omega)]
theorem x_out_f {e : EnS} {r : RoS} (hl : f_Ro_last r = 255) :
    f_En_putOut (e, r) = ((e.1, e.2.1, e.2.2.1 &&& 1048575, 7, e.2.2.2.2.1, e.2.2.2.2.2.1, e.2.2.2.2.2.2), f_Ro_add (ushr e.2.2.1 20) r) := by
  rw [f_En_putOut_s]
  dsimp only
  rw [hl, if_neg (by decide), if_pos (by decide), if_pos rfl]
theorem x_out_c {e : EnS} {r : RoS} {b : Nat} (hl : f_Ro_last r = nI b) (hb : b < 254) (hc : ¬ e.2.2.1 < 134217728) :
    f_En_putOut (e, r) = ((e.1, e.2.1, (e.2.2.1 &&& 134217727) &&& 524287, 8, e.2.2.2.2.1, e.2.2.2.2.2.1, e.2.2.2.2.2.2), f_Ro_add (ushr (e.2.2.1 &&& 134217727) 19) (f_Ro_raiseLast r)) := by
  rw [f_En_putOut_s]
  dsimp only
  rw [hl, if_neg (nI_pos (by omega)), if_neg (by rw [q_255, nI_leI (by omega) (by omega)]; omega), if_neg hc, nI_1, if_neg (by rw [q_255, nI_eq (by omega) (by omega)]; omega)]
theorem x_out_cf {e : EnS} {r : RoS} (hl : f_Ro_last r = nI 254) (hc : ¬ e.2.2.1 < 134217728) :
    f_En_putOut (e, r) = ((e.1, e.2.1, (e.2.2.1 &&& 134217727) &&& 1048575, 7, e.2.2.2.2.1, e.2.2.2.2.2.1, e.2.2.2.2.2.2), f_Ro_add (ushr (e.2.2.1 &&& 134217727) 20) (f_Ro_raiseLast r)) := by
  rw [f_En_putOut_s]
  dsimp only
  rw [hl, if_neg (by decide), if_neg (by decide), if_neg hc, nI_1, if_pos (by decide)]
section
variable {nx g z c : Nat} {a t p r : Int32} {m : MS} {st bt : Nat → Int32}
theorem m_out_r (hg1 : g < 1100) (hz : z < 120000) (hc : c < 2 ^ 27) (hk : k_M_isFull nx (Wm m (nI g) (nI z) a (nI c) t p r st bt)) (hf : f_M_isFull nx (Wm m (nI g) (nI z) a (nI c) t p r st bt) = false) :
    k_M_putOut nx (Wm m (nI g) (nI z) a (nI c) t p r st bt) ∧ f_M_putOut nx (Wm m (nI g) (nI z) a (nI c) t p r st bt) = Wm m (nI g) (nI (z + 1)) a (nI (c % 524288)) 8 p r (upd st g (nI (z + 1))) (upd bt z (nI (c / 524288 % 256))) := by
  have hp := m_put (nx := nx) (m := m) (a := a) (c := nI c) (t := t) (p := p) (r := r) (st := st) (bt := bt) (b := c / 524288) hg1 hz (by omega)
  have e0 : (Wm m (nI g) (nI z) a (nI c) t p r st bt).1.2.2.2.2.2.2.1 / 524288 = nI (c / 524288) := q_19 (by omega)
  have e1 : (Wm m (nI g) (nI z) a (nI c) t p r st bt).1.2.2.2.2.2.2.1 / 134217728 ≤ 0 := by
    show nI c / 134217728 ≤ 0
    rw [q_27 (by omega), Nat.div_eq_of_lt (by omega)]; decide
  constructor
  · refine ⟨hk, fun b2 hb2 => ?_⟩
    rw [hf] at hb2
    subst hb2
    refine br_t rfl (br_t e1 ?_)
    rw [e0]
    exact ⟨hk, hp.1, fun _ _ _ _ => trivial⟩
  · rw [f_M_putOut_s, hf]
    refine (if_pos rfl).trans ((if_pos e1).trans ?_)
    rw [e0, hp.2]
    dsimp only
    rw [q_r19 (by omega)]
theorem m_out_f (hg1 : g < 1100) (hz : z < 120000) (hc : c < 2 ^ 31) (hk : k_M_isFull nx (Wm m (nI g) (nI z) a (nI c) t p r st bt)) (hf : f_M_isFull nx (Wm m (nI g) (nI z) a (nI c) t p r st bt) = true) :
    k_M_putOut nx (Wm m (nI g) (nI z) a (nI c) t p r st bt) ∧ f_M_putOut nx (Wm m (nI g) (nI z) a (nI c) t p r st bt) = Wm m (nI g) (nI (z + 1)) a (nI (c % 1048576)) 7 p r (upd st g (nI (z + 1))) (upd bt z (nI (c / 1048576 % 256))) := by
  have hp := m_put (nx := nx) (m := m) (a := a) (c := nI c) (t := t) (p := p) (r := r) (st := st) (bt := bt) (b := c / 1048576) hg1 hz (by omega)
  have e0 : (Wm m (nI g) (nI z) a (nI c) t p r st bt).1.2.2.2.2.2.2.1 / 1048576 = nI (c / 1048576) := q_20 hc
  constructor
  · refine ⟨hk, fun b2 hb2 => ?_⟩
    rw [hf] at hb2
    subst hb2
    refine br_f (by decide) ?_
    rw [e0]
    exact ⟨hk, hp.1, fun _ _ _ _ => trivial⟩
  · rw [f_M_putOut_s, hf]
    refine (if_neg (by decide)).trans ?_
    rw [e0, hp.2]
    dsimp only
    rw [q_r20 hc]
theorem m_out_c {b ls : Nat} (hg0 : 0 < g) (hg1 : g < 1100) (hz : z < 120000) (hc : c < 2 ^ 31) (hc2 : ¬ c < 2 ^ 27) (hs : st (g - 1) = nI ls) (hl : ls < z) (hb : bt (z - 1) = nI b) (hb2 : b < 255) :
    k_M_putOut nx (Wm m (nI g) (nI z) a (nI c) t p r st bt) ∧ f_M_putOut nx (Wm m (nI g) (nI z) a (nI c) t p r st bt) =
      if b = 254 then Wm m (nI g) (nI (z + 1)) a (nI (c % 134217728 % 1048576)) 7 p r (upd st g (nI (z + 1))) (upd (upd bt (z - 1) (nI (b + 1))) z (nI (c % 134217728 / 1048576 % 256)))
      else Wm m (nI g) (nI (z + 1)) a (nI (c % 524288)) 8 p r (upd st g (nI (z + 1))) (upd (upd bt (z - 1) (nI (b + 1))) z (nI (c / 524288 % 256))) := by
  have hF := m_full (nx := nx) (m := m) (a := a) (c := nI c) (t := t) (p := p) (r := r) (st := st) (bt := bt) hg0 hg1 hz hs (by omega)
  have hf : f_M_isFull nx (Wm m (nI g) (nI z) a (nI c) t p r st bt) = false := by
    rw [hF.2]
    refine decide_eq_false (fun q => ?_)
    have := q.2
    rw [hb, q_255, nI_eq (by omega) (by omega)] at this
    omega
  have hF2 := m_full (nx := nx) (m := m) (a := a) (c := nI c) (t := t) (p := p) (r := r) (st := st) (bt := upd bt (z - 1) (nI (b + 1))) hg0 hg1 hz hs (by omega)
  have hF3 := m_full (nx := nx) (m := m) (a := a) (c := nI (c % 134217728)) (t := t) (p := p) (r := r) (st := st) (bt := upd bt (z - 1) (nI (b + 1))) hg0 hg1 hz hs (by omega)
  rw [q_upd] at hF2 hF3
  have e1 : ¬ (Wm m (nI g) (nI z) a (nI c) t p r st bt).1.2.2.2.2.2.2.1 / 134217728 ≤ 0 := by
    show ¬ nI c / 134217728 ≤ 0
    rw [q_27 hc]; exact nI_nle (by omega) (by omega)
  have ez : (nI z - 1).toNatClampNeg = z - 1 := by rw [q_sub1 (by omega), nI_clamp (by omega)]
  have ev : vp_in (nI z - 1) 120000 := by rw [q_sub1 (by omega)]; exact vp_in_nI (by omega) (by omega)
  have eb : bt (nI z - 1).toNatClampNeg + 1 = nI (b + 1) := by rw [ez, hb, nI_1]
  have e0 : nI c / 524288 = nI (c / 524288) := q_19 hc
  have e2 : nI (c % 134217728) / 1048576 = nI (c % 134217728 / 1048576) := q_20 (by omega)
  have e3 : irem (nI c) 134217728 = nI (c % 134217728) := q_r27 hc
  by_cases h4 : b = 254
  · rw [if_pos h4]
    subst h4
    have hT2 : f_M_isFull nx (Wm m (nI g) (nI z) a (nI c) t p r st (upd bt (z - 1) (nI (254 + 1)))) = true := hF2.2.trans (decide_eq_true ⟨hl, rfl⟩)
    have hT3 : f_M_isFull nx (Wm m (nI g) (nI z) a (nI (c % 134217728)) t p r st (upd bt (z - 1) (nI (254 + 1)))) = true := hF3.2.trans (decide_eq_true ⟨hl, rfl⟩)
    have hp := m_put (nx := nx) (m := m) (a := a) (c := nI (c % 134217728)) (t := t) (p := p) (r := r) (st := st) (bt := upd bt (z - 1) (nI (254 + 1))) (b := c % 134217728 / 1048576) hg1 hz (by omega)
    constructor
    · refine ⟨hF.1, fun b2 hb2 => ?_⟩
      rw [hf] at hb2
      subst hb2
      refine br_t rfl (br_f e1 ⟨ev, fun x16 hx16 => ⟨ev, ?_⟩⟩)
      have hx16 : x16 = nI (254 + 1) := hx16.trans eb
      subst hx16
      dsimp only
      rw [ez]
      refine ⟨hF2.1, fun b20 hb20 => ?_⟩
      rw [hT2] at hb20
      subst hb20
      refine br_f (by decide) (fun x27 hx27 => ?_)
      rw [e3] at hx27
      subst hx27
      refine ⟨hF3.1, fun b29 hb29 => ?_⟩
      rw [hT3] at hb29
      subst hb29
      rw [e2]
      exact br_f (by decide) ⟨hp.1, fun _ _ _ _ => trivial⟩
    · rw [f_M_putOut_s, hf]
      refine (if_pos rfl).trans ((if_neg e1).trans ?_)
      have hT2' : ¬ bI (f_M_isFull nx (Wm m (nI g) (nI z) a (nI c) t p r st (upd bt (nI z - 1).toNatClampNeg (bt (nI z - 1).toNatClampNeg + 1)))) = 0 := by
        rw [eb, ez, hT2]; decide
      have hT3' : ¬ bI (f_M_isFull nx (Wm m (nI g) (nI z) a (irem (nI c) 134217728) t p r st (upd bt (nI z - 1).toNatClampNeg (bt (nI z - 1).toNatClampNeg + 1)))) = 0 := by
        rw [eb, ez, e3, hT3]; decide
      refine (if_neg hT2').trans ((if_neg hT3').trans ?_)
      dsimp only
      rw [eb, ez, e3, e2, hp.2]
      dsimp only
      rw [q_r20 (by omega)]
  · rw [if_neg h4]
    have hne : ¬ nI (b + 1) = 255 := by rw [q_255, nI_eq (by omega) (by omega)]; omega
    have hT2 : f_M_isFull nx (Wm m (nI g) (nI z) a (nI c) t p r st (upd bt (z - 1) (nI (b + 1)))) = false := hF2.2.trans (decide_eq_false (fun q => hne q.2))
    have hp := m_put (nx := nx) (m := m) (a := a) (c := nI c) (t := t) (p := p) (r := r) (st := st) (bt := upd bt (z - 1) (nI (b + 1))) (b := c / 524288) hg1 hz (by omega)
    constructor
    · refine ⟨hF.1, fun b2 hb2 => ?_⟩
      rw [hf] at hb2
      subst hb2
      refine br_t rfl (br_f e1 ⟨ev, fun x16 hx16 => ⟨ev, ?_⟩⟩)
      have hx16 : x16 = nI (b + 1) := hx16.trans eb
      subst hx16
      dsimp only
      rw [ez]
      refine ⟨hF2.1, fun b20 hb20 => ?_⟩
      rw [hT2] at hb20
      subst hb20
      rw [e0]
      exact br_t rfl ⟨hF2.1, hp.1, fun _ _ _ _ => trivial⟩
    · rw [f_M_putOut_s, hf]
      refine (if_pos rfl).trans ((if_neg e1).trans ?_)
      have hT2' : bI (f_M_isFull nx (Wm m (nI g) (nI z) a (nI c) t p r st (upd bt (nI z - 1).toNatClampNeg (bt (nI z - 1).toNatClampNeg + 1)))) = 0 := by
        rw [eb, ez, hT2]; decide
      refine (if_pos hT2').trans ?_
      dsimp only
      rw [eb, ez, e0, hp.2]
      dsimp only
      rw [q_r19 hc]
end
/-- class and reference put out a byte alike -/
theorem out_both {nx g ls z c : Nat} {pl : Bool} {a tx t p r bg bb rf : Int32} {m : MS} {st bt bx sx px : Nat → Int32} (hg0 : 0 < g) (hg1 : g < 1100) (hz : z < 42000) (hl : ls ≤ z) (hs : st (g - 1) = nI ls) (hc : c < 2 ^ 31) (hc0 : z = ls → c < 2 ^ 27) (hB : BR z bx bt) :
    ∃ c' t' bx' bt', f_En_putOut ((pl, a, nI c, tx, bg, bb, rf), (nI z, nI g, nI ls, bx, sx, px)) = ((pl, a, nI c', nI t', bg, bb, rf), (nI (z + 1), nI g, nI ls, bx', sx, px)) ∧
      f_M_putOut nx (Wm m (nI g) (nI z) a (nI c) t p r st bt) = Wm m (nI g) (nI (z + 1)) a (nI c') (nI t') p r (upd st g (nI (z + 1))) bt' ∧
      k_M_putOut nx (Wm m (nI g) (nI z) a (nI c) t p r st bt) ∧ BR (z + 1) bx' bt' ∧ ((t' = 7 ∧ c' < 1048576) ∨ (t' = 8 ∧ c' < 524288)) := by
  have hF := m_full (nx := nx) (m := m) (a := a) (c := nI c) (t := t) (p := p) (r := r) (st := st) (bt := bt) hg0 hg1 (show z < 120000 by omega) hs hl
  by_cases h1 : z = ls
  · have hx := x_out_r (e := (pl, a, nI c, tx, bg, bb, rf)) (ro_last0 (g := g) (ls := ls) (z := z) (bx := bx) (sx := sx) (px := px) hz (by omega) (by omega)) (Or.inl rfl)
    have hf := hF.2.trans (decide_eq_false (fun q => by have := q.1; omega))
    have hm := m_out_r hg1 (show z < 120000 by omega) (hc0 h1) hF.1 hf
    refine ⟨c % 524288, 8, _, _, hx.trans ?_, hm.2, hm.1, hB.add (Nat.mod_lt _ (by decide)), Or.inr ⟨rfl, Nat.mod_lt _ (by decide)⟩⟩
    dsimp only
    rw [q_a19 hc, q_u19 hc, ro_add hz (by omega)]
    rfl
  · obtain ⟨b1, b, hb, b2⟩ := hB (z - 1) (by omega)
    have b3 := b1.trans b2
    have hla : f_Ro_last (nI z, nI g, nI ls, bx, sx, px) = nI b := (ro_last1 (by omega) (by omega)).trans b3
    by_cases h2 : b = 255
    · subst h2
      have hx := x_out_f (e := (pl, a, nI c, tx, bg, bb, rf)) hla
      have hf := hF.2.trans (decide_eq_true ⟨by omega, b2⟩)
      have hm := m_out_f hg1 (show z < 120000 by omega) hc hF.1 hf
      refine ⟨c % 1048576, 7, _, _, hx.trans ?_, hm.2, hm.1, hB.add (Nat.mod_lt _ (by decide)), Or.inl ⟨rfl, Nat.mod_lt _ (by decide)⟩⟩
      dsimp only
      rw [q_a20 hc, q_u20 hc, ro_add hz (by omega)]
      rfl
    · by_cases h3 : c < 2 ^ 27
      · have hx := x_out_r (e := (pl, a, nI c, tx, bg, bb, rf)) hla (Or.inr ⟨b, by omega, rfl, nI_lt (b := 134217728) (by omega) (by decide)⟩)
        have hf := hF.2.trans (decide_eq_false (fun q => by
          have := q.2
          rw [b2, q_255, nI_eq (by omega) (by omega)] at this
          omega))
        have hm := m_out_r hg1 (show z < 120000 by omega) h3 hF.1 hf
        refine ⟨c % 524288, 8, _, _, hx.trans ?_, hm.2, hm.1, hB.add (Nat.mod_lt _ (by decide)), Or.inr ⟨rfl, Nat.mod_lt _ (by decide)⟩⟩
        dsimp only
        rw [q_a19 hc, q_u19 hc, ro_add hz (by omega)]
        rfl
      · have hnc : ¬ nI c < 134217728 := nI_nlt (b := 134217728) (by omega) hc
        have hm := m_out_c (nx := nx) (m := m) (a := a) (t := t) (p := p) (r := r) hg0 hg1 (show z < 120000 by omega) hc h3 hs (by omega) b2 (by omega)
        by_cases h4 : b = 254
        · rw [if_pos h4] at hm
          subst h4
          have hx := x_out_cf (e := (pl, a, nI c, tx, bg, bb, rf)) hla hnc
          refine ⟨c % 134217728 % 1048576, 7, _, _, hx.trans ?_, hm.2, hm.1, (hB.mid (b := 254 + 1) (k := z - 1) (by omega) (by omega)).add (Nat.mod_lt _ (by decide)), Or.inl ⟨rfl, Nat.mod_lt _ (by decide)⟩⟩
          dsimp only
          rw [q_a27 hc, q_a20 (by omega), q_u20 (by omega), ro_raise (by omega) (by omega) b3 (by omega), ro_add hz (by omega)]
          rfl
        · rw [if_neg h4] at hm
          have hx := x_out_c (e := (pl, a, nI c, tx, bg, bb, rf)) hla (by omega) hnc
          refine ⟨c % 524288, 8, _, _, hx.trans ?_, hm.2, hm.1, (hB.mid (b := b + 1) (k := z - 1) (by omega) (by omega)).add (Nat.mod_lt _ (by decide)), Or.inr ⟨rfl, Nat.mod_lt _ (by decide)⟩⟩
          dsimp only
          rw [q_a27 hc, q_a19 (by omega), q_u19 (by omega), ro_raise (by omega) (by omega) b3 (by omega), ro_add hz (by omega), show c % 134217728 % 524288 = c % 524288 by omega, show c % 134217728 / 524288 % 256 = c / 524288 % 256 by omega]
          rfl
