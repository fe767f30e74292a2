/-! pure part 20: reset, the beginning -/
theorem x_fill {nc : Nat} (hnc : nc < 2 ^ 31) : ∀ (f j : Nat) (st : Nat → Int32), j + f = nc + 1 → j ≤ nc → kl_Ar_fill nc 0 f st (nI j) (nI nc) ∧ (∀ i, j ≤ i → i < nc → g_Ar_fill nc 0 f st (nI j) (nI nc) i = 0) ∧ (∀ i, i < j → g_Ar_fill nc 0 f st (nI j) (nI nc) i = st i) := by
  intro f
  induction f with
  | zero => intro j st hj hle; omega
  | succ f ih =>
    intro j st hj hle
    rw [g_Ar_fill_s, kl_Ar_fill_s]
    by_cases h : j = nc
    · subst h
      have e : nI j ≤ nI j := nI_le (Nat.le_refl j) hnc
      rw [if_pos e]
      exact ⟨br_t e trivial, fun i h1 h2 => by omega, fun i _ => rfl⟩
    · have e : ¬ nI nc ≤ nI j := nI_ge (by omega) hnc
      have ec : (nI j).toNatClampNeg = j := nI_clamp (by omega)
      obtain ⟨A1, A2, A3⟩ := ih (j + 1) (upd st j 0) (by omega) (by omega)
      rw [if_neg e, ec, nI_1]
      refine ⟨br_f e ⟨vp_in_nI (by omega) hnc, fun x4 h4 => ?_⟩, fun i h1 h2 => ?_, fun i hi => ?_⟩
      · subst h4; exact A1
      · by_cases q : i = j
        · subst q
          rw [A3 i (by omega), q_upd]
        · exact A2 i (by omega) h2
      · rw [A3 i (by omega), q_updn _ _ (by omega)]
theorem x_fill0 {nc : Nat} (hnc : nc < 2 ^ 31) (st : Nat → Int32) : k_Ar_fill nc 0 st ∧ ∀ i, i < nc → f_Ar_fill nc 0 st i = 0 := by
  obtain ⟨A1, A2, A3⟩ := x_fill hnc (nc + 1) 0 st (by omega) (by omega)
  constructor
  · intro x1 h1
    subst h1
    rw [nf_eq]; exact A1
  · intro i hi
    rw [f_Ar_fill_s, nf_eq]
    exact A2 i (by omega) hi
/-- the reference, all its contexts other, as reset leaves it before a segment begins -/
abbrev Zm (m : MS) (mc : Nat → Int32) : MS := ((m.1.1, 0, 0, 0, false, m.1.2.2.2.2.2.1, m.1.2.2.2.2.2.2.1, m.1.2.2.2.2.2.2.2.1, m.1.2.2.2.2.2.2.2.2.1, m.1.2.2.2.2.2.2.2.2.2.1, 0, 0, m.1.2.2.2.2.2.2.2.2.2.2.2.2.1, m.1.2.2.2.2.2.2.2.2.2.2.2.2.2.1, m.1.2.2.2.2.2.2.2.2.2.2.2.2.2.2.1, 0, 0, false, m.1.2.2.2.2.2.2.2.2.2.2.2.2.2.2.2.2.2.2.1, m.1.2.2.2.2.2.2.2.2.2.2.2.2.2.2.2.2.2.2.2), mc, m.2.2.1, m.2.2.2.1, m.2.2.2.2.1, m.2.2.2.2.2)
theorem m_bs0 {nx : Nat} {m : MS} (h : m.1.2.2.1 = 0) : k_M_beginSegment nx false m := by
  unfold k_M_beginSegment
  rw [h]
  refine ⟨vp_in_nI (n := 0) (by decide) (by decide), vp_in_nI (n := 0) (by decide) (by decide), fun x5 h5 => ?_⟩
  subst h5
  exact ⟨vp_in_nI (n := 1) (by decide) (by decide), trivial⟩
theorem m_reset {nx : Nat} : ∀ (f j : Nat) (m : MS), j + f = 139265 → j ≤ 139264 → ∃ mc, g_M_reset nx f m (nI j) = f_M_beginSegment nx false (Zm m mc) ∧ kl_M_reset nx f m (nI j) ∧ (∀ t, j ≤ t → t < 139264 → mc t = 0) ∧ (∀ t, t < j → mc t = m.2.1 t) := by
  intro f
  induction f with
  | zero => intro j m hj hle; omega
  | succ f ih =>
    intro j m hj hle
    rw [g_M_reset_s, kl_M_reset_s]
    by_cases h : j = 139264
    · have e : (139264 : Int32) ≤ nI j := nI_le (a := 139264) (by omega) (by omega)
      refine ⟨m.2.1, (if_pos e).trans rfl, br_t e ⟨trivial, fun u3 h3 => ⟨?_, fun _ _ => trivial⟩⟩, fun t h1 h2 => by omega, fun t _ => rfl⟩
      subst h3
      exact m_bs0 rfl
    · have e : ¬ (139264 : Int32) ≤ nI j := nI_ge (b := 139264) (by omega) (by decide)
      have ec : (nI j).toNatClampNeg = j := nI_clamp (by omega)
      obtain ⟨mc, A1, A2, A3, A4⟩ := ih (j + 1) (m.1, upd m.2.1 j 0, m.2.2) (by omega) (by omega)
      refine ⟨mc, (if_neg e).trans ?_, br_f e ⟨vp_in_nI (by omega) (by decide), fun x8 h8 => ?_⟩, fun t h1 h2 => ?_, fun t ht => ?_⟩
      · dsimp only
        rw [ec, nI_1]
        exact A1
      · rw [nI_1] at h8
        subst h8
        rw [ec]
        exact A2
      · by_cases q : t = j
        · subst q
          rw [A4 t (by omega)]
          exact q_upd _ _ _
        · exact A3 t (by omega) h2
      · rw [A4 t (by omega)]
        exact q_updn _ _ (by omega)
/-- as it is made -/
theorem fresh {nx : Nat} {x : XS} {m : MS} {mc bx sx px : Nat → Int32} (hn : nx ≤ 65536) (hx1 : x.1 = (0, false, 1)) (hx2 : x.2.1 = (false, 32768, 0, 12, 0, 0, 8)) (hr : x.2.2.2.1 = (0, 1, 0, bx, sx, px)) (h0 : sx 0 = 0) (h1 : px 0 = 0)
    (he : ∀ i, i < nx → x.2.2.2.2.1 i = 0) (hs : ∀ j, j < 4096 → x.2.2.2.2.2.1 j = 0) (hd : ∀ i, i < nx → x.2.2.2.2.2.2.1 i = 0) (hs2 : ∀ j, j < 4096 → x.2.2.2.2.2.2.2.1 j = 0) (hm : ∀ t, t < 139264 → mc t = 0) :
    XN nx 0 x (f_M_beginSegment nx false (Zm m mc)) := by
  have ok0 : ∀ a b : Int32, a = 0 → b = 0 → OK a b := fun a b h1 h2 => ⟨h1.trans h2.symm, 0, by decide, h2⟩
  refine ⟨1, 0, 0, 0, by decide, ⟨bx, sx, px, hr, rfl, rfl, fun i hi => by omega, ⟨fun i hi => ?_, ?_⟩, h0, fun i hi => ?_, by decide, by decide, by decide, h0, h1, fun i hi => by omega⟩, ⟨fun i hi => ok0 _ _ (he i hi) (hm i (by omega)), fun j hj => ok0 _ _ (hs j hj) (hm (131072 + j) (by omega)), fun i hi => ok0 _ _ (hd i hi) (hm (65536 + i) (by omega)), fun j hj => ok0 _ _ (hs2 j hj) (hm (135168 + j) (by omega))⟩, by rw [hx1]; rfl, rfl, ⟨by decide, fun k i hk => by omega⟩, by rw [hx1]; rfl, Or.inl ⟨rfl, Or.inl ⟨rfl, 32768, 0, 12, by rw [hx2], by rw [hx2]; rfl, by rw [hx2]; rfl, by rw [hx2]; rfl, rfl, rfl, rfl, ⟨by decide, by decide, by decide, by decide, by decide, fun _ => by decide, by decide⟩, by decide, by decide⟩⟩⟩
  · have hi : i = 0 := by omega
    subst hi
    exact ⟨h0, 0, by decide, rfl⟩
  · rfl
  · have hi : i = 0 := by omega
    subst hi
    exact ⟨h1, Or.inl rfl⟩
section
variable {nx n : Nat} {x : XS} {m : MS}
theorem reset_op (hn : nx ≤ 65536) (h : XN nx n x m) : k_X_reset nx x ∧ k_M_reset nx m ∧ (f_M_reset nx m).1.1 = 0 ∧ XN nx (n + 1) (f_X_reset nx x) (f_M_reset nx m) := by
  obtain ⟨g, ls, z, s, hN, hR, hC, hs1, hs2, hk, hd2, hw⟩ := h
  obtain ⟨bx, sx, px, hr, R1, R2, hB, hS, hs, hp, hl, hg0, hg1, hz0⟩ := hR
  obtain ⟨a1, a2⟩ := x_fill0 (nc := nx) (by omega) x.2.2.2.2.1
  obtain ⟨b1, b2⟩ := x_fill0 (nc := 4096) (by decide) x.2.2.2.2.2.1
  obtain ⟨c1, c2⟩ := x_fill0 (nc := nx) (by omega) x.2.2.2.2.2.2.1
  obtain ⟨d1, d2⟩ := x_fill0 (nc := 4096) (by decide) x.2.2.2.2.2.2.2.1
  obtain ⟨mc, A1, A2, A3, A4⟩ := m_reset (nx := nx) 139265 0 (Km m 0) (by decide) (by decide)
  have eM : f_M_reset nx m = f_M_beginSegment nx false (Zm (Km m 0) mc) := by
    rw [f_M_reset_s, nf_eq]; exact A1
  have kg : f_Ro_clear x.2.2.2.1 = (0, 1, 0, bx, sx, px) := by rw [hr]; rfl
  refine ⟨⟨⟨a1, fun _ _ => ⟨b1, fun _ _ => trivial⟩⟩, fun u2 _ => ⟨⟨c1, fun _ _ => ⟨d1, fun _ _ => trivial⟩⟩, fun u4 _ u5 h5 u6 _ => ⟨⟨?_, fun _ _ => trivial⟩, fun _ _ => trivial⟩⟩⟩, ?_, by rw [eM]; rfl, ?_⟩
  · rw [h5, kg]; show (1 : Int32) ≤ 513; decide
  · unfold k_M_reset
    rw [nf_eq]; exact A2
  · rw [eM]
    have F := fresh (nx := nx) (x := f_X_reset nx x) (m := Km m 0) (mc := mc) (bx := bx) (sx := sx) (px := px) hn rfl rfl kg hz0.1 hz0.2.1 a2 b2 c2 d2 (fun t ht => A3 t (by omega) ht)
    exact F.mono (by omega) (by omega) (by omega)
end
