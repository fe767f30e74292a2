/-! pure part 1: numbers -/
theorem q_lit (n : Nat) : (OfNat.ofNat n : Int32) = nI n := rfl
theorem q_sub1 {z : Nat} (h : 0 < z) : nI z - 1 = nI (z - 1) := pk_sub (a := z) (b := 1) h
theorem q_rem {a d : Nat} (ha : a < 2 ^ 31) (h0 : 0 < d) (hd : d < 2 ^ 31) : irem (nI a) (nI d) = nI (a % d) := pk_rem ha h0 hd
theorem q_and (n k : Nat) (h : n < 2 ^ 32) {m : Int32} (hm : m.toBitVec.toNat = 2 ^ k - 1) : nI n &&& m = nI (n % 2 ^ k) := pk_andN h k hm
theorem q_ushr {n : Nat} (hn : n < 2 ^ 32) (s : Int32) (k : Nat) (hs : ((s.toUInt32 &&& Int32.toUInt32 31).toBitVec % 32).toNat = k) : ushr (nI n) s = nI (n / 2 ^ k) := pk_ushrN hn s k hs
theorem q_m1 {z : Nat} (h : z < 2 ^ 31) : (-1 : Int32) < nI z := by
  rw [Int32.lt_iff_toInt_lt, nI_toInt h, show (-1 : Int32).toInt = -1 from by decide]; omega
theorem q_0m1 : nI 0 - 1 = -1 := by decide
theorem q_upd (f : Nat → Int32) (k : Nat) (x : Int32) : upd f k x k = x := if_pos rfl
theorem q_updn (f : Nat → Int32) {k j : Nat} (x : Int32) (h : j ≠ k) : upd f k x j = f j := if_neg h
/-- the bytes of class and reference below z -/
def BR (z : Nat) (bx by' : Nat → Int32) : Prop := ∀ i, i < z → bx i = by' i ∧ ∃ b, b < 256 ∧ by' i = nI b
theorem BR.mono {z y : Nat} {bx by' : Nat → Int32} (h : BR z bx by') (hy : y ≤ z) : BR y bx by' := fun i hi => h i (Nat.lt_of_lt_of_le hi hy)
theorem BR.set {z : Nat} {bx by' : Nat → Int32} (h : BR z bx by') {k b : Nat} (hb : b < 256) (hk : k ≤ z) : BR (if k = z then z + 1 else z) (upd bx k (nI b)) (upd by' k (nI b)) := by
  intro i hi
  by_cases e : i = k
  · subst e
    rw [q_upd, q_upd]
    exact ⟨rfl, b, hb, rfl⟩
  · rw [q_updn _ _ e, q_updn _ _ e]
    refine h i ?_
    by_cases e2 : k = z
    · rw [if_pos e2] at hi; omega
    · rw [if_neg e2] at hi; omega
theorem BR.add {z : Nat} {bx by' : Nat → Int32} (h : BR z bx by') {b : Nat} (hb : b < 256) : BR (z + 1) (upd bx z (nI b)) (upd by' z (nI b)) := by
  have := h.set hb (Nat.le_refl z)
  rwa [if_pos rfl] at this
theorem BR.mid {z k : Nat} {bx by' : Nat → Int32} (h : BR z bx by') {b : Nat} (hb : b < 256) (hk : k < z) : BR z (upd bx k (nI b)) (upd by' k (nI b)) := by
  have := h.set hb (Nat.le_of_lt hk)
  rwa [if_neg (by omega)] at this
/-- the starts -/
def SR (g ls z : Nat) (sx st : Nat → Int32) : Prop := (∀ i, i < g → sx i = st i ∧ ∃ s, s ≤ ls ∧ st i = nI s) ∧ st g = nI z
theorem SR.set {g ls z : Nat} {sx st : Nat → Int32} (h : SR g ls z sx st) (y : Nat) : SR g ls y sx (upd st g (nI y)) := by
  refine ⟨fun i hi => ?_, q_upd _ _ _⟩
  rw [q_updn _ _ (Nat.ne_of_lt hi)]
  exact h.1 i hi
theorem SR.up {g ls z : Nat} {sx st : Nat → Int32} (h : SR g ls z sx st) : SR g ls (z + 1) sx (upd st g (nI (z + 1))) := h.set (z + 1)
theorem q_42 : (42000 : Int32) = nI 42000 := rfl
theorem q_255 : (255 : Int32) = nI 255 := rfl
/-- the reference with another writing state -/
abbrev Wm (m : MS) (g z a c t p r : Int32) (st bt : Nat → Int32) : MS := ((m.1.1, m.1.2.1, g, z, m.1.2.2.2.2.1, a, c, t, p, r, m.1.2.2.2.2.2.2.2.2.2.2.1, m.1.2.2.2.2.2.2.2.2.2.2.2.1, m.1.2.2.2.2.2.2.2.2.2.2.2.2.1, m.1.2.2.2.2.2.2.2.2.2.2.2.2.2.1, m.1.2.2.2.2.2.2.2.2.2.2.2.2.2.2.1, m.1.2.2.2.2.2.2.2.2.2.2.2.2.2.2.2.1, m.1.2.2.2.2.2.2.2.2.2.2.2.2.2.2.2.2.1, m.1.2.2.2.2.2.2.2.2.2.2.2.2.2.2.2.2.2.1, m.1.2.2.2.2.2.2.2.2.2.2.2.2.2.2.2.2.2.2.1, m.1.2.2.2.2.2.2.2.2.2.2.2.2.2.2.2.2.2.2.2), m.2.1, m.2.2.1, st, m.2.2.2.2.1, bt)
theorem Wm_eq (m : MS) : m = Wm m m.1.2.2.1 m.1.2.2.2.1 m.1.2.2.2.2.2.1 m.1.2.2.2.2.2.2.1 m.1.2.2.2.2.2.2.2.1 m.1.2.2.2.2.2.2.2.2.1 m.1.2.2.2.2.2.2.2.2.2.1 m.2.2.2.1 m.2.2.2.2.2 := rfl
/-- the last byte of the row -/
theorem ro_last0 {g ls z : Nat} {bx sx px : Nat → Int32} (hz : z < 42000) (hl : z ≤ ls) (hl2 : ls < 42000) : f_Ro_last (nI z, nI g, nI ls, bx, sx, px) = -1 := by
  rw [f_Ro_last_s]
  dsimp only
  refine if_pos ?_
  cases z with
  | zero => rw [q_0m1]; exact q_m1 (by omega)
  | succ n => rw [nI_pred]; exact nI_lt (by omega) (by omega)
theorem ro_last1 {g ls z : Nat} {bx sx px : Nat → Int32} (hz : z ≤ 42000) (hl : ls < z) : f_Ro_last (nI z, nI g, nI ls, bx, sx, px) = bx (z - 1) := by
  rw [f_Ro_last_s]
  dsimp only
  rw [q_sub1 (by omega), if_neg (nI_nlt (by omega) (by omega)), if_neg (nI_pos (by omega)), if_neg (by rw [q_42, nI_leI (by omega) (by omega)]; omega), nI_clamp (by omega)]
theorem ro_add {g ls z b : Nat} {bx sx px : Nat → Int32} (hz : z < 42000) (hb : b < 2 ^ 32) : f_Ro_add (nI b) (nI z, nI g, nI ls, bx, sx, px) = (nI (z + 1), nI g, nI ls, upd bx z (nI (b % 256)), sx, px) := by
  rw [f_Ro_add_s]
  dsimp only
  rw [if_neg (nI_pos (by omega)), if_neg (by rw [q_42, nI_leI (by omega) (by omega)]; omega), nI_clamp (by omega), q_and b 8 hb (by decide), nI_1]
theorem ro_raise {g ls z b : Nat} {bx sx px : Nat → Int32} (hz : z ≤ 42000) (h0 : 0 < z) (hb : bx (z - 1) = nI b) (hb2 : b < 255) : f_Ro_raiseLast (nI z, nI g, nI ls, bx, sx, px) = (nI z, nI g, nI ls, upd bx (z - 1) (nI (b + 1)), sx, px) := by
  rw [f_Ro_raiseLast_s]
  dsimp only
  rw [q_sub1 h0, if_neg (nI_pos (by omega)), if_neg (by rw [q_42, nI_leI (by omega) (by omega)]; omega), nI_clamp (by omega), hb, nI_1, q_and (b + 1) 8 (by omega) (by decide), Nat.mod_eq_of_lt (by omega)]
theorem m_full {nx g z ls : Nat} {a c t p r : Int32} {m : MS} {st bt : Nat → Int32} (hg0 : 0 < g) (hg1 : g < 1100) (hz : z < 120000) (hs : st (g - 1) = nI ls) (hl : ls ≤ z) :
    k_M_isFull nx (Wm m (nI g) (nI z) a c t p r st bt) ∧ f_M_isFull nx (Wm m (nI g) (nI z) a c t p r st bt) = decide (ls < z ∧ bt (z - 1) = 255) := by
  have e : st (nI g - 1).toNatClampNeg = nI ls := by rw [q_sub1 hg0, nI_clamp (by omega), hs]
  constructor
  · refine ⟨?_, br_c (fun _ => trivial) (fun h => ?_)⟩
    · show vp_in (nI g - 1) 1100
      rw [q_sub1 hg0]; exact vp_in_nI (by omega) (by omega)
    · have h : ¬ nI z ≤ st (nI g - 1).toNatClampNeg := h
      rw [e, nI_leI (by omega) (by omega)] at h
      refine ⟨?_, br_c (fun _ => trivial) (fun _ => trivial)⟩
      show vp_in (nI z - 1) 120000
      rw [q_sub1 (by omega)]; exact vp_in_nI (by omega) (by omega)
  · rw [f_M_isFull_s]
    by_cases h : ls < z
    · refine (if_neg ?_).trans ?_
      · show ¬ nI z ≤ st (nI g - 1).toNatClampNeg
        rw [e, nI_leI (by omega) (by omega)]; omega
      · have e2 : bt (nI z - 1).toNatClampNeg = bt (z - 1) := by rw [q_sub1 (by omega), nI_clamp (by omega)]
        by_cases h2 : bt (z - 1) = 255
        · exact (if_pos (e2.trans h2)).trans (decide_eq_true ⟨h, h2⟩).symm
        · exact (if_neg (fun q => h2 (e2.symm.trans q))).trans (decide_eq_false (fun q => h2 q.2)).symm
    · refine (if_pos ?_).trans (decide_eq_false (fun q => h q.1)).symm
      show nI z ≤ st (nI g - 1).toNatClampNeg
      rw [e, nI_leI (by omega) (by omega)]; omega
theorem m_put {nx g z b : Nat} {a c t p r : Int32} {m : MS} {st bt : Nat → Int32} (hg1 : g < 1100) (hz : z < 120000) (hb : b < 2 ^ 31) :
    k_M_put nx (nI b) (Wm m (nI g) (nI z) a c t p r st bt) ∧ f_M_put nx (nI b) (Wm m (nI g) (nI z) a c t p r st bt) = Wm m (nI g) (nI (z + 1)) a c t p r (upd st g (nI (z + 1))) (upd bt z (nI (b % 256))) := by
  rw [f_M_put_s]
  unfold k_M_put
  dsimp only
  rw [nI_clamp (n := g) (by omega), nI_clamp (n := z) (by omega), nI_1, show (256 : Int32) = nI 256 from rfl, q_rem hb (by decide) (by decide)]
  exact ⟨fun x1 _ => ⟨vp_in_nI (by omega) (by omega), fun _ _ => ⟨vp_in_nI (by omega) (by omega), trivial⟩⟩, rfl⟩
