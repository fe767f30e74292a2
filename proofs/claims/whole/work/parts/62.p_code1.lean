/-! pure part 3: a bit is coded -/
def qN (v : Nat) : Nat := (zF 0 (v / 2)).toNatClampNeg
def uN (v : Nat) : Nat := (2 * zF 1 (v / 2) + nI (v % 2)).toNatClampNeg
def oN (v : Nat) : Nat := if v / 2 = 0 ∨ v / 2 = 6 ∨ v / 2 = 14 then (2 * zF 2 (v / 2) + (1 - nI (v % 2))).toNatClampNeg else (2 * zF 2 (v / 2) + nI (v % 2)).toNatClampNeg
set_option maxRecDepth 100000 in
theorem tab_q : ∀ v, v < 94 → 1 ≤ qN v ∧ qN v ≤ 22017 ∧ f_Ta_q (nI v) = nI (qN v) ∧ zF 0 (v / 2) = nI (qN v) := by decide +kernel
set_option maxRecDepth 100000 in
theorem tab_u : ∀ v, v < 94 → uN v < 94 ∧ f_Ta_behindLikely (nI v) = nI (uN v) ∧ 2 * zF 1 (v / 2) + nI (v % 2) = nI (uN v) := by decide +kernel
set_option maxRecDepth 100000 in
theorem tab_o : ∀ v, v < 94 → oN v < 94 ∧ f_Ta_behindOther (nI v) = nI (oN v) ∧ (v / 2 = 0 ∨ v / 2 = 6 ∨ v / 2 = 14 → 2 * zF 2 (v / 2) + (1 - nI (v % 2)) = nI (oN v)) ∧ (¬ (v / 2 = 0 ∨ v / 2 = 6 ∨ v / 2 = 14) → 2 * zF 2 (v / 2) + nI (v % 2) = nI (oN v)) := by decide +kernel
theorem q_d2 {v : Nat} (h : v < 2 ^ 31) : nI v / 2 = nI (v / 2) := pk_div (d := 2) h (by decide) (by decide)
theorem q_r2 {v : Nat} (h : v < 2 ^ 31) : irem (nI v) 2 = nI (v % 2) := pk_rem (d := 2) h (by decide) (by decide)
theorem q_a1 {v : Nat} (h : v < 2 ^ 31) : nI v &&& 1 = nI (v % 2) := pk_andN (by omega) 1 (by decide)
/-- a context of class and reference: the place of the reference -/
theorem m_size {nx P v : Nat} {m : MS} (hP : P < 139264) (hv : v < 94) (h : m.2.1 P = nI v) : k_M_sizeOf nx (nI P) m ∧ f_M_sizeOf nx (nI P) m = nI (qN v) := by
  have e : m.2.1 (nI P).toNatClampNeg = nI v := by rw [nI_clamp (by omega), h]
  constructor
  · refine ⟨vp_in_nI hP (by decide), ?_, trivial⟩
    rw [e, q_d2 (by omega)]
    exact vp_in_nI (by omega) (by decide)
  · rw [f_M_sizeOf_s, e, q_d2 (by omega), nI_clamp (by omega)]
    exact (tab_q v hv).2.2.2
theorem m_bit {P v : Nat} {m : MS} (hP : P < 139264) (hv : v < 94) (h : m.2.1 P = nI v) : irem (m.2.1 (nI P).toNatClampNeg) 2 = nI (v % 2) := by
  rw [nI_clamp (by omega), h, q_r2 (by omega)]
theorem m_learn {nx P v : Nat} {m : MS} (lk : Bool) (hP : P < 139264) (hv : v < 94) (h : m.2.1 P = nI v) :
    k_M_learn nx (nI P) lk m ∧ f_M_learn nx (nI P) lk m = (m.1, upd m.2.1 P (nI (if lk then uN v else oN v)), m.2.2.1, m.2.2.2.1, m.2.2.2.2.1, m.2.2.2.2.2) := by
  have eP : (nI P).toNatClampNeg = P := nI_clamp (by omega)
  have e : m.2.1 (nI P).toNatClampNeg = nI v := by rw [eP, h]
  have e1 : m.2.1 (nI P).toNatClampNeg / 2 = nI (v / 2) := by rw [e, q_d2 (by omega)]
  have e2 : irem (m.2.1 (nI P).toNatClampNeg) 2 = nI (v % 2) := by rw [e, q_r2 (by omega)]
  have ec : (nI (v / 2)).toNatClampNeg = v / 2 := nI_clamp (by omega)
  have vP : vp_in (nI P) 139264 := vp_in_nI hP (by decide)
  have v4 : vp_in (nI (v / 2)) 47 := vp_in_nI (by omega) (by decide)
  constructor
  · refine ⟨vP, fun x2 hx2 => ⟨vP, fun x4 hx4 => ?_⟩⟩
    rw [e1] at hx2
    subst hx2
    exact br_c (fun _ => br_c (fun _ => ⟨v4, fun _ _ => ⟨vP, trivial⟩⟩) (fun _ => br_c (fun _ => ⟨v4, fun _ _ => ⟨vP, trivial⟩⟩) (fun _ => br_c (fun _ => ⟨v4, fun _ _ => ⟨vP, trivial⟩⟩) (fun _ => ⟨v4, fun _ _ => ⟨vP, trivial⟩⟩)))) (fun _ => ⟨v4, fun _ _ => ⟨vP, trivial⟩⟩)
  · have tu := tab_u v hv
    have to := tab_o v hv
    rw [f_M_learn_s]
    cases lk with
    | true =>
      refine (if_neg (by decide)).trans ?_
      dsimp only
      rw [e1, e2, ec, eP, tu.2.2, if_pos rfl]
    | false =>
      refine (if_pos rfl).trans ?_
      by_cases h0 : v / 2 = 0
      · refine (if_pos (by rw [e1, h0]; rfl)).trans ?_
        dsimp only
        rw [e1, e2, ec, eP, to.2.2.1 (Or.inl h0), if_neg (by decide)]
      · refine (if_neg (by rw [e1]; exact nI_ne0 (by omega) (by omega))).trans ?_
        by_cases h6 : v / 2 = 6
        · refine (if_pos (by rw [e1, h6]; rfl)).trans ?_
          dsimp only
          rw [e1, e2, ec, eP, to.2.2.1 (Or.inr (Or.inl h6)), if_neg (by decide)]
        · refine (if_neg (by rw [e1]; exact fun q => h6 ((nI_eq (b := 6) (by omega) (by decide)).mp q))).trans ?_
          by_cases h14 : v / 2 = 14
          · refine (if_pos (by rw [e1, h14]; rfl)).trans ?_
            dsimp only
            rw [e1, e2, ec, eP, to.2.2.1 (Or.inr (Or.inr h14)), if_neg (by decide)]
          · refine (if_neg (by rw [e1]; exact fun q => h14 ((nI_eq (b := 14) (by omega) (by decide)).mp q))).trans ?_
            dsimp only
            rw [e1, e2, ec, eP, to.2.2.2 (by omega), if_neg (by decide)]
/-- the interval: what holds while a segment is coded -/
def CI (ls z a c t : Nat) : Prop := ls ≤ z ∧ 1 ≤ t ∧ t ≤ 12 ∧ 0 < a ∧ a < 65536 ∧ (z = ls → (c + a) * 2 ^ t ≤ 134217728) ∧ (c + a) * 2 ^ t ≤ 150994944
theorem CI.c {ls z a c t : Nat} (h : CI ls z a c t) : c + a ≤ 75497472 := by
  obtain ⟨-, h1, h2, -, -, -, h3⟩ := h
  have : (2 : Nat) ^ 1 ≤ 2 ^ t := Nat.pow_le_pow_right (by decide) h1
  have h4 : (c + a) * 2 ^ 1 ≤ (c + a) * 2 ^ t := Nat.mul_le_mul_left _ this
  omega
theorem CI.sub {ls z a c t a' c' : Nat} (h : CI ls z a c t) (h1 : c' + a' ≤ c + a) (h0 : 0 < a') (h2 : a' < 65536) : CI ls z a' c' t := by
  obtain ⟨g1, g2, g3, g4, g5, g6, g7⟩ := h
  have := Nat.mul_le_mul_right (2 ^ t) h1
  exact ⟨g1, g2, g3, h0, h2, fun q => Nat.le_trans this (g6 q), Nat.le_trans this g7⟩
/-- doubled: either a byte is not due .. -/
theorem CI.dbl {ls z a c t : Nat} (h : CI ls z a c (t + 1)) (ht : 0 < t) (ha : a < 32768) : CI ls z (2 * a) (2 * c) t := by
  obtain ⟨g1, g2, g3, g4, g5, g6, g7⟩ := h
  have e : (2 * c + 2 * a) * 2 ^ t = (c + a) * 2 ^ (t + 1) := by
    rw [Nat.pow_succ, ← Nat.mul_add, Nat.mul_comm 2 (c + a), Nat.mul_assoc, Nat.mul_comm 2 (2 ^ t)]
  exact ⟨g1, ht, by omega, by omega, by omega, fun q => by rw [e]; exact g6 q, by rw [e]; exact g7⟩
/-- .. or it is, and then .. -/
theorem CI.due {ls z a c : Nat} (h : CI ls z a c 1) : 2 * c < 2 ^ 31 ∧ (z = ls → 2 * c < 2 ^ 27) := by
  obtain ⟨g1, g2, g3, g4, g5, g6, g7⟩ := h
  constructor
  · omega
  · intro q; have := g6 q; omega
theorem CI.new {ls z a c t : Nat} (hl : ls ≤ z) (h0 : 0 < a) (ha : a < 65536) (h : (t = 7 ∧ c < 1048576) ∨ (t = 8 ∧ c < 524288)) : CI ls (z + 1) a c t := by
  refine ⟨by omega, by omega, by omega, h0, ha, fun q => by omega, ?_⟩
  rcases h with ⟨rfl, h⟩ | ⟨rfl, h⟩ <;> omega
theorem q_shl1 {n : Nat} (h : n < 2 ^ 31) : nI n <<< (1 &&& 31 : Int32) = nI (2 * n) := by
  rw [show (1 &&& 31 : Int32) = 1 from by decide, pk_shlN 1 1 (by decide) (by omega), Nat.mul_comm]
theorem q_2x (n : Nat) : 2 * nI n = nI (2 * n) := pk_mul 2 n
theorem SR.ls {g z ls : Nat} {sx st : Nat → Int32} (h : SR g ls z sx st) (hg : 0 < g) (hl : sx (g - 1) = nI ls) : st (g - 1) = nI ls := (h.1 (g - 1) (by omega)).1.symm.trans hl
theorem renew_both {nx g ls : Nat} {pl : Bool} {p r bg bb rf p0 p1 : Int32} {m : MS} {sx px : Nat → Int32} (hg0 : 0 < g) (hg1 : g < 1100) (hs : sx (g - 1) = nI ls) (K : Nat) (hK : K ≤ 293988) :
    ∀ (n j z a c t : Nat) (bx st bt : Nat → Int32), j + n = 17 → 2 ^ j ≤ a → CI ls z a c t → BR z bx bt → SR g ls z sx st → 7 * z + 15 ≤ t + j + K → 
    ∃ z' a' c' t' bx' st' bt', g_En_renew n ((pl, nI a, nI c, nI t, bg, bb, rf), (nI z, nI g, nI ls, bx, sx, px)) (nI j) = ((pl, nI a', nI c', nI t', bg, bb, rf), (nI z', nI g, nI ls, bx', sx, px)) ∧
      kl_En_renew n ((pl, nI a, nI c, nI t, bg, bb, rf), (nI z, nI g, nI ls, bx, sx, px)) (nI j) ∧
      g_M_writeCoded nx p0 p1 n (Wm m (nI g) (nI z) (nI a) (nI c) (nI t) p r st bt) = Wm m (nI g) (nI z') (nI a') (nI c') (nI t') p r st' bt' ∧
      kl_M_writeCoded nx p0 p1 n (Wm m (nI g) (nI z) (nI a) (nI c) (nI t) p r st bt) ∧
      CI ls z' a' c' t' ∧ 32768 ≤ a' ∧ BR z' bx' bt' ∧ SR g ls z' sx st' ∧ 7 * z' ≤ t' + K := by
  intro n
  induction n with
  | zero =>
    intro j z a c t bx st bt hj ha hC
    have hj : j = 17 := by omega
    subst hj
    obtain ⟨-, -, -, -, g5, -, -⟩ := hC
    omega
  | succ n ih =>
    intro j z a c t bx st bt hj ha hC hB hS hp
    have ha2 : a < 65536 := hC.2.2.2.2.1
    have ha0 : 0 < a := hC.2.2.2.1
    have hc2 := hC.c
    rw [g_En_renew_s, kl_En_renew_s, g_M_writeCoded_s, kl_M_writeCoded_s]
    by_cases h16 : 16 ≤ j
    · have : (2 : Nat) ^ 16 ≤ 2 ^ j := Nat.pow_le_pow_right (by decide) h16
      omega
    have e16 : ¬ (16 : Int32) ≤ nI j := nI_ge (b := 16) (by omega) (by decide)
    by_cases h8 : 32768 ≤ a
    · have e8 : (32768 : Int32) ≤ nI a := nI_le (a := 32768) h8 (by omega)
      refine ⟨z, a, c, t, bx, st, bt, (if_neg e16).trans (if_pos e8), br_f e16 (br_t e8 trivial), if_pos e8, br_t e8 trivial, hC, h8, hB, hS, ?_⟩
      have hj15 : j ≤ 15 := by omega
      omega
    · have e8 : ¬ (32768 : Int32) ≤ nI a := nI_ge (b := 32768) (by omega) (by decide)
      have ht0 := hC.2.1
      have hj15 : j < 15 := by
        by_cases q : j < 15
        · exact q
        · have : (2 : Nat) ^ 15 ≤ 2 ^ j := Nat.pow_le_pow_right (by decide) (by omega)
          omega
      have hpow : 2 ^ (j + 1) ≤ 2 * a := by rw [Nat.pow_succ]; omega
      have xa : nI a <<< (1 &&& 31 : Int32) = nI (2 * a) := q_shl1 (by omega)
      have xc : nI c <<< (1 &&& 31 : Int32) = nI (2 * c) := q_shl1 (by omega)
      have xt : nI t - 1 = nI (t - 1) := q_sub1 ht0
      have ma : 2 * nI a = nI (2 * a) := q_2x a
      have mc : 2 * nI c = nI (2 * c) := q_2x c
      have xj : nI j + 1 = nI (j + 1) := nI_1 j
      by_cases h1 : t = 1
      · subst h1
        have hd := hC.due
        have xt : nI 1 - 1 = nI 0 := by decide
        have x00 : nI 0 = 0 := by decide
        have hls := hS.ls hg0 hs
        have hz : z < 42000 := by omega
        obtain ⟨c', t', bx', bt', E1, E2, E3, E4, E5⟩ := out_both (nx := nx) (m := m) (pl := pl) (a := nI (2 * a)) (tx := nI 0) (t := nI 0) (p := p) (r := r) (bg := bg) (bb := bb) (rf := rf) (sx := sx) (px := px) hg0 hg1 hz hC.1 hls hd.1 hd.2 hB
        have hC' : CI ls (z + 1) (2 * a) c' t' := CI.new hC.1 (by omega) (by omega) E5
        obtain ⟨z2, a2, c2, t2, bx2, st2, bt2, F1, F2, F3, F4, F5⟩ := ih (j + 1) (z + 1) (2 * a) c' t' bx' _ bt' (by omega) hpow hC' E4 hS.up (by omega)
        refine ⟨z2, a2, c2, t2, bx2, st2, bt2, ?_, ?_, ?_, ?_, F5⟩
        · refine (if_neg e16).trans ((if_neg e8).trans ?_)
          dsimp only
          rw [xa, xc, xt, if_pos x00, xj, E1]
          exact F1
        · refine br_f e16 (br_f e8 ?_)
          intro x3 h3 x4 h4 x5 h5
          dsimp only at h3 h4 h5
          rw [xa] at h3; rw [xc] at h4; rw [xt] at h5
          subst h3 h4 h5
          refine br_t rfl ?_
          intro u8 h8 x9 h9
          dsimp only at h8
          rw [E1] at h8; rw [xj] at h9
          subst h8 h9
          exact F2
        · refine (if_neg e8).trans ?_
          dsimp only
          rw [ma, mc, xt, if_pos x00, E2]
          exact F3
        · refine br_f e8 ?_
          intro x3 h3 x4 h4 x5 h5
          dsimp only at h3 h4 h5
          rw [ma] at h3; rw [mc] at h4; rw [xt] at h5
          subst h3 h4 h5
          refine br_t rfl ⟨E3, ?_⟩
          intro u7 h7
          dsimp only at h7
          rw [E2] at h7
          subst h7
          exact F4
      · obtain ⟨s, rfl⟩ : ∃ s, t = s + 1 := ⟨t - 1, by omega⟩
        have hC' := hC.dbl (by omega) (by omega)
        have ht := hC.2.2.1
        rw [Nat.add_sub_cancel] at xt
        have x0 : ¬ nI s = 0 := nI_ne0 (by omega) (by omega)
        obtain ⟨z2, a2, c2, t2, bx2, st2, bt2, F1, F2, F3, F4, F5⟩ := ih (j + 1) z (2 * a) (2 * c) s bx st bt (by omega) hpow hC' hB hS (by omega)
        refine ⟨z2, a2, c2, t2, bx2, st2, bt2, ?_, ?_, ?_, ?_, F5⟩
        · refine (if_neg e16).trans ((if_neg e8).trans ?_)
          dsimp only
          rw [xa, xc, xt, if_neg x0, xj]
          exact F1
        · refine br_f e16 (br_f e8 ?_)
          intro x3 h3 x4 h4 x5 h5
          dsimp only at h3 h4 h5
          rw [xa] at h3; rw [xc] at h4; rw [xt] at h5
          subst h3 h4 h5
          refine br_f x0 ?_
          intro x7 h7
          rw [xj] at h7
          subst h7
          exact F2
        · refine (if_neg e8).trans ?_
          dsimp only
          rw [ma, mc, xt, if_neg x0]
          exact F3
        · refine br_f e8 ?_
          intro x3 h3 x4 h4 x5 h5
          dsimp only at h3 h4 h5
          rw [ma] at h3; rw [mc] at h4; rw [xt] at h5
          subst h3 h4 h5
          exact br_f x0 F4
