/-! pure part 8: bytes are taken -/
theorem q_mod (n : Nat) : nI (n % 2 ^ 32) = nI n := by
  apply Int32.toBitVec_inj.mp
  apply BitVec.eq_of_toNat_eq
  show (BitVec.ofNat 32 (n % 2 ^ 32)).toNat = (BitVec.ofNat 32 n).toNat
  rw [BitVec.toNat_ofNat, BitVec.toNat_ofNat, Nat.mod_mod]
theorem q_shlG {n : Nat} (s : Int32) (k : Nat) (hs : (s.toBitVec.smod 32).toNat = k) : nI n <<< s = nI (n * 2 ^ k) := by
  apply Int32.toBitVec_inj.mp
  apply BitVec.eq_of_toNat_eq
  rw [pk_shl _ _ k hs]
  show (BitVec.ofNat 32 n).toNat * 2 ^ k % 2 ^ 32 = (BitVec.ofNat 32 (n * 2 ^ k)).toNat
  rw [BitVec.toNat_ofNat, BitVec.toNat_ofNat, Nat.mod_mul_mod]
theorem q_modL (n : Nat) : nI n = nI (n % 4294967296) := (q_mod n).symm
theorem q_s9 (y : Nat) : nI y <<< (9 &&& 31 : Int32) = nI (y * 512) := q_shlG _ 9 (by decide)
theorem q_s8 (y : Nat) : nI y <<< (8 &&& 31 : Int32) = nI (y * 256) := q_shlG _ 8 (by decide)
theorem q_lrem {n : Nat} (h : n < 2 ^ 62) : lrem (lN n) 4294967296 = lN (n % 4294967296) := pk_lRem (b := 4294967296) (by omega) (by decide) (by decide)
theorem q_l {n : Nat} (h : n < 2 ^ 31) : (nI n).toInt64 = lN n := nI_l h
abbrev Dm (m : MS) (tk ds : Int32) (ov : Int64) (dd la lf : Int32) : MS := ((m.1.1, m.1.2.1, m.1.2.2.1, m.1.2.2.2.1, m.1.2.2.2.2.1, m.1.2.2.2.2.2.1, m.1.2.2.2.2.2.2.1, m.1.2.2.2.2.2.2.2.1, m.1.2.2.2.2.2.2.2.2.1, m.1.2.2.2.2.2.2.2.2.2.1, m.1.2.2.2.2.2.2.2.2.2.2.1, tk, ds, ov, dd, la, lf, m.1.2.2.2.2.2.2.2.2.2.2.2.2.2.2.2.2.2.1, m.1.2.2.2.2.2.2.2.2.2.2.2.2.2.2.2.2.2.2.1, m.1.2.2.2.2.2.2.2.2.2.2.2.2.2.2.2.2.2.2.2), m.2.1, m.2.2.1, m.2.2.2.1, m.2.2.2.2.1, m.2.2.2.2.2)
/-- where the segment that is read lies -/
def GS (A S E z : Nat) (bx : Nat → Int32) (m : MS) : Prop := A < 1099 ∧ m.1.2.2.2.2.2.2.2.2.2.2.1 = nI A ∧ m.2.2.2.1 A = nI S ∧ m.2.2.2.1 (A + 1) = nI E ∧ S ≤ 42000 ∧ E ≤ z ∧ z ≤ 42000 ∧ BR z bx m.2.2.2.2.2
theorem byte_both {nx A S E z i : Nat} {bx sx px : Nat → Int32} {zz gg ll : Int32} {m : MS} (h : GS A S E z bx m) (hi : S + i < 2 ^ 30) :
    ∃ y, y < 256 ∧ f_Ro_byteBefore (nI E) (nI (S + i)) (zz, gg, ll, bx, sx, px) = nI y ∧ f_M_byteFrom nx (nI i) m = nI y ∧ k_M_byteFrom nx (nI i) m := by
  obtain ⟨hA, mA, mS, mE, hS, hE, hz, hB⟩ := h
  have cA : (nI A).toNatClampNeg = A := nI_clamp (by omega)
  have cA1 : (nI A + 1).toNatClampNeg = A + 1 := by rw [nI_1]; exact nI_clamp (by omega)
  have e1 : m.2.2.2.1 m.1.2.2.2.2.2.2.2.2.2.2.1.toNatClampNeg + nI i = nI (S + i) := by rw [mA, cA, mS, nI_add]
  have e2 : m.2.2.2.1 (m.1.2.2.2.2.2.2.2.2.2.2.1 + 1).toNatClampNeg = nI E := by rw [mA, cA1, mE]
  have hk : k_M_byteFrom nx (nI i) m := by
    refine ⟨by rw [mA]; exact vp_in_nI (by omega) (by decide), fun x2 h2 => ⟨by rw [mA, nI_1]; exact vp_in_nI (by omega) (by decide), br_c (fun _ => trivial) (fun q => ⟨?_, trivial⟩)⟩⟩
    rw [e1] at h2
    subst h2
    rw [e2, nI_leI (by omega) (by omega)] at q
    exact vp_in_nI (by omega) (by decide)
  by_cases hh : E ≤ S + i
  · refine ⟨255, by decide, ?_, ?_, hk⟩
    · rw [f_Ro_byteBefore_s]
      exact (if_neg (nI_pos (by omega))).trans (if_pos (nI_le hh (by omega)))
    · rw [f_M_byteFrom_s]
      refine (if_pos ?_).trans rfl
      rw [e1, e2]
      exact nI_le hh (by omega)
  · obtain ⟨b1, y, hy, b2⟩ := hB (S + i) (by omega)
    refine ⟨y, hy, ?_, ?_, hk⟩
    · rw [f_Ro_byteBefore_s]
      refine (if_neg (nI_pos (by omega))).trans ((if_neg (nI_ge (by omega) (by omega))).trans ((if_neg (nI_ge (b := 42000) (by omega) (by decide))).trans ?_))
      dsimp only
      rw [nI_clamp (by omega), b1, b2]
    · rw [f_M_byteFrom_s]
      refine (if_neg ?_).trans ?_
      · rw [e1, e2]
        exact nI_ge (by omega) (by omega)
      · rw [e1, nI_clamp (by omega), b2]
theorem GS.dm {A S E z : Nat} {bx : Nat → Int32} {m : MS} (h : GS A S E z bx m) (tk ds : Int32) (ov : Int64) (dd la lf : Int32) : GS A S E z bx (Dm m tk ds ov dd la lf) := h
theorem GS.cm {A S E z : Nat} {bx : Nat → Int32} {m : MS} (h : GS A S E z bx m) (f : Nat → Int32) : GS A S E z bx (Cm m f) := h
theorem take_both {nx A S E z tk o la : Nat} {bx sx px : Nat → Int32} {sg a tx bl zz gg ll ds dd lf : Int32} {pl sd : Bool} {m : MS} (h : GS A S E z bx m) (hi : S + tk < 2 ^ 30) (ho : o < 4294967296) (hla : la < 256) :
    ∃ tk' o' t' la', f_De_take ((sg, pl, sd, nI E, nI (S + tk), nI la, a, nI o, tx, bl), (zz, gg, ll, bx, sx, px)) = ((sg, pl, sd, nI E, nI (S + tk'), nI la', a, nI o', nI t', bl), (zz, gg, ll, bx, sx, px)) ∧
      f_M_takeByte nx (Dm m (nI tk) ds (lN o) dd (nI la) lf) = Dm m (nI tk') ds (lN o') (nI t') (nI la') lf ∧ k_M_takeByte nx (Dm m (nI tk) ds (lN o) dd (nI la) lf) ∧ tk ≤ tk' ∧ tk' ≤ tk + 1 ∧ o' < 4294967296 ∧ 7 ≤ t' ∧ t' ≤ 8 ∧ la' < 256 := by
  obtain ⟨y, hy, B1, B2, B3⟩ := byte_both (nx := nx) (sx := sx) (px := px) (zz := zz) (gg := gg) (ll := ll) (h.dm (nI tk) ds (lN o) dd (nI la) lf) hi
  have x9 : nI o + nI y <<< (9 &&& 31 : Int32) = nI ((o + y * 512) % 4294967296) := by rw [q_s9, nI_add]; exact q_modL _
  have x8 : nI o + nI y <<< (8 &&& 31 : Int32) = nI ((o + y * 256) % 4294967296) := by rw [q_s8, nI_add]; exact q_modL _
  have xf : nI o + 65280 = nI ((o + 65280) % 4294967296) := (nI_add o 65280).trans (q_modL _)
  have xp : nI (S + tk) + 1 = nI (S + (tk + 1)) := nI_1 _
  have xt : nI tk + 1 = nI (tk + 1) := nI_1 _
  have m9 : lrem (lN o + (nI y).toInt64 * 512) 4294967296 = lN ((o + y * 512) % 4294967296) := by
    rw [q_l (by omega), show (512 : Int64) = lN 512 from rfl, lN_mul, lN_add, q_lrem (by omega)]
  have m8 : lrem (lN o + (nI y).toInt64 * 256) 4294967296 = lN ((o + y * 256) % 4294967296) := by
    rw [q_l (by omega), show (256 : Int64) = lN 256 from rfl, lN_mul, lN_add, q_lrem (by omega)]
  have mf : lrem (lN o + 65280) 4294967296 = lN ((o + 65280) % 4294967296) := by
    rw [show (65280 : Int64) = lN 65280 from rfl, lN_add, q_lrem (by omega)]
  by_cases h255 : la = 255
  · subst h255
    have e255 : (Dm m (nI tk) ds (lN o) dd (nI 255) lf).1.2.2.2.2.2.2.2.2.2.2.2.2.2.2.2.1 = 255 := rfl
    by_cases h143 : y ≤ 143
    · have e143 : nI y ≤ 143 := nI_le (b := 143) h143 (by decide)
      refine ⟨tk + 1, (o + y * 512) % 4294967296, 7, y, ?_, ?_, ?_, by omega, by omega, Nat.mod_lt _ (by decide), by decide, by decide, hy⟩
      · rw [f_De_take_s]
        dsimp only
        rw [B1]
        refine (if_pos (by decide)).trans ((if_pos e143).trans ?_)
        rw [x9, xp]
        rfl
      · rw [f_M_takeByte_s]
        refine (if_pos e255).trans ?_
        rw [B2]
        refine (if_pos e143).trans ?_
        dsimp only
        rw [xt, m9]
        rfl
      · refine br_t e255 ⟨B3, fun r7 h7 => ?_⟩
        rw [B2] at h7
        subst h7
        exact br_t e143 ⟨B3, fun _ _ _ _ => trivial⟩
    · have e143 : ¬ nI y ≤ 143 := nI_ge (a := 143) (by omega) (by omega)
      refine ⟨tk, (o + 65280) % 4294967296, 8, 255, ?_, ?_, ?_, by omega, by omega, Nat.mod_lt _ (by decide), by decide, by decide, by decide⟩
      · rw [f_De_take_s]
        dsimp only
        rw [B1]
        refine (if_pos (by decide)).trans ((if_neg e143).trans ?_)
        rw [xf]
        rfl
      · rw [f_M_takeByte_s]
        refine (if_pos e255).trans ?_
        rw [B2]
        refine (if_neg e143).trans ?_
        dsimp only
        rw [mf]
        rfl
      · refine br_t e255 ⟨B3, fun r7 h7 => ?_⟩
        rw [B2] at h7
        subst h7
        exact br_f e143 (fun _ _ => trivial)
  · have e255 : ¬ nI la = 255 := fun q => h255 ((nI_eq (b := 255) (by omega) (by decide)).mp q)
    refine ⟨tk + 1, (o + y * 256) % 4294967296, 8, y, ?_, ?_, ?_, by omega, by omega, Nat.mod_lt _ (by decide), by decide, by decide, hy⟩
    · rw [f_De_take_s]
      dsimp only
      rw [B1]
      refine (if_neg e255).trans ?_
      rw [x8, xp]
      rfl
    · rw [f_M_takeByte_s]
      refine (if_neg e255).trans ?_
      rw [B2]
      dsimp only
      rw [xt, m8]
      rfl
    · exact br_f e255 ⟨B3, fun _ _ _ _ _ _ => trivial⟩
theorem q_dbl (o : Nat) : nI o <<< (1 &&& 31 : Int32) = nI (2 * o % 4294967296) := by
  rw [q_shlG _ 1 (by decide), Nat.pow_one, Nat.mul_comm]
  exact q_modL _
theorem m_dbl {o : Nat} (h : o < 4294967296) : lrem (lN o * 2) 4294967296 = lN (2 * o % 4294967296) := by
  rw [show (2 : Int64) = lN 2 from rfl, lN_mul, q_lrem (by omega), Nat.mul_comm]
/-- A is renewed -/
theorem drenew_both {nx A S E z : Nat} {bx sx px : Nat → Int32} {sg bl zz gg ll lf p0 k3 k6 : Int32} {pl sd : Bool} {m : MS} (h : GS A S E z bx m) :
    ∀ (n j tk a o t la : Nat), j + n = 17 → 2 ^ j ≤ a → 0 < a → a < 65536 → o < 4294967296 → t ≤ 8 → la < 256 → S + tk + n < 2 ^ 30 →
    ∃ tk' a' o' t' la', g_De_renew n ((sg, pl, sd, nI E, nI (S + tk), nI la, nI a, nI o, nI t, bl), (zz, gg, ll, bx, sx, px)) (nI j) = ((sg, pl, sd, nI E, nI (S + tk'), nI la', nI a', nI o', nI t', bl), (zz, gg, ll, bx, sx, px)) ∧
      kl_De_renew n ((sg, pl, sd, nI E, nI (S + tk), nI la, nI a, nI o, nI t, bl), (zz, gg, ll, bx, sx, px)) (nI j) ∧
      g_M_readCoded nx p0 n (Dm m (nI tk) (nI a) (lN o) (nI t) (nI la) lf) k3 k6 = ((if k6 = 0 then 1 - k3 else k3), Dm m (nI tk') (nI a') (lN o') (nI t') (nI la') lf) ∧
      kl_M_readCoded nx p0 n (Dm m (nI tk) (nI a) (lN o) (nI t) (nI la) lf) k3 k6 ∧ tk ≤ tk' ∧ tk' ≤ tk + n ∧ 32768 ≤ a' ∧ a' < 65536 ∧ o' < 4294967296 ∧ t' ≤ 8 ∧ la' < 256 := by
  intro n
  induction n with
  | zero =>
    intro j tk a o t la hj ha ha0 ha2
    have hj : j = 17 := by omega
    subst hj
    omega
  | succ n ih =>
    intro j tk a o t la hj ha ha0 ha2 ho ht hla htk
    rw [g_De_renew_s, kl_De_renew_s, g_M_readCoded_s, kl_M_readCoded_s]
    by_cases h16 : 16 ≤ j
    · have : (2 : Nat) ^ 16 ≤ 2 ^ j := Nat.pow_le_pow_right (by decide) h16
      omega
    have e16 : ¬ (16 : Int32) ≤ nI j := nI_ge (b := 16) (by omega) (by decide)
    by_cases h8 : 32768 ≤ a
    · have e8 : (32768 : Int32) ≤ nI a := nI_le (a := 32768) h8 (by omega)
      refine ⟨tk, a, o, t, la, (if_neg e16).trans (if_pos e8), br_f e16 (br_t e8 trivial), (if_pos e8).trans ?_, br_t e8 (br_c (fun _ => trivial) (fun _ => trivial)), by omega, by omega, h8, ha2, ho, ht, hla⟩
      by_cases q : k6 = 0
      · rw [if_pos q, if_pos q]
      · rw [if_neg q, if_neg q]
    · have e8 : ¬ (32768 : Int32) ≤ nI a := nI_ge (b := 32768) (by omega) (by decide)
      have hpow : 2 ^ (j + 1) ≤ 2 * a := by rw [Nat.pow_succ]; omega
      have xa : nI a <<< (1 &&& 31 : Int32) = nI (2 * a) := q_shl1 (by omega)
      have ma : 2 * nI a = nI (2 * a) := q_2x a
      have xj : nI j + 1 = nI (j + 1) := nI_1 j
      by_cases h0 : t = 0
      · subst h0
        obtain ⟨tk1, o1, t1, la1, E1, E2, E3, E4, E5, E6, E7, E8, E9⟩ := take_both (nx := nx) (sg := sg) (pl := pl) (sd := sd) (a := nI a) (tx := nI 0) (bl := bl) (zz := zz) (gg := gg) (ll := ll) (sx := sx) (px := px) (ds := nI a) (dd := nI 0) (lf := lf) h (show S + tk < 2 ^ 30 by omega) ho hla
        have xt : nI t1 - 1 = nI (t1 - 1) := q_sub1 (by omega)
        obtain ⟨tk2, a2, o2, t2, la2, F1, F2, F3, F4, F5, F6, F7⟩ := ih (j + 1) tk1 (2 * a) (2 * o1 % 4294967296) (t1 - 1) la1 (by omega) hpow (by omega) (by omega) (Nat.mod_lt _ (by decide)) (by omega) E9 (by omega)
        refine ⟨tk2, a2, o2, t2, la2, ?_, ?_, ?_, ?_, by omega, by omega, F7⟩
        · refine (if_neg e16).trans ((if_neg e8).trans ((if_pos (show nI 0 = 0 by decide)).trans ?_))
          rw [E1]
          dsimp only
          rw [xa, q_dbl, xt, xj]
          exact F1
        · refine br_f e16 (br_f e8 (br_t (show nI 0 = 0 by decide) ?_))
          intro u8 h8 x9 h9 x10 h10 x11 h11 x12 h12
          rw [E1] at h8
          subst h8
          have h9 := h9.trans xa
          have h10 := h10.trans (q_dbl o1)
          have h11 := h11.trans xt
          have h12 := h12.trans xj
          subst h9 h10 h11 h12
          exact F2
        · refine (if_neg e8).trans ((if_pos (show nI 0 = 0 by decide)).trans ?_)
          rw [E2]
          dsimp only
          rw [ma, m_dbl E6, xt]
          exact F3
        · refine br_f e8 (br_t (show nI 0 = 0 by decide) ⟨E3, ?_⟩)
          intro u8 h8 x9 h9 x10 h10 x11 h11
          rw [E2] at h8
          subst h8
          have h9 := h9.trans ma
          have h10 := h10.trans (m_dbl E6)
          have h11 := h11.trans xt
          subst h9 h10 h11
          exact F4
      · have x0 : ¬ nI t = 0 := nI_ne0 (by omega) (by omega)
        have xt : nI t - 1 = nI (t - 1) := q_sub1 (by omega)
        obtain ⟨tk2, a2, o2, t2, la2, F1, F2, F3, F4, F5, F6, F7⟩ := ih (j + 1) tk (2 * a) (2 * o % 4294967296) (t - 1) la (by omega) hpow (by omega) (by omega) (Nat.mod_lt _ (by decide)) (by omega) hla (by omega)
        refine ⟨tk2, a2, o2, t2, la2, ?_, ?_, ?_, ?_, by omega, by omega, F7⟩
        · refine (if_neg e16).trans ((if_neg e8).trans ((if_neg x0).trans ?_))
          dsimp only
          rw [xa, q_dbl, xt, xj]
          exact F1
        · refine br_f e16 (br_f e8 (br_f x0 ?_))
          intro x9 h9 x10 h10 x11 h11 x12 h12
          have h9 := h9.trans xa
          have h10 := h10.trans (q_dbl o)
          have h11 := h11.trans xt
          have h12 := h12.trans xj
          subst h9 h10 h11 h12
          exact F2
        · refine (if_neg e8).trans ((if_neg x0).trans ?_)
          dsimp only
          rw [ma, m_dbl ho, xt]
          exact F3
        · refine br_f e8 (br_f x0 ?_)
          intro x9 h9 x10 h10 x11 h11
          have h9 := h9.trans ma
          have h10 := h10.trans (m_dbl ho)
          have h11 := h11.trans xt
          subst h9 h10 h11
          exact F4
