/-! pure part 11: a bit is read, coded or as it is -/
set_option maxHeartbeats 1000000 in
theorem read_both {nx nc i P v g ls z T : Nat} {d : DeS} {r : RoS} {m : MS} {cx : Nat → Int32} (hnc : nc < 2 ^ 31) (hi : i < nc) (hP : P < 139264) (hv : v < 94) (hx : cx i = nI v) (hm : m.2.1 P = nI v) (hz : z ≤ 42000) (hT : T ≤ 1000000000) (hR : RR g ls z r m) (hD : DR T g d m) :
    ∃ w v' d' tk ds ov dd la lf, f_De_read nc (nI i) (d, r, cx) = (nI w, (d', r, upd cx i (nI v'))) ∧ k_De_read nc (nI i) (d, r, cx) ∧
      f_M_readBit nx (nI P) m = (nI w, Dm (Cm m (upd m.2.1 P (nI v'))) tk ds ov dd la lf) ∧ k_M_readBit nx (nI P) m ∧ w < 2 ∧ v' < 94 ∧ DR (T + 20) g d' (Dm (Cm m (upd m.2.1 P (nI v'))) tk ds ov dd la lf) := by
  obtain ⟨bx, sx, px, rfl, R1, R2, hB, hS, hs, hp, hl, hg0, hg1, hz0⟩ := hR
  obtain ⟨A, hA, d1, mA, hpl, hmv, hd⟩ := hD
  obtain ⟨S, E, hG, hst, hen⟩ := rr_seg (px := px) hA hg1 hz hl hB hS mA
  obtain ⟨sg, pl, sd, en, ps, lt, da, dc, dt, bl⟩ := d
  dsimp only at d1 hpl hd
  subst d1
  have vA : vp_in m.1.2.2.2.2.2.2.2.2.2.2.1 1100 := by rw [mA]; exact vp_in_nI (by omega) (by decide)
  have eA : m.2.2.2.2.1 m.1.2.2.2.2.2.2.2.2.2.2.1.toNatClampNeg = bI pl := by rw [mA, nI_clamp (by omega), hpl]
  have kg : nI g ≤ 513 := nI_le (b := 513) hg1 (by decide)
  have hS42 := hG.2.2.2.2.1
  cases pl with
  | false =>
    have hraw : m.2.2.2.2.1 m.1.2.2.2.2.2.2.2.2.2.2.1.toNatClampNeg = 0 := eA
    rcases hd with ⟨rfl, m0, rfl, rfl, mL⟩ | ⟨rfl, S', E', tk, la, s1, s2, rfl, rfl, mtk, htk0, htkT, rfl, mla, hla, hco, -⟩
    · -- not begun
      have m0' : m.1.2.2.2.2.2.2.2.2.2.2.2.1 = 0 := m0
      obtain ⟨y, hy, B1, B2, B3⟩ := byte_both (nx := nx) (sx := sx) (px := px) (zz := nI z) (gg := nI g) (ll := nI ls) (i := 0) hG (by omega)
      have hy64 : (nI y).toInt64 * 65536 = lN (y * 65536) := by rw [q_l (by omega), show (65536 : Int64) = lN 65536 from rfl, lN_mul]
      obtain ⟨tk1, o1, t1, la1, E1, E2, E3, E4, E5, E6, E7, E8, E9⟩ := take_both (nx := nx) (sg := nI A) (pl := false) (sd := true) (a := da) (tx := dt) (bl := 0) (zz := nI z) (gg := nI g) (ll := nI ls) (sx := sx) (px := px) (ds := m.1.2.2.2.2.2.2.2.2.2.2.2.2.1) (dd := m.1.2.2.2.2.2.2.2.2.2.2.2.2.2.2.1) (lf := m.1.2.2.2.2.2.2.2.2.2.2.2.2.2.2.2.2.1) (tk := 1) (o := y * 65536) (la := y) hG (by omega) (by omega) hy
      rw [← hy64] at E2 E3
      have xt : nI t1 - 7 = nI (t1 - 7) := pk_sub (b := 7) E7
      obtain ⟨G1, G2⟩ := m_start (P := P) m0' B2 B3 E3 E2 (nI_ne0 (n := tk1) (by omega) (by omega))
      rw [ml_128 E6, xt] at G1 G2
      have hs0 : f_De_start ((nI A, false, false, en, ps, -1, da, dc, dt, 0), (nI z, nI g, nI ls, bx, sx, px)) = ((nI A, false, true, nI E, nI (S + tk1), nI la1, nI 32768, nI (o1 * 128 % 4294967296), nI (t1 - 7), 0), (nI z, nI g, nI ls, bx, sx, px)) := by
        rw [f_De_start_s]
        refine (if_pos bI_f0).trans ?_
        dsimp only
        rw [hst, hen, show f_Ro_byteBefore (nI E) (nI S) (nI z, nI g, nI ls, bx, sx, px) = nI y from B1, nI_1, q_s16, E1]
        dsimp only
        rw [q_128, xt]
        rfl
      have hk0 : k_De_start ((nI A, false, false, en, ps, -1, da, dc, dt, 0), (nI z, nI g, nI ls, bx, sx, px)) :=
        ⟨kg, fun _ _ => ⟨⟨kg, fun _ _ => trivial⟩, fun _ _ => br_t bI_f0 (fun _ _ _ _ _ _ _ _ _ _ _ _ => trivial)⟩⟩
      obtain ⟨w, tk', a', o', t', la', v', F1, F2, F3, F4, F5, F6, F7, F8, F9, F10, F11, F12, F13⟩ := dcode_both (nx := nx) (sg := nI A) (pl := false) (sd := true) (bl := 0) (zz := nI z) (gg := nI g) (ll := nI ls) (sx := sx) (px := px) (lf := m.1.2.2.2.2.2.2.2.2.2.2.2.2.2.2.2.2.1) (tk := tk1) (a := 32768) (o := o1 * 128 % 4294967296) (t := t1 - 7) (la := la1) hnc hi hP hv hx hm hG (by omega) (by decide) (by decide) (Nat.mod_lt _ (by decide)) (by omega) E9 (by omega)
      refine ⟨w, v', (nI A, false, true, nI E, nI (S + tk'), nI la', nI a', nI o', nI t', 0), nI tk', nI a', lN o', nI t', nI la', m.1.2.2.2.2.2.2.2.2.2.2.2.2.2.2.2.2.1, ?_, ?_, ?_, ?_, F5, F6, ⟨A, hA, rfl, mA, hpl, hmv, Or.inr ⟨rfl, S, E, tk', la', hG.2.2.1, hG.2.2.2.1, rfl, rfl, rfl, by omega, by omega, rfl, rfl, F13, fun _ => ⟨a', o', t', rfl, rfl, F9, F10, rfl, rfl, F11, rfl, rfl, F12⟩, fun q => Bool.noConfusion q⟩⟩⟩
      · rw [f_De_read_s]
        refine (if_pos bI_f0).trans ?_
        dsimp only
        rw [hs0]
        refine (if_pos bI_f0).trans ?_
        rw [F1]
      · refine br_t bI_f0 ⟨hk0, fun u7 h7 => ?_⟩
        have h7 := h7.trans hs0
        subst h7
        exact br_t bI_f0 ⟨F2, fun _ _ _ _ => trivial⟩
      · rw [f_M_readBit_s]
        refine (if_pos hraw).trans ?_
        rw [G1]
        exact congrArg (fun q : Int32 × MS => (q.1, q.2)) F3
      · exact ⟨vA, br_t hraw ⟨G2 F4, fun _ _ _ _ => trivial⟩⟩
    · obtain ⟨a, o, t, c1, c2, ha, ha2, c3, c4, ho, c5, c6, ht⟩ := hco rfl
      subst c1 c3 c5
      have hSS : nI S = nI S' := hG.2.2.1.symm.trans s1
      have hEE : nI E' = nI E := s2.symm.trans hG.2.2.2.1
      have hpp : nI (S' + tk) = nI (S + tk) := by rw [← nI_add, ← hSS, nI_add]
      rw [hEE, hpp]
      obtain ⟨w, tk', a', o', t', la', v', F1, F2, F3, F4, F5, F6, F7, F8, F9, F10, F11, F12, F13⟩ := dcode_both (nx := nx) (sg := nI A) (pl := false) (sd := true) (bl := bl) (zz := nI z) (gg := nI g) (ll := nI ls) (sx := sx) (px := px) (lf := m.1.2.2.2.2.2.2.2.2.2.2.2.2.2.2.2.2.1) hnc hi hP hv hx hm hG htk0 ha ha2 ho ht hla (by omega)
      rw [← Dm_self mtk c2 c4 c6 mla rfl] at F3 F4
      refine ⟨w, v', (nI A, false, true, nI E, nI (S + tk'), nI la', nI a', nI o', nI t', bl), nI tk', nI a', lN o', nI t', nI la', m.1.2.2.2.2.2.2.2.2.2.2.2.2.2.2.2.2.1, ?_, ?_, ?_, ?_, F5, F6, ⟨A, hA, rfl, mA, hpl, hmv, Or.inr ⟨rfl, S, E, tk', la', hG.2.2.1, hG.2.2.2.1, rfl, rfl, rfl, by omega, by omega, rfl, rfl, F13, fun _ => ⟨a', o', t', rfl, rfl, F9, F10, rfl, rfl, F11, rfl, rfl, F12⟩, fun q => Bool.noConfusion q⟩⟩⟩
      · rw [f_De_read_s]
        refine (if_neg bI_t0).trans ((if_pos bI_f0).trans ?_)
        dsimp only
        rw [F1]
      · exact br_f bI_t0 (br_t bI_f0 ⟨F2, fun _ _ _ _ => trivial⟩)
      · rw [f_M_readBit_s]
        refine (if_pos hraw).trans ?_
        exact congrArg (fun q : Int32 × MS => (q.1, q.2)) F3
      · exact ⟨vA, br_t hraw ⟨F4, fun _ _ _ _ => trivial⟩⟩
  | true =>
    have hraw : ¬ m.2.2.2.2.1 m.1.2.2.2.2.2.2.2.2.2.2.1.toNatClampNeg = 0 := by rw [eA]; decide
    -- the class's half with a byte that is taken at position S + n, R bits of it
    have taken : ∀ (y n R : Nat) (W : DeS × RoS) , y < 256 → R < 8 → True := fun _ _ _ _ _ _ => trivial
    rcases hd with ⟨rfl, m0, rfl, rfl, mL⟩ | ⟨rfl, S', E', tk, la, s1, s2, rfl, rfl, mtk, htk0, htkT, rfl, mla, hla, -, hpo⟩
    · have m0' : m.1.2.2.2.2.2.2.2.2.2.2.2.1 = 0 := m0
      obtain ⟨y, hy, B1, B2, B3⟩ := byte_both (nx := nx) (sx := sx) (px := px) (zz := nI z) (gg := nI g) (ll := nI ls) (i := 0) hG (by omega)
      have B2' : f_M_byteFrom nx m.1.2.2.2.2.2.2.2.2.2.2.2.1 m = nI y := by rw [m0']; exact B2
      have B3' : k_M_byteFrom nx m.1.2.2.2.2.2.2.2.2.2.2.2.1 m := by rw [m0']; exact B3
      obtain ⟨b1, b2⟩ := bit_both hy (show 7 < 8 by decide)
      have hs0 : f_De_start ((nI A, true, false, en, ps, -1, da, dc, dt, 0), (nI z, nI g, nI ls, bx, sx, px)) = ((nI A, true, true, nI E, nI S, -1, da, dc, dt, 0), (nI z, nI g, nI ls, bx, sx, px)) := by
        rw [f_De_start_s]
        refine (if_neg bI_t0).trans ?_
        dsimp only
        rw [hst, hen]
      have hk0 : k_De_start ((nI A, true, false, en, ps, -1, da, dc, dt, 0), (nI z, nI g, nI ls, bx, sx, px)) :=
        ⟨kg, fun _ _ => ⟨⟨kg, fun _ _ => trivial⟩, fun _ _ => br_f bI_t0 trivial⟩⟩
      have hrp : f_De_readPlain ((nI A, true, true, nI E, nI S, -1, da, dc, dt, 0), (nI z, nI g, nI ls, bx, sx, px)) = (nI (y / 2 ^ 7 % 2), ((nI A, true, true, nI E, nI (S + 1), nI y, da, dc, dt, nI 7), (nI z, nI g, nI ls, bx, sx, px))) := by
        rw [f_De_readPlain_s]
        refine (if_neg (show ¬ (0 : Int32) < 0 by decide)).trans ((if_neg (show ¬ (-1 : Int32) = 255 by decide)).trans ?_)
        dsimp only
        rw [show f_Ro_byteBefore (nI E) (nI S) (nI z, nI g, nI ls, bx, sx, px) = nI y from B1, nI_1, show (8 - 1 : Int32) = nI 7 by decide, b1]
      refine ⟨y / 2 ^ 7 % 2, v, (nI A, true, true, nI E, nI (S + 1), nI y, da, dc, dt, nI 7), nI 1, m.1.2.2.2.2.2.2.2.2.2.2.2.2.1, m.1.2.2.2.2.2.2.2.2.2.2.2.2.2.1, m.1.2.2.2.2.2.2.2.2.2.2.2.2.2.2.1, nI y, nI 7, ?_, ?_, ?_, ?_, Nat.mod_lt _ (by decide), hv, ⟨A, hA, rfl, mA, hpl, hmv, Or.inr ⟨rfl, S, E, 1, y, hG.2.2.1, hG.2.2.2.1, rfl, rfl, rfl, by decide, by omega, rfl, rfl, hy, fun q => Bool.noConfusion q, fun _ => ⟨7, by decide, rfl, rfl⟩⟩⟩⟩
      · rw [f_De_read_s]
        refine (if_pos bI_f0).trans ?_
        dsimp only
        rw [hs0]
        refine (if_neg bI_t0).trans ?_
        rw [hrp, upd_same hx]
      · refine br_t bI_f0 ⟨hk0, fun u7 h7 => ?_⟩
        have h7 := h7.trans hs0
        subst h7
        exact br_f bI_t0 (fun _ _ _ _ => trivial)
      · rw [f_M_readBit_s]
        refine (if_neg hraw).trans ?_
        rw [f_M_readRaw_s, upd_same hm]
        have e : (if m.1.2.2.2.2.2.2.2.2.2.2.2.2.2.2.2.2.1 = 0 then if m.1.2.2.2.2.2.2.2.2.2.2.2.1 ≤ 0 then true else false else false) = true := by rw [if_pos mL, if_pos (by rw [m0']; decide)]
        rw [if_pos mL, if_pos (show m.1.2.2.2.2.2.2.2.2.2.2.2.1 ≤ 0 by rw [m0']; decide)]
        dsimp only
        rw [B2', m0', show (8 - 1 : Int32) = nI 7 by decide, b2]
        rfl
      · exact ⟨vA, br_f hraw ⟨br_t mL (br_t (by rw [m0']; decide) ⟨B3', fun _ _ _ _ _ _ => trivial⟩), fun _ _ _ _ => trivial⟩⟩
    · obtain ⟨L, hL, l1, l2⟩ := hpo rfl
      subst l1
      have hSS : nI S = nI S' := hG.2.2.1.symm.trans s1
      have hEE : nI E' = nI E := s2.symm.trans hG.2.2.2.1
      have hpp : nI (S' + tk) = nI (S + tk) := by rw [← nI_add, ← hSS, nI_add]
      rw [hEE, hpp]
      have ntk : ¬ m.1.2.2.2.2.2.2.2.2.2.2.2.1 ≤ 0 := by rw [mtk]; exact nI_nle htk0 (by omega)
      by_cases h0 : L = 0
      · subst h0
        have mL : m.1.2.2.2.2.2.2.2.2.2.2.2.2.2.2.2.2.1 = 0 := l2
        obtain ⟨y, hy, B1, B2, B3⟩ := byte_both (nx := nx) (sx := sx) (px := px) (zz := nI z) (gg := nI g) (ll := nI ls) (i := tk) hG (by omega)
        have B2' : f_M_byteFrom nx m.1.2.2.2.2.2.2.2.2.2.2.2.1 m = nI y := by rw [mtk]; exact B2
        have B3' : k_M_byteFrom nx m.1.2.2.2.2.2.2.2.2.2.2.2.1 m := by rw [mtk]; exact B3
        by_cases h255 : la = 255
        · subst h255
          obtain ⟨b1, b2⟩ := bit_both hy (show 6 < 8 by decide)
          refine ⟨y / 2 ^ 6 % 2, v, (nI A, true, true, nI E, nI (S + (tk + 1)), nI y, da, dc, dt, nI 6), nI (tk + 1), m.1.2.2.2.2.2.2.2.2.2.2.2.2.1, m.1.2.2.2.2.2.2.2.2.2.2.2.2.2.1, m.1.2.2.2.2.2.2.2.2.2.2.2.2.2.2.1, nI y, nI 6, ?_, ?_, ?_, ?_, Nat.mod_lt _ (by decide), hv, ⟨A, hA, rfl, mA, hpl, hmv, Or.inr ⟨rfl, S, E, tk + 1, y, hG.2.2.1, hG.2.2.2.1, rfl, rfl, rfl, by omega, by omega, rfl, rfl, hy, fun q => Bool.noConfusion q, fun _ => ⟨6, by decide, rfl, rfl⟩⟩⟩⟩
          · rw [f_De_read_s]
            refine (if_neg bI_t0).trans ((if_neg bI_t0).trans ?_)
            rw [f_De_readPlain_s]
            dsimp only
            rw [if_neg (show ¬ (0 : Int32) < nI 0 by decide), if_pos (show nI 255 = 255 by decide)]
            dsimp only
            rw [B1, nI_1, show (7 - 1 : Int32) = nI 6 by decide, b1, upd_same hx, Nat.add_assoc]
          · exact br_f bI_t0 (br_f bI_t0 (fun _ _ _ _ => trivial))
          · rw [f_M_readBit_s]
            refine (if_neg hraw).trans ?_
            rw [f_M_readRaw_s, upd_same hm]
            rw [if_pos mL, if_neg ntk, if_pos (show m.1.2.2.2.2.2.2.2.2.2.2.2.2.2.2.2.1 = 255 from mla)]
            dsimp only
            rw [B2', mtk, nI_1, show (7 - 1 : Int32) = nI 6 by decide, b2]
          · exact ⟨vA, br_f hraw ⟨br_t mL (br_f ntk (br_t mla ⟨B3', fun _ _ _ _ _ _ => trivial⟩)), fun _ _ _ _ => trivial⟩⟩
        · have n255 : ¬ nI la = 255 := fun q => h255 ((nI_eq (b := 255) (by omega) (by decide)).mp q)
          have m255 : ¬ m.1.2.2.2.2.2.2.2.2.2.2.2.2.2.2.2.1 = 255 := by rw [mla]; exact n255
          obtain ⟨b1, b2⟩ := bit_both hy (show 7 < 8 by decide)
          refine ⟨y / 2 ^ 7 % 2, v, (nI A, true, true, nI E, nI (S + (tk + 1)), nI y, da, dc, dt, nI 7), nI (tk + 1), m.1.2.2.2.2.2.2.2.2.2.2.2.2.1, m.1.2.2.2.2.2.2.2.2.2.2.2.2.2.1, m.1.2.2.2.2.2.2.2.2.2.2.2.2.2.2.1, nI y, nI 7, ?_, ?_, ?_, ?_, Nat.mod_lt _ (by decide), hv, ⟨A, hA, rfl, mA, hpl, hmv, Or.inr ⟨rfl, S, E, tk + 1, y, hG.2.2.1, hG.2.2.2.1, rfl, rfl, rfl, by omega, by omega, rfl, rfl, hy, fun q => Bool.noConfusion q, fun _ => ⟨7, by decide, rfl, rfl⟩⟩⟩⟩
          · rw [f_De_read_s]
            refine (if_neg bI_t0).trans ((if_neg bI_t0).trans ?_)
            rw [f_De_readPlain_s]
            dsimp only
            rw [if_neg (show ¬ (0 : Int32) < nI 0 by decide), if_neg n255]
            dsimp only
            rw [B1, nI_1, show (8 - 1 : Int32) = nI 7 by decide, b1, upd_same hx, Nat.add_assoc]
          · exact br_f bI_t0 (br_f bI_t0 (fun _ _ _ _ => trivial))
          · rw [f_M_readBit_s]
            refine (if_neg hraw).trans ?_
            rw [f_M_readRaw_s, upd_same hm]
            rw [if_pos mL, if_neg ntk, if_neg m255]
            dsimp only
            rw [B2', mtk, nI_1, show (8 - 1 : Int32) = nI 7 by decide, b2]
          · exact ⟨vA, br_f hraw ⟨br_t mL (br_f ntk (br_f m255 ⟨B3', fun _ _ _ _ _ _ => trivial⟩)), fun _ _ _ _ => trivial⟩⟩
      · have mL : ¬ m.1.2.2.2.2.2.2.2.2.2.2.2.2.2.2.2.2.1 = 0 := by rw [l2]; exact nI_ne0 (by omega) (by omega)
        have xl : nI L - 1 = nI (L - 1) := q_sub1 (by omega)
        obtain ⟨b1, b2⟩ := bit_both hla (show L - 1 < 8 by omega)
        refine ⟨la / 2 ^ (L - 1) % 2, v, (nI A, true, true, nI E, nI (S + tk), nI la, da, dc, dt, nI (L - 1)), nI tk, m.1.2.2.2.2.2.2.2.2.2.2.2.2.1, m.1.2.2.2.2.2.2.2.2.2.2.2.2.2.1, m.1.2.2.2.2.2.2.2.2.2.2.2.2.2.2.1, nI la, nI (L - 1), ?_, ?_, ?_, ?_, Nat.mod_lt _ (by decide), hv, ⟨A, hA, rfl, mA, hpl, hmv, Or.inr ⟨rfl, S, E, tk, la, hG.2.2.1, hG.2.2.2.1, rfl, rfl, rfl, by omega, by omega, rfl, rfl, hla, fun q => Bool.noConfusion q, fun _ => ⟨L - 1, by omega, rfl, rfl⟩⟩⟩⟩
        · rw [f_De_read_s]
          refine (if_neg bI_t0).trans ((if_neg bI_t0).trans ?_)
          rw [f_De_readPlain_s]
          dsimp only
          rw [if_pos (show (0 : Int32) < nI L from nI_lt (a := 0) (by omega) (by omega))]
          dsimp only
          rw [xl, b1, upd_same hx]
        · exact br_f bI_t0 (br_f bI_t0 (fun _ _ _ _ => trivial))
        · rw [f_M_readBit_s]
          refine (if_neg hraw).trans ?_
          rw [f_M_readRaw_s, upd_same hm]
          rw [if_neg mL]
          dsimp only
          rw [l2, xl, mla, b2, mtk]
        · exact ⟨vA, br_f hraw ⟨br_f mL (fun _ _ => trivial), fun _ _ _ _ => trivial⟩⟩
