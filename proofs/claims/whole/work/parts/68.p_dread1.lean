/-! pure part 9: a bit is read -/
theorem q_1m (v : Nat) : 1 - nI (v % 2) = nI (1 - v % 2) := pk_sub (a := 1) (by omega)
theorem q_u16 {o : Nat} (h : o < 4294967296) : ushr (nI o) 16 = nI (o / 65536) := pk_ushrN h 16 16 (by decide)
theorem q_s16 (y : Nat) : nI y <<< (16 &&& 31 : Int32) = nI (y * 65536) := q_shlG _ 16 (by decide)
theorem m_cmp {o q : Nat} (ho : o < 4294967296) (hq : q < 2 ^ 31) : (0 ≤ lg_cmp (lN o / 65536) (nI q).toInt64) ↔ q ≤ o / 65536 := by
  rw [lg_cmp_ge, q_l hq, show (65536 : Int64) = lN 65536 from rfl, pk_lDiv (by omega) (by decide) (by decide), pk_lLE (by omega) (by omega)]
theorem m_sub {o q : Nat} (hq : q < 2 ^ 31) (h : q * 65536 ≤ o) : lN o - (nI q).toInt64 * 65536 = lN (o - q * 65536) := by
  rw [q_l hq, show (65536 : Int64) = lN 65536 from rfl, lN_mul, lN_sub h]
theorem drenew_f {nx A S E z : Nat} {bx sx px : Nat → Int32} {sg bl zz gg ll lf p0 k3 k6 : Int32} {pl sd : Bool} {m : MS} {tk a o t la : Nat} (h : GS A S E z bx m) (ha0 : 0 < a) (ha2 : a < 65536) (ho : o < 4294967296) (ht : t ≤ 8) (hla : la < 256) (htk : S + tk + 17 < 2 ^ 30) :
    ∃ tk' a' o' t' la', f_De_renew ((sg, pl, sd, nI E, nI (S + tk), nI la, nI a, nI o, nI t, bl), (zz, gg, ll, bx, sx, px)) = ((sg, pl, sd, nI E, nI (S + tk'), nI la', nI a', nI o', nI t', bl), (zz, gg, ll, bx, sx, px)) ∧
      k_De_renew ((sg, pl, sd, nI E, nI (S + tk), nI la, nI a, nI o, nI t, bl), (zz, gg, ll, bx, sx, px)) ∧
      g_M_readCoded nx p0 (nf 17) (Dm m (nI tk) (nI a) (lN o) (nI t) (nI la) lf) k3 k6 = ((if k6 = 0 then 1 - k3 else k3), Dm m (nI tk') (nI a') (lN o') (nI t') (nI la') lf) ∧
      kl_M_readCoded nx p0 (nf 17) (Dm m (nI tk) (nI a) (lN o) (nI t) (nI la) lf) k3 k6 ∧ tk ≤ tk' ∧ tk' ≤ tk + 17 ∧ 32768 ≤ a' ∧ a' < 65536 ∧ o' < 4294967296 ∧ t' ≤ 8 ∧ la' < 256 := by
  rw [f_De_renew_s]
  unfold k_De_renew
  rw [nf_eq]
  exact drenew_both h 17 0 tk a o t la rfl ha0 ha0 ha2 ho ht hla htk
set_option maxHeartbeats 1000000 in
theorem dcode_both {nx nc i P v A S E z tk a o t la : Nat} {bx sx px cx : Nat → Int32} {sg bl zz gg ll lf : Int32} {pl sd : Bool} {m : MS} (hnc : nc < 2 ^ 31) (hi : i < nc) (hP : P < 139264) (hv : v < 94) (hx : cx i = nI v) (hm : m.2.1 P = nI v) (h : GS A S E z bx m) (htk0 : 0 < tk) (ha : 32768 ≤ a) (ha2 : a < 65536) (ho : o < 4294967296) (ht : t ≤ 8) (hla : la < 256) (htk : S + tk + 17 < 2 ^ 30) :
    ∃ w tk' a' o' t' la' v', f_De_readCoded nc (nI i) ((sg, pl, sd, nI E, nI (S + tk), nI la, nI a, nI o, nI t, bl), (zz, gg, ll, bx, sx, px), cx) = (nI w, ((sg, pl, sd, nI E, nI (S + tk'), nI la', nI a', nI o', nI t', bl), (zz, gg, ll, bx, sx, px), upd cx i (nI v'))) ∧
      k_De_readCoded nc (nI i) ((sg, pl, sd, nI E, nI (S + tk), nI la, nI a, nI o, nI t, bl), (zz, gg, ll, bx, sx, px), cx) ∧
      f_M_readCoded nx (nI P) (Dm m (nI tk) (nI a) (lN o) (nI t) (nI la) lf) = (nI w, Dm (Cm m (upd m.2.1 P (nI v'))) (nI tk') (nI a') (lN o') (nI t') (nI la') lf) ∧
      k_M_readCoded nx (nI P) (Dm m (nI tk) (nI a) (lN o) (nI t) (nI la) lf) ∧ w < 2 ∧ v' < 94 ∧ tk ≤ tk' ∧ tk' ≤ tk + 17 ∧ 32768 ≤ a' ∧ a' < 65536 ∧ o' < 4294967296 ∧ t' ≤ 8 ∧ la' < 256 := by
  obtain ⟨q1, q2, q3, q4⟩ := tab_q v hv
  obtain ⟨u1, u2, u3⟩ := tab_u v hv
  obtain ⟨o1, o2, -⟩ := tab_o v hv
  have n0 : ¬ nI i < 0 := nI_pos (by omega)
  have n1 : nI i < nI nc := nI_lt hi hnc
  have ei : (nI i).toNatClampNeg = i := nI_clamp (by omega)
  have x3 : cx (nI i).toNatClampNeg = nI v := by rw [ei, hx]
  have xb : cx (nI i).toNatClampNeg &&& 1 = nI (v % 2) := by rw [x3, q_a1 (by omega)]
  have xq : f_Ta_q (cx (nI i).toNatClampNeg) = nI (qN v) := by rw [x3, q3]
  have xu : f_Ta_behindLikely (cx (nI i).toNatClampNeg) = nI (uN v) := by rw [x3, u2]
  have xo : f_Ta_behindOther (cx (nI i).toNatClampNeg) = nI (oN v) := by rw [x3, o2]
  have xa : nI a - nI (qN v) = nI (a - qN v) := pk_sub (by omega)
  have xs : ushr (nI o) 16 = nI (o / 65536) := q_u16 ho
  have hM := m_size (nx := nx) (m := Dm m (nI tk) (nI a) (lN o) (nI t) (nI la) lf) hP hv hm
  have hMb := m_bit (m := Dm m (nI tk) (nI a) (lN o) (nI t) (nI la) lf) hP hv hm
  have vP : vp_in (nI P) 139264 := vp_in_nI hP (by decide)
  have mt : ¬ (Dm m (nI tk) (nI a) (lN o) (nI t) (nI la) lf).1.2.2.2.2.2.2.2.2.2.2.2.1 = 0 := nI_ne0 htk0 (by omega)
  have mc := m_cmp (q := qN v) ho (by omega)
  by_cases hlow : qN v ≤ o / 65536
  · have elow : nI (qN v) ≤ nI (o / 65536) := nI_le hlow (by omega)
    have xy : nI o - nI (qN v) <<< (16 &&& 31 : Int32) = nI (o - qN v * 65536) := by rw [q_s16]; exact pk_sub (by omega)
    have my : lN o - (nI (qN v)).toInt64 * 65536 = lN (o - qN v * 65536) := m_sub (by omega) (by omega)
    by_cases h8 : a - qN v < 32768
    · have e8 : nI (a - qN v) < 32768 := nI_lt (b := 32768) h8 (by decide)
      by_cases hq : a - qN v < qN v
      · have eqq : nI (a - qN v) < nI (qN v) := nI_lt hq (by omega)
        have emq : ¬ nI (qN v) ≤ nI (a - qN v) := nI_ge hq (by omega)
        obtain ⟨tk', a', o', t', la', F1, F2, F3, F4, F5, F6, F7, F8, F9, F10, F11⟩ := drenew_f (nx := nx) (sg := sg) (pl := pl) (sd := sd) (bl := bl) (zz := zz) (gg := gg) (ll := ll) (sx := sx) (px := px) (lf := lf) (p0 := nI P) (k3 := nI (v % 2)) (k6 := 0) (m := Cm m (upd m.2.1 P (nI (oN v)))) (tk := tk) (a := a - qN v) (o := o - qN v * 65536) (t := t) (la := la) (h.cm _) (by omega) (by omega) (by omega) ht hla htk
        have hL := m_learn (nx := nx) (m := Dm m (nI tk) (nI (a - qN v)) (lN (o - qN v * 65536)) (nI t) (nI la) lf) false hP hv hm
        refine ⟨1 - v % 2, tk', a', o', t', la', oN v, ?_, ?_, ?_, ?_, by omega, o1, F5, F6, F7, F8, F9, F10, F11⟩
        · rw [f_De_readCoded_s]
          refine (if_neg n0).trans ((if_pos n1).trans ?_)
          dsimp only
          rw [xq, xa, xs, xy]
          refine (if_pos elow).trans ((if_pos e8).trans ((if_pos eqq).trans ?_))
          rw [xo, xb, ei, F1, q_1m]
        · refine ⟨hnc, br_f n0 (br_t n1 ?_)⟩
          intro y3 h3 y4 h4 y5 h5
          subst h3
          dsimp only at h4 h5 ⊢
          rw [xq] at h4
          subst h4
          rw [xa] at h5
          subst h5
          rw [xs]
          refine br_t elow ?_
          intro y7 h7
          rw [xy] at h7
          subst h7
          refine br_t e8 (br_t eqq ?_)
          intro y10 _
          exact ⟨F2, fun _ _ => trivial⟩
        · rw [f_M_readCoded_s]
          refine (if_neg mt).trans ?_
          rw [hM.2, hMb]
          dsimp only
          rw [xa]
          refine (if_neg emq).trans ((if_pos (mc.mpr hlow)).trans ((if_pos e8).trans ?_))
          rw [my]
          rw [hL.2, if_neg (by decide)]
          refine F3.trans ?_
          rw [if_pos rfl, q_1m]
        · refine br_f mt ⟨hM.1, fun r3 h3 => ⟨vP, ?_⟩⟩
          rw [hM.2] at h3
          subst h3
          intro x5 h5 x6 h6
          have h5 := h5.trans hMb
          have h6 := h6.trans xa
          subst h5 h6
          refine br_f emq (br_t (mc.mpr hlow) ?_)
          intro y9 h9
          have h9 := h9.trans my
          subst h9
          refine br_t e8 ⟨hL.1, fun u h => ?_⟩
          have h := h.trans hL.2
          rw [if_neg (by decide)] at h
          subst h
          exact F4
      · have eqq : ¬ nI (a - qN v) < nI (qN v) := nI_nlt (by omega) (by omega)
        have emq : nI (qN v) ≤ nI (a - qN v) := nI_le (by omega) (by omega)
        obtain ⟨tk', a', o', t', la', F1, F2, F3, F4, F5, F6, F7, F8, F9, F10, F11⟩ := drenew_f (nx := nx) (sg := sg) (pl := pl) (sd := sd) (bl := bl) (zz := zz) (gg := gg) (ll := ll) (sx := sx) (px := px) (lf := lf) (p0 := nI P) (k3 := nI (v % 2)) (k6 := 1) (m := Cm m (upd m.2.1 P (nI (uN v)))) (tk := tk) (a := a - qN v) (o := o - qN v * 65536) (t := t) (la := la) (h.cm _) (by omega) (by omega) (by omega) ht hla htk
        have hL := m_learn (nx := nx) (m := Dm m (nI tk) (nI (a - qN v)) (lN (o - qN v * 65536)) (nI t) (nI la) lf) true hP hv hm
        refine ⟨v % 2, tk', a', o', t', la', uN v, ?_, ?_, ?_, ?_, by omega, u1, F5, F6, F7, F8, F9, F10, F11⟩
        · rw [f_De_readCoded_s]
          refine (if_neg n0).trans ((if_pos n1).trans ?_)
          dsimp only
          rw [xq, xa, xs, xy]
          refine (if_pos elow).trans ((if_pos e8).trans ((if_neg eqq).trans ?_))
          rw [xu, xb, ei, F1]
        · refine ⟨hnc, br_f n0 (br_t n1 ?_)⟩
          intro y3 h3 y4 h4 y5 h5
          subst h3
          dsimp only at h4 h5 ⊢
          rw [xq] at h4
          subst h4
          rw [xa] at h5
          subst h5
          rw [xs]
          refine br_t elow ?_
          intro y7 h7
          rw [xy] at h7
          subst h7
          refine br_t e8 (br_f eqq ?_)
          intro y10 _
          exact ⟨F2, fun _ _ => trivial⟩
        · rw [f_M_readCoded_s]
          refine (if_neg mt).trans ?_
          rw [hM.2, hMb]
          dsimp only
          rw [xa]
          refine (if_pos emq).trans ((if_pos (mc.mpr hlow)).trans ((if_pos e8).trans ?_))
          rw [my]
          rw [hL.2, if_pos rfl]
          refine F3.trans ?_
          rw [if_neg (by decide)]
        · refine br_f mt ⟨hM.1, fun r3 h3 => ⟨vP, ?_⟩⟩
          rw [hM.2] at h3
          subst h3
          intro x5 h5 x6 h6
          have h5 := h5.trans hMb
          have h6 := h6.trans xa
          subst h5 h6
          refine br_t emq (br_t (mc.mpr hlow) ?_)
          intro y9 h9
          have h9 := h9.trans my
          subst h9
          refine br_t e8 ⟨hL.1, fun u h => ?_⟩
          have h := h.trans hL.2
          rw [if_pos rfl] at h
          subst h
          exact F4
    · have e8 : ¬ nI (a - qN v) < 32768 := nI_nlt (b := 32768) (by omega) (by omega)
      have emq : nI (qN v) ≤ nI (a - qN v) := nI_le (by omega) (by omega)
      refine ⟨v % 2, tk, a - qN v, o - qN v * 65536, t, la, v, ?_, ?_, ?_, ?_, by omega, hv, by omega, by omega, by omega, by omega, by omega, ht, hla⟩
      · rw [f_De_readCoded_s]
        refine (if_neg n0).trans ((if_pos n1).trans ?_)
        dsimp only
        rw [xq, xa, xs, xy]
        refine (if_pos elow).trans ((if_neg e8).trans ?_)
        rw [xb, upd_same hx]
      · refine ⟨hnc, br_f n0 (br_t n1 ?_)⟩
        intro y3 h3 y4 h4 y5 h5
        subst h3
        dsimp only at h4 h5 ⊢
        rw [xq] at h4
        subst h4
        rw [xa] at h5
        subst h5
        rw [xs]
        refine br_t elow ?_
        intro y7 h7
        exact br_f e8 trivial
      · rw [f_M_readCoded_s]
        refine (if_neg mt).trans ?_
        rw [hM.2, hMb]
        dsimp only
        rw [xa]
        refine (if_pos emq).trans ((if_pos (mc.mpr hlow)).trans ((if_neg e8).trans ?_))
        rw [my, upd_same hm]
      · refine br_f mt ⟨hM.1, fun r3 h3 => ⟨vP, ?_⟩⟩
        rw [hM.2] at h3
        subst h3
        intro x5 h5 x6 h6
        have h6 := h6.trans xa
        subst h6
        exact br_t emq (br_t (mc.mpr hlow) (fun y9 h9 => br_f e8 trivial))
  · have nlow := hlow
    have elow : ¬ nI (qN v) ≤ nI (o / 65536) := nI_ge (by omega) (by omega)
    by_cases hq : qN v ≤ a - qN v
    · have eqq : nI (qN v) ≤ nI (a - qN v) := nI_le hq (by omega)
      have emq := eqq
      obtain ⟨tk', a', o', t', la', F1, F2, F3, F4, F5, F6, F7, F8, F9, F10, F11⟩ := drenew_f (nx := nx) (sg := sg) (pl := pl) (sd := sd) (bl := bl) (zz := zz) (gg := gg) (ll := ll) (sx := sx) (px := px) (lf := lf) (p0 := nI P) (k3 := nI (v % 2)) (k6 := 0) (m := Cm m (upd m.2.1 P (nI (oN v)))) (tk := tk) (a := qN v) (o := o) (t := t) (la := la) (h.cm _) (by omega) (by omega) (by omega) ht hla htk
      have hL := m_learn (nx := nx) (m := Dm m (nI tk) (nI (qN v)) (lN (o)) (nI t) (nI la) lf) false hP hv hm
      refine ⟨1 - v % 2, tk', a', o', t', la', oN v, ?_, ?_, ?_, ?_, by omega, o1, F5, F6, F7, F8, F9, F10, F11⟩
      · rw [f_De_readCoded_s]
        refine (if_neg n0).trans ((if_pos n1).trans ?_)
        dsimp only
        rw [xq, xa, xs]
        refine (if_neg elow).trans ((if_pos eqq).trans ?_)
        rw [xo, xb, ei, F1, q_1m]
      · refine ⟨hnc, br_f n0 (br_t n1 ?_)⟩
        intro y3 h3 y4 h4 y5 h5
        subst h3
        dsimp only at h4 h5 ⊢
        rw [xq] at h4
        subst h4
        rw [xa] at h5
        subst h5
        rw [xs]
        refine br_f elow (br_t eqq ?_)
        intro y10 _
        exact ⟨F2, fun _ _ => trivial⟩
      · rw [f_M_readCoded_s]
        refine (if_neg mt).trans ?_
        rw [hM.2, hMb]
        dsimp only
        rw [xa]
        refine (if_pos emq).trans ((if_neg (fun q => nlow (mc.mp q))).trans ?_)
        rw [hL.2, if_neg (by decide)]
        refine F3.trans ?_
        rw [if_pos rfl, q_1m]
      · refine br_f mt ⟨hM.1, fun r3 h3 => ⟨vP, ?_⟩⟩
        rw [hM.2] at h3
        subst h3
        intro x5 h5 x6 h6
        have h5 := h5.trans hMb
        have h6 := h6.trans xa
        subst h5 h6
        refine br_t emq (br_f (fun q => nlow (mc.mp q)) ⟨hL.1, fun u h => ?_⟩)
        have h := h.trans hL.2
        rw [if_neg (by decide)] at h
        subst h
        exact F4
    · have eqq : ¬ nI (qN v) ≤ nI (a - qN v) := nI_ge (by omega) (by omega)
      have emq := eqq
      obtain ⟨tk', a', o', t', la', F1, F2, F3, F4, F5, F6, F7, F8, F9, F10, F11⟩ := drenew_f (nx := nx) (sg := sg) (pl := pl) (sd := sd) (bl := bl) (zz := zz) (gg := gg) (ll := ll) (sx := sx) (px := px) (lf := lf) (p0 := nI P) (k3 := nI (v % 2)) (k6 := 1) (m := Cm m (upd m.2.1 P (nI (uN v)))) (tk := tk) (a := qN v) (o := o) (t := t) (la := la) (h.cm _) (by omega) (by omega) (by omega) ht hla htk
      have hL := m_learn (nx := nx) (m := Dm m (nI tk) (nI (qN v)) (lN (o)) (nI t) (nI la) lf) true hP hv hm
      refine ⟨v % 2, tk', a', o', t', la', uN v, ?_, ?_, ?_, ?_, by omega, u1, F5, F6, F7, F8, F9, F10, F11⟩
      · rw [f_De_readCoded_s]
        refine (if_neg n0).trans ((if_pos n1).trans ?_)
        dsimp only
        rw [xq, xa, xs]
        refine (if_neg elow).trans ((if_neg eqq).trans ?_)
        rw [xu, xb, ei, F1]
      · refine ⟨hnc, br_f n0 (br_t n1 ?_)⟩
        intro y3 h3 y4 h4 y5 h5
        subst h3
        dsimp only at h4 h5 ⊢
        rw [xq] at h4
        subst h4
        rw [xa] at h5
        subst h5
        rw [xs]
        refine br_f elow (br_f eqq ?_)
        intro y10 _
        exact ⟨F2, fun _ _ => trivial⟩
      · rw [f_M_readCoded_s]
        refine (if_neg mt).trans ?_
        rw [hM.2, hMb]
        dsimp only
        rw [xa]
        refine (if_neg emq).trans ((if_neg (fun q => nlow (mc.mp q))).trans ?_)
        rw [hL.2, if_pos rfl]
        refine F3.trans ?_
        rw [if_neg (by decide)]
      · refine br_f mt ⟨hM.1, fun r3 h3 => ⟨vP, ?_⟩⟩
        rw [hM.2] at h3
        subst h3
        intro x5 h5 x6 h6
        have h5 := h5.trans hMb
        have h6 := h6.trans xa
        subst h5 h6
        refine br_f emq (br_f (fun q => nlow (mc.mp q)) ⟨hL.1, fun u h => ?_⟩)
        have h := h.trans hL.2
        rw [if_pos rfl] at h
        subst h
        exact F4
