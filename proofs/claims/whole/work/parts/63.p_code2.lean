/-! pure part 4: coding a bit, class and reference -/
abbrev Cm (m : MS) (f : Nat → Int32) : MS := (m.1, f, m.2.2)
theorem upd_same {f : Nat → Int32} {k : Nat} {x : Int32} (h : f k = x) : upd f k x = f := by
  funext j
  by_cases e : j = k
  · subst e; rw [q_upd, h]
  · rw [q_updn _ _ e]
theorem renew_f {nx g ls z a c t : Nat} {pl : Bool} {p r bg bb rf p0 p1 : Int32} {m : MS} {sx px bx st bt : Nat → Int32} (hg0 : 0 < g) (hg1 : g < 1100) (hs : sx (g - 1) = nI ls) (K : Nat) (hK : K ≤ 293988)
    (hC : CI ls z a c t) (hB : BR z bx bt) (hS : SR g ls z sx st) (hp : 7 * z + 15 ≤ t + K) :
    ∃ z' a' c' t' bx' st' bt', f_En_renew ((pl, nI a, nI c, nI t, bg, bb, rf), (nI z, nI g, nI ls, bx, sx, px)) = ((pl, nI a', nI c', nI t', bg, bb, rf), (nI z', nI g, nI ls, bx', sx, px)) ∧
      k_En_renew ((pl, nI a, nI c, nI t, bg, bb, rf), (nI z, nI g, nI ls, bx, sx, px)) ∧
      g_M_writeCoded nx p0 p1 (nf 17) (Wm m (nI g) (nI z) (nI a) (nI c) (nI t) p r st bt) = Wm m (nI g) (nI z') (nI a') (nI c') (nI t') p r st' bt' ∧
      kl_M_writeCoded nx p0 p1 (nf 17) (Wm m (nI g) (nI z) (nI a) (nI c) (nI t) p r st bt) ∧
      CI ls z' a' c' t' ∧ 32768 ≤ a' ∧ BR z' bx' bt' ∧ SR g ls z' sx st' ∧ 7 * z' ≤ t' + K := by
  rw [f_En_renew_s]
  unfold k_En_renew
  rw [nf_eq]
  exact renew_both hg0 hg1 hs K hK 17 0 z a c t bx st bt rfl hC.2.2.2.1 hC hB hS (by omega)
set_option maxHeartbeats 1000000 in
theorem code_both {nx nc i P v b g ls z a c t : Nat} {pl : Bool} {p r bg bb rf : Int32} {m : MS} {sx px bx st bt cx : Nat → Int32} (hnc : nc < 2 ^ 31) (hi : i < nc) (hP : P < 139264) (hv : v < 94) (hx : cx i = nI v) (hm : m.2.1 P = nI v) (hb : b < 2)
    (hg0 : 0 < g) (hg1 : g < 1100) (hs : sx (g - 1) = nI ls) (K : Nat) (hK : K + 15 ≤ 293988)
    (hC : CI ls z a c t) (ha : 32768 ≤ a) (hB : BR z bx bt) (hS : SR g ls z sx st) (hp : 7 * z ≤ t + K) :
    ∃ z' a' c' t' v' bx' st' bt', f_En_code nc (nI i) (nI b) ((pl, nI a, nI c, nI t, bg, bb, rf), (nI z, nI g, nI ls, bx, sx, px), cx) = ((pl, nI a', nI c', nI t', bg, bb, rf), (nI z', nI g, nI ls, bx', sx, px), upd cx i (nI v')) ∧
      k_En_code nc (nI i) (nI b) ((pl, nI a, nI c, nI t, bg, bb, rf), (nI z, nI g, nI ls, bx, sx, px), cx) ∧
      f_M_writeCoded nx (nI P) (nI b) (Wm m (nI g) (nI z) (nI a) (nI c) (nI t) p r st bt) = Wm (Cm m (upd m.2.1 P (nI v'))) (nI g) (nI z') (nI a') (nI c') (nI t') p r st' bt' ∧
      k_M_writeCoded nx (nI P) (nI b) (Wm m (nI g) (nI z) (nI a) (nI c) (nI t) p r st bt) ∧
      v' < 94 ∧ CI ls z' a' c' t' ∧ 32768 ≤ a' ∧ BR z' bx' bt' ∧ SR g ls z' sx st' ∧ 7 * z' ≤ t' + (K + 15) := by
  obtain ⟨q1, q2, q3, q4⟩ := tab_q v hv
  obtain ⟨u1, u2, u3⟩ := tab_u v hv
  obtain ⟨o1, o2, -⟩ := tab_o v hv
  have ha2 : a < 65536 := hC.2.2.2.2.1
  have hcc := hC.c
  have n0 : ¬ nI i < 0 := nI_pos (by omega)
  have n1 : nI i < nI nc := nI_lt hi hnc
  have ei : (nI i).toNatClampNeg = i := nI_clamp (by omega)
  have x3 : cx (nI i).toNatClampNeg = nI v := by rw [ei, hx]
  have xb : cx (nI i).toNatClampNeg &&& 1 = nI (v % 2) := by rw [x3, q_a1 (by omega)]
  have xq : f_Ta_q (cx (nI i).toNatClampNeg) = nI (qN v) := by rw [x3, q3]
  have xu : f_Ta_behindLikely (cx (nI i).toNatClampNeg) = nI (uN v) := by rw [x3, u2]
  have xo : f_Ta_behindOther (cx (nI i).toNatClampNeg) = nI (oN v) := by rw [x3, o2]
  have xa : nI a - nI (qN v) = nI (a - qN v) := pk_sub (by omega)
  have xc : nI c + nI (qN v) = nI (c + qN v) := nI_add _ _
  have hM := m_size (nx := nx) (m := Wm m (nI g) (nI z) (nI a) (nI c) (nI t) p r st bt) hP hv hm
  have hMb := m_bit (m := Wm m (nI g) (nI z) (nI a) (nI c) (nI t) p r st bt) hP hv hm
  have vP : vp_in (nI P) 139264 := vp_in_nI hP (by decide)
  by_cases hl : b = v % 2
  · have xl : nI b = cx (nI i).toNatClampNeg &&& 1 := by rw [xb, hl]
    have ml : nI b = irem ((Wm m (nI g) (nI z) (nI a) (nI c) (nI t) p r st bt).2.1 (nI P).toNatClampNeg) 2 := by rw [hMb, hl]
    by_cases h8 : a - qN v < 32768
    · have e8 : nI (a - qN v) < 32768 := nI_lt (b := 32768) h8 (by decide)
      by_cases hq : qN v ≤ a - qN v
      · -- the likely bit, the upper part
        have eq : nI (qN v) ≤ nI (a - qN v) := nI_le hq (by omega)
        have hC' : CI ls z (a - qN v) (c + qN v) t := hC.sub (by omega) (by omega) (by omega)
        obtain ⟨z', a', c', t', bx', st', bt', F1, F2, F3, F4, F5, F6, F7, F8, F9⟩ := renew_f (nx := nx) (pl := pl) (p := p) (r := r) (bg := bg) (bb := bb) (rf := rf) (p0 := nI P) (p1 := nI b) (m := Cm m (upd m.2.1 P (nI (uN v)))) (px := px) hg0 hg1 hs (K + 15) hK hC' hB hS (by omega)
        have hL := m_learn (nx := nx) (m := Wm m (nI g) (nI z) (nI (a - qN v)) (nI (c + qN v)) (nI t) p r st bt) true hP hv hm
        refine ⟨z', a', c', t', uN v, bx', st', bt', ?_, ?_, ?_, ?_, u1, F5, F6, F7, F8, F9⟩
        · rw [f_En_code_s]
          refine (if_neg n0).trans ((if_pos n1).trans ((if_pos xl).trans ?_))
          dsimp only
          rw [xq, xa, xc, xu, ei, if_pos e8, if_pos eq, F1]
        · refine ⟨hnc, br_f n0 (br_t n1 ?_)⟩
          intro y3 h3 y4 h4
          subst h3
          dsimp only at h4 ⊢
          rw [xq] at h4
          subst h4
          refine br_t xl ?_
          intro y17 h17
          rw [xa] at h17
          subst h17
          refine br_t e8 (br_t eq ?_)
          intro y20 h20 y21 _
          rw [xc] at h20
          subst h20
          exact ⟨F2, fun _ _ => trivial⟩
        · rw [f_M_writeCoded_s]
          refine (if_pos ml).trans ?_
          rw [hM.2]
          dsimp only
          rw [xa, xc]
          refine (if_pos e8).trans ((if_pos eq).trans ?_)
          rw [hL.2, if_pos rfl]
          exact F3
        · refine ⟨hM.1, fun r2 hr2 => ⟨vP, ?_⟩⟩
          rw [hM.2] at hr2
          subst hr2
          refine br_t ml ?_
          intro y12 h12
          have h12 : y12 = nI (a - qN v) := h12.trans xa
          subst h12
          refine br_t e8 (br_t eq ?_)
          intro y15 h15
          have h15 : y15 = nI (c + qN v) := h15.trans xc
          subst h15
          refine ⟨hL.1, fun u17 h17 => ?_⟩
          have h17 := h17.trans hL.2
          rw [if_pos rfl] at h17
          subst h17
          exact F4
      · have eq : ¬ nI (qN v) ≤ nI (a - qN v) := nI_ge (by omega) (by omega)
        have hC' : CI ls z (qN v) c t := hC.sub (by omega) (by omega) (by omega)
        obtain ⟨z', a', c', t', bx', st', bt', F1, F2, F3, F4, F5, F6, F7, F8, F9⟩ := renew_f (nx := nx) (pl := pl) (p := p) (r := r) (bg := bg) (bb := bb) (rf := rf) (p0 := nI P) (p1 := nI b) (m := Cm m (upd m.2.1 P (nI (uN v)))) (px := px) hg0 hg1 hs (K + 15) hK hC' hB hS (by omega)
        have hL := m_learn (nx := nx) (m := Wm m (nI g) (nI z) (nI (qN v)) (nI c) (nI t) p r st bt) true hP hv hm
        refine ⟨z', a', c', t', uN v, bx', st', bt', ?_, ?_, ?_, ?_, u1, F5, F6, F7, F8, F9⟩
        · rw [f_En_code_s]
          refine (if_neg n0).trans ((if_pos n1).trans ((if_pos xl).trans ?_))
          dsimp only
          rw [xq, xa, xu, ei, if_pos e8, if_neg eq, F1]
        · refine ⟨hnc, br_f n0 (br_t n1 ?_)⟩
          intro y3 h3 y4 h4
          subst h3
          dsimp only at h4 ⊢
          rw [xq] at h4
          subst h4
          refine br_t xl ?_
          intro y17 h17
          rw [xa] at h17
          subst h17
          refine br_t e8 (br_f eq ?_)
          intro y21 _
          exact ⟨F2, fun _ _ => trivial⟩
        · rw [f_M_writeCoded_s]
          refine (if_pos ml).trans ?_
          rw [hM.2]
          dsimp only
          rw [xa]
          refine (if_pos e8).trans ((if_neg eq).trans ?_)
          rw [hL.2, if_pos rfl]
          exact F3
        · refine ⟨hM.1, fun r2 hr2 => ⟨vP, ?_⟩⟩
          rw [hM.2] at hr2
          subst hr2
          refine br_t ml ?_
          intro y12 h12
          have h12 : y12 = nI (a - qN v) := h12.trans xa
          subst h12
          refine br_t e8 (br_f eq ?_)
          refine ⟨hL.1, fun u17 h17 => ?_⟩
          have h17 := h17.trans hL.2
          rw [if_pos rfl] at h17
          subst h17
          exact F4
    · -- not renewed
      have e8 : ¬ nI (a - qN v) < 32768 := nI_nlt (b := 32768) (by omega) (by omega)
      have hC' : CI ls z (a - qN v) (c + qN v) t := hC.sub (by omega) (by omega) (by omega)
      refine ⟨z, a - qN v, c + qN v, t, v, bx, st, bt, ?_, ?_, ?_, ?_, hv, hC', by omega, hB, hS, by omega⟩
      · rw [f_En_code_s]
        refine (if_neg n0).trans ((if_pos n1).trans ((if_pos xl).trans ?_))
        dsimp only
        rw [xq, xa, xc, if_neg e8, upd_same hx]
      · refine ⟨hnc, br_f n0 (br_t n1 ?_)⟩
        intro y3 h3 y4 h4
        subst h3
        dsimp only at h4 ⊢
        rw [xq] at h4
        subst h4
        refine br_t xl ?_
        intro y17 h17
        rw [xa] at h17
        subst h17
        exact br_f e8 (fun _ _ => trivial)
      · rw [f_M_writeCoded_s]
        refine (if_pos ml).trans ?_
        rw [hM.2]
        dsimp only
        rw [xa, xc]
        refine (if_neg e8).trans ?_
        rw [upd_same hm]
      · refine ⟨hM.1, fun r2 hr2 => ⟨vP, ?_⟩⟩
        rw [hM.2] at hr2
        subst hr2
        refine br_t ml ?_
        intro y12 h12
        have h12 : y12 = nI (a - qN v) := h12.trans xa
        subst h12
        exact br_f e8 (fun _ _ => trivial)
  · have xl : ¬ nI b = cx (nI i).toNatClampNeg &&& 1 := by rw [xb, nI_eq (by omega) (by omega)]; exact hl
    have ml : ¬ nI b = irem ((Wm m (nI g) (nI z) (nI a) (nI c) (nI t) p r st bt).2.1 (nI P).toNatClampNeg) 2 := by rw [hMb, nI_eq (by omega) (by omega)]; exact hl
    by_cases hq : qN v ≤ a - qN v
    · have eq : nI (qN v) ≤ nI (a - qN v) := nI_le hq (by omega)
      have eq' : ¬ nI (a - qN v) < nI (qN v) := nI_nlt hq (by omega)
      have hC' : CI ls z (qN v) c t := hC.sub (by omega) (by omega) (by omega)
      obtain ⟨z', a', c', t', bx', st', bt', F1, F2, F3, F4, F5, F6, F7, F8, F9⟩ := renew_f (nx := nx) (pl := pl) (p := p) (r := r) (bg := bg) (bb := bb) (rf := rf) (p0 := nI P) (p1 := nI b) (m := Cm m (upd m.2.1 P (nI (oN v)))) (px := px) hg0 hg1 hs (K + 15) hK hC' hB hS (by omega)
      have hL := m_learn (nx := nx) (m := Wm m (nI g) (nI z) (nI (qN v)) (nI c) (nI t) p r st bt) false hP hv hm
      refine ⟨z', a', c', t', oN v, bx', st', bt', ?_, ?_, ?_, ?_, o1, F5, F6, F7, F8, F9⟩
      · rw [f_En_code_s]
        refine (if_neg n0).trans ((if_pos n1).trans ((if_neg xl).trans ?_))
        dsimp only
        rw [xq, xa, xo, ei, if_pos eq, F1]
      · refine ⟨hnc, br_f n0 (br_t n1 ?_)⟩
        intro y3 h3 y4 h4
        subst h3
        dsimp only at h4 ⊢
        rw [xq] at h4
        subst h4
        refine br_f xl ?_
        intro y17 h17
        rw [xa] at h17
        subst h17
        refine br_t eq ?_
        intro y21 _
        exact ⟨F2, fun _ _ => trivial⟩
      · rw [f_M_writeCoded_s]
        refine (if_neg ml).trans ?_
        rw [hM.2]
        dsimp only
        rw [xa]
        refine (if_neg eq').trans ?_
        rw [hL.2, if_neg (by decide)]
        exact F3
      · refine ⟨hM.1, fun r2 hr2 => ⟨vP, ?_⟩⟩
        rw [hM.2] at hr2
        subst hr2
        refine br_f ml ?_
        intro y12 h12
        have h12 : y12 = nI (a - qN v) := h12.trans xa
        subst h12
        refine br_f eq' ?_
        refine ⟨hL.1, fun u17 h17 => ?_⟩
        have h17 := h17.trans hL.2
        rw [if_neg (by decide)] at h17
        subst h17
        exact F4
    · have eq : ¬ nI (qN v) ≤ nI (a - qN v) := nI_ge (by omega) (by omega)
      have eq' : nI (a - qN v) < nI (qN v) := nI_lt (by omega) (by omega)
      have hC' : CI ls z (a - qN v) (c + qN v) t := hC.sub (by omega) (by omega) (by omega)
      obtain ⟨z', a', c', t', bx', st', bt', F1, F2, F3, F4, F5, F6, F7, F8, F9⟩ := renew_f (nx := nx) (pl := pl) (p := p) (r := r) (bg := bg) (bb := bb) (rf := rf) (p0 := nI P) (p1 := nI b) (m := Cm m (upd m.2.1 P (nI (oN v)))) (px := px) hg0 hg1 hs (K + 15) hK hC' hB hS (by omega)
      have hL := m_learn (nx := nx) (m := Wm m (nI g) (nI z) (nI (a - qN v)) (nI (c + qN v)) (nI t) p r st bt) false hP hv hm
      refine ⟨z', a', c', t', oN v, bx', st', bt', ?_, ?_, ?_, ?_, o1, F5, F6, F7, F8, F9⟩
      · rw [f_En_code_s]
        refine (if_neg n0).trans ((if_pos n1).trans ((if_neg xl).trans ?_))
        dsimp only
        rw [xq, xa, xc, xo, ei, if_neg eq, F1]
      · refine ⟨hnc, br_f n0 (br_t n1 ?_)⟩
        intro y3 h3 y4 h4
        subst h3
        dsimp only at h4 ⊢
        rw [xq] at h4
        subst h4
        refine br_f xl ?_
        intro y17 h17
        rw [xa] at h17
        subst h17
        refine br_f eq ?_
        intro y20 h20 y21 _
        rw [xc] at h20
        subst h20
        exact ⟨F2, fun _ _ => trivial⟩
      · rw [f_M_writeCoded_s]
        refine (if_neg ml).trans ?_
        rw [hM.2]
        dsimp only
        rw [xa, xc]
        refine (if_pos eq').trans ?_
        rw [hL.2, if_neg (by decide)]
        exact F3
      · refine ⟨hM.1, fun r2 hr2 => ⟨vP, ?_⟩⟩
        rw [hM.2] at hr2
        subst hr2
        refine br_f ml ?_
        intro y12 h12
        have h12 : y12 = nI (a - qN v) := h12.trans xa
        subst h12
        refine br_t eq' ?_
        intro y15 h15
        have h15 : y15 = nI (c + qN v) := h15.trans xc
        subst h15
        refine ⟨hL.1, fun u17 h17 => ?_⟩
        have h17 := h17.trans hL.2
        rw [if_neg (by decide)] at h17
        subst h17
        exact F4
