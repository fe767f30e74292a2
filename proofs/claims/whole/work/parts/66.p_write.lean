/-! pure part 7: the writing side, class and reference -/
def MO (g : Nat) (sx : Nat → Int32) : Prop := ∀ i, i + 1 < g → ∃ s e, s ≤ e ∧ e < 2 ^ 30 ∧ sx i = nI s ∧ sx (i + 1) = nI e
/-- rows -/
def RR (g ls z : Nat) (r : RoS) (m : MS) : Prop := ∃ bx sx px, r = (nI z, nI g, nI ls, bx, sx, px) ∧ m.1.2.2.1 = nI g ∧ m.1.2.2.2.1 = nI z ∧ BR z bx m.2.2.2.2.2 ∧ SR g ls z sx m.2.2.2.1 ∧ sx (g - 1) = nI ls ∧ (∀ i, i < g → px i = m.2.2.2.2.1 i ∧ (m.2.2.2.2.1 i = 0 ∨ m.2.2.2.2.1 i = 1)) ∧ ls ≤ z ∧ 0 < g ∧ g ≤ 513 ∧ sx 0 = 0 ∧ px 0 = 0 ∧ MO g sx
/-- the segment that is written -/
def WR (K g ls z : Nat) (e : EnS) (m : MS) : Prop :=
  (m.2.2.2.2.1 (g - 1) = 0 ∧ ∃ a c t, e.1 = false ∧ e.2.1 = nI a ∧ e.2.2.1 = nI c ∧ e.2.2.2.1 = nI t ∧ m.1.2.2.2.2.2.1 = nI a ∧ m.1.2.2.2.2.2.2.1 = nI c ∧ m.1.2.2.2.2.2.2.2.1 = nI t ∧ CI ls z a c t ∧ 32768 ≤ a ∧ 7 * z ≤ t + K) ∨
  (m.2.2.2.2.1 (g - 1) = 1 ∧ ∃ pt k R, e.1 = true ∧ e.2.2.2.2.1 = nI pt ∧ e.2.2.2.2.2.1 = nI k ∧ e.2.2.2.2.2.2 = nI R ∧ m.1.2.2.2.2.2.2.2.2.1 = nI pt ∧ m.1.2.2.2.2.2.2.2.2.2.1 = nI (R - k) ∧ PI ls z pt k R m.2.2.2.2.2 ∧ 7 * z + k ≤ K + 12)
theorem Wm_self {m : MS} {g z a c t p r : Int32} (h1 : m.1.2.2.1 = g) (h2 : m.1.2.2.2.1 = z) (h3 : m.1.2.2.2.2.2.1 = a) (h4 : m.1.2.2.2.2.2.2.1 = c) (h5 : m.1.2.2.2.2.2.2.2.1 = t) (h6 : m.1.2.2.2.2.2.2.2.2.1 = p) (h7 : m.1.2.2.2.2.2.2.2.2.2.1 = r) : m = Wm m g z a c t p r m.2.2.2.1 m.2.2.2.2.2 := by
  subst h1 h2 h3 h4 h5 h6 h7; rfl
/-- a bit is put -/
theorem put_both {nx nc i P v b g ls z K : Nat} {e : EnS} {r : RoS} {m : MS} {cx : Nat → Int32} (hnc : nc < 2 ^ 31) (hi : i < nc) (hP : P < 139264) (hv : v < 94) (hx : cx i = nI v) (hm : m.2.1 P = nI v) (hb : b < 2) (hK : K + 15 ≤ 293988) (hR : RR g ls z r m) (hW : WR K g ls z e m) :
    ∃ z' v' e' r' a c t p q st bt, f_En_put nc (nI i) (nI b) (e, r, cx) = (e', r', upd cx i (nI v')) ∧ k_En_put nc (nI i) (nI b) (e, r, cx) ∧
      f_M_write nx (nI P) (nI b) m = Wm (Cm m (upd m.2.1 P (nI v'))) (nI g) (nI z') a c t p q st bt ∧ k_M_write nx (nI P) (nI b) m ∧ v' < 94 ∧
      RR g ls z' r' (Wm (Cm m (upd m.2.1 P (nI v'))) (nI g) (nI z') a c t p q st bt) ∧ WR (K + 15) g ls z' e' (Wm (Cm m (upd m.2.1 P (nI v'))) (nI g) (nI z') a c t p q st bt) := by
  obtain ⟨bx, sx, px, rfl, R1, R2, hB, hS, hs, hp, hl, hg0, hg1, hz0⟩ := hR
  obtain ⟨eg, vg⟩ := q_gm1 hg0 (show g < 1100 by omega)
  rcases hW with ⟨hr, a, c, t, e1, e2, e3, e4, m1, m2, m3, hC, ha, hpot⟩ | ⟨hr, pt, k, R, e1, e2, e3, e4, m1, m2, hI, hpot⟩
  · obtain ⟨pl, ea, ec, et, bg, bb, rf⟩ := e
    dsimp only at e1 e2 e3 e4
    subst e1 e2 e3 e4
    obtain ⟨z', a', c', t', v', bx', st', bt', F1, F2, F3, F4, F5, F6, F7, F8, F9, F10⟩ := code_both (nx := nx) (pl := false) (p := m.1.2.2.2.2.2.2.2.2.1) (r := m.1.2.2.2.2.2.2.2.2.2.1) (bg := bg) (bb := bb) (rf := rf) (px := px) hnc hi hP hv hx hm hb hg0 (show g < 1100 by omega) hs K hK hC ha hB hS hpot
    rw [← Wm_self R1 R2 m1 m2 m3 rfl rfl] at F3 F4
    have hraw : m.2.2.2.2.1 (m.1.2.2.1 - 1).toNatClampNeg = 0 := by rw [R1, eg, hr]
    refine ⟨z', v', (false, nI a', nI c', nI t', bg, bb, rf), (nI z', nI g, nI ls, bx', sx, px), nI a', nI c', nI t', m.1.2.2.2.2.2.2.2.2.1, m.1.2.2.2.2.2.2.2.2.2.1, st', bt', ?_, ?_, ?_, ?_, F5, ⟨bx', sx, px, rfl, rfl, rfl, F8, F9, hs, hp, F6.1, hg0, hg1, hz0⟩, Or.inl ⟨hr, a', c', t', rfl, rfl, rfl, rfl, rfl, rfl, rfl, F6, F7, F10⟩⟩
    · rw [f_En_put_s]
      exact (if_pos bI_f0).trans F1
    · exact br_t bI_f0 ⟨F2, fun _ _ => trivial⟩
    · rw [f_M_write_s]
      exact (if_pos hraw).trans F3
    · exact ⟨by rw [R1]; exact vg, br_t hraw ⟨F4, fun _ _ => trivial⟩⟩
  · obtain ⟨pl, ea, ec, et, bg, bb, rf⟩ := e
    dsimp only at e1 e2 e3 e4
    subst e1 e2 e3 e4
    obtain ⟨z', pt', k', R', bx', st', bt', F1, F2, F3, F4, F5, F6, F7⟩ := plain_both (nx := nx) (pl := true) (ea := ea) (ec := ec) (et := et) (a := m.1.2.2.2.2.2.1) (c := m.1.2.2.2.2.2.2.1) (t := m.1.2.2.2.2.2.2.2.1) (m := m) (px := px) hg0 (show g < 1100 by omega) hs (show z < 41999 by omega) hb hI hB hS
    rw [← Wm_self R1 R2 rfl rfl rfl m1 m2] at F2 F3
    have hraw : ¬ m.2.2.2.2.1 (m.1.2.2.1 - 1).toNatClampNeg = 0 := by rw [R1, eg, hr]; decide
    have hIR := F4.R
    refine ⟨z', v, (true, ea, ec, et, nI pt', nI k', nI R'), (nI z', nI g, nI ls, bx', sx, px), m.1.2.2.2.2.2.1, m.1.2.2.2.2.2.2.1, m.1.2.2.2.2.2.2.2.1, nI pt', nI (R' - k'), st', bt', ?_, ?_, ?_, ?_, hv, ⟨bx', sx, px, rfl, rfl, rfl, F5, F6, hs, hp, F4.1, hg0, hg1, hz0⟩, Or.inr ⟨hr, pt', k', R', rfl, rfl, rfl, rfl, rfl, rfl, F4, ?_⟩⟩
    · rw [f_En_put_s]
      refine (if_neg bI_t0).trans ?_
      rw [F1, upd_same hx]
    · exact br_f bI_t0 (fun _ _ => trivial)
    · rw [f_M_write_s]
      refine (if_neg hraw).trans ?_
      rw [F2, upd_same hm]
    · exact ⟨by rw [R1]; exact vg, br_f hraw ⟨F3, fun _ _ => trivial⟩⟩
    · have := hI.R
      omega
/-- the last segment ends -/
theorem end_both {nx g ls z K : Nat} {e : EnS} {r : RoS} {m : MS} (hK : K + 14 ≤ 293940) (hR : RR g ls z r m) (hW : WR K g ls z e m) :
    ∃ z' e' r' a c t p q st bt, f_En_endSegment (e, r) = (e', r') ∧ k_En_endSegment (e, r) ∧ f_M_endSegment nx m = Wm m (nI g) (nI z') a c t p q st bt ∧ k_M_endSegment nx m ∧ RR g ls z' r' (Wm m (nI g) (nI z') a c t p q st bt) ∧ 7 * z' ≤ K + 14 + 12 := by
  obtain ⟨bx, sx, px, rfl, R1, R2, hB, hS, hs, hp, hl, hg0, hg1, hz0⟩ := hR
  rcases hW with ⟨hr, a, c, t, e1, e2, e3, e4, m1, m2, m3, hC, ha, hpot⟩ | ⟨hr, pt, k, R, e1, e2, e3, e4, m1, m2, hI, hpot⟩
  · obtain ⟨pl, ea, ec, et, bg, bb, rf⟩ := e
    dsimp only at e1 e2 e3 e4
    subst e1 e2 e3 e4
    have ht := hC.2.2.1
    obtain ⟨e', z', a', c', t', p', r', bx', st', bt', F1, F2, F3, F4, F5, F6, F7, F8⟩ := endC_both (nx := nx) (p := m.1.2.2.2.2.2.2.2.2.1) (r := m.1.2.2.2.2.2.2.2.2.2.1) (bg := bg) (bb := bb) (rf := rf) (px := px) hg0 (show g < 1100 by omega) hs (show z < 41998 by omega) hC ha hB hS hr
    rw [← Wm_self R1 R2 m1 m2 m3 rfl rfl] at F3 F4
    exact ⟨z', e', _, a', c', t', p', r', st', bt', F1, F2, F3, F4, ⟨bx', sx, px, rfl, rfl, rfl, F7, F8, hs, hp, F5, hg0, hg1, hz0⟩, by omega⟩
  · obtain ⟨pl, ea, ec, et, bg, bb, rf⟩ := e
    dsimp only at e1 e2 e3 e4
    subst e1 e2 e3 e4
    obtain ⟨e', z', a', c', t', p', r', bx', st', bt', F1, F2, F3, F4, F5, F6, F7, F8⟩ := endP_both (nx := nx) (ea := ea) (ec := ec) (et := et) (a := m.1.2.2.2.2.2.1) (c := m.1.2.2.2.2.2.2.1) (t := m.1.2.2.2.2.2.2.2.1) (m := m) (px := px) hg0 (show g < 1100 by omega) hs (show z < 41998 by omega) hI hB hS hr
    rw [← Wm_self R1 R2 rfl rfl rfl m1 m2] at F3 F4
    exact ⟨z', e', _, a', c', t', p', r', st', bt', F1, F2, F3, F4, ⟨bx', sx, px, rfl, rfl, rfl, F7, F8, hs, hp, F5, hg0, hg1, hz0⟩, by omega⟩
/-- another segment begins -/
theorem begin_both {nx g ls z K : Nat} {e : EnS} {r : RoS} {m : MS} (on : Bool) (hg : g < 513) (hz : 7 * z ≤ K + 12) (hK : K ≤ 293940) (hR : RR g ls z r m) :
    k_M_beginSegment nx on m ∧ RR (g + 1) z z (f_Ro_beginSegment on r) (f_M_beginSegment nx on m) ∧ WR K (g + 1) z z (f_En_begin on e) (f_M_beginSegment nx on m) := by
  obtain ⟨bx, sx, px, rfl, R1, R2, hB, hS, hs, hp, hl, hg0, hg1, hz0⟩ := hR
  have x1 : nI g + 1 = nI (g + 1) := nI_1 g
  have c1 : (nI g).toNatClampNeg = g := nI_clamp (by omega)
  have c2 : (nI (g + 1)).toNatClampNeg = g + 1 := nI_clamp (by omega)
  have hraws : (f_M_beginSegment nx on m).2.2.2.2.1 g = bI on := by
    rw [f_M_beginSegment_s]
    dsimp only
    rw [R1, c1, q_upd]
  refine ⟨?_, ?_, ?_⟩
  · unfold k_M_beginSegment
    rw [R1, x1]
    refine ⟨vp_in_nI (by omega) (by decide), vp_in_nI (by omega) (by decide), fun x5 h5 => ?_⟩
    subst h5
    exact ⟨vp_in_nI (by omega) (by decide), trivial⟩
  · refine ⟨bx, upd sx g (nI z), upd px g (bI on), ?_, ?_, ?_, ?_, ⟨fun i hi => ?_, ?_⟩, ?_, fun i hi => ?_, Nat.le_refl z, by omega, by omega, ?_, ?_, fun i hi => ?_⟩
    · rw [f_Ro_beginSegment_s]
      dsimp only
      rw [if_neg (nI_pos (by omega)), if_neg (show ¬ (513 : Int32) ≤ nI g from nI_ge (b := 513) (by omega) (by decide)), x1, c1]
    · show m.1.2.2.1 + 1 = _
      rw [R1, x1]
    · exact R2
    · exact hB
    · show upd sx g (nI z) i = upd (upd m.2.2.2.1 m.1.2.2.1.toNatClampNeg m.1.2.2.2.1) (m.1.2.2.1 + 1).toNatClampNeg m.1.2.2.2.1 i ∧ _
      show _ ∧ ∃ s, s ≤ z ∧ upd (upd m.2.2.2.1 m.1.2.2.1.toNatClampNeg m.1.2.2.2.1) (m.1.2.2.1 + 1).toNatClampNeg m.1.2.2.2.1 i = nI s
      rw [R1, R2, x1, c1, c2, q_updn _ _ (show i ≠ g + 1 by omega)]
      by_cases h : i = g
      · subst h
        rw [q_upd, q_upd]
        exact ⟨rfl, z, Nat.le_refl z, rfl⟩
      · rw [q_updn _ _ h, q_updn _ _ h]
        obtain ⟨s1, s, s2, s3⟩ := hS.1 i (by omega)
        exact ⟨s1, s, by omega, s3⟩
    · show upd (upd m.2.2.2.1 m.1.2.2.1.toNatClampNeg m.1.2.2.2.1) (m.1.2.2.1 + 1).toNatClampNeg m.1.2.2.2.1 (g + 1) = nI z
      rw [R1, R2, x1, c2, q_upd]
    · rw [Nat.add_sub_cancel, q_upd]
    · show upd px g (bI on) i = upd m.2.2.2.2.1 m.1.2.2.1.toNatClampNeg (bI on) i ∧ (upd m.2.2.2.2.1 m.1.2.2.1.toNatClampNeg (bI on) i = 0 ∨ upd m.2.2.2.2.1 m.1.2.2.1.toNatClampNeg (bI on) i = 1)
      rw [R1, c1]
      by_cases h : i = g
      · subst h
        rw [q_upd, q_upd]
        exact ⟨rfl, by cases on <;> decide⟩
      · rw [q_updn _ _ h, q_updn _ _ h]
        exact hp i (by omega)
    · rw [q_updn _ _ (show 0 ≠ g by omega)]; exact hz0.1
    · rw [q_updn _ _ (show 0 ≠ g by omega)]; exact hz0.2.1
    · by_cases h : i + 1 = g
      · refine ⟨ls, z, hl, by omega, ?_, ?_⟩
        · rw [q_updn _ _ (show i ≠ g by omega), show i = g - 1 by omega]; exact hs
        · rw [h, q_upd]
      · rw [q_updn _ _ (show i ≠ g by omega), q_updn _ _ h]
        exact hz0.2.2 i (by omega)
  · cases on with
    | false => exact Or.inl ⟨hraws, 32768, 0, 12, rfl, rfl, rfl, rfl, rfl, rfl, rfl, ⟨Nat.le_refl z, by decide, by decide, by decide, by decide, fun _ => by decide, by decide⟩, by decide, by omega⟩
    | true => exact Or.inr ⟨hraws, 0, 0, 8, rfl, rfl, rfl, rfl, rfl, rfl, ⟨Nat.le_refl z, by decide, by decide, Or.inr ⟨rfl, fun q => by have := q.1; omega⟩⟩, by omega⟩
/-- turn: the class's half of raw while encoding, and the reference's -/
theorem WR.plain {K g ls z : Nat} {e : EnS} {m : MS} (h : WR K g ls z e m) : m.2.2.2.2.1 (g - 1) = bI e.1 := by
  rcases h with ⟨hr, a, c, t, e1, -⟩ | ⟨hr, pt, k, R, e1, -⟩
  · rw [hr, e1]; rfl
  · rw [hr, e1]; rfl
