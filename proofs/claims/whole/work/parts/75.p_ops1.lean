/-! pure part 16: the calls -/
def XN (nx n : Nat) (x : XS) (m : MS) : Prop := XR nx (570 * n) (760 * n) (n + 1) x m
def Ret {α : Type} (nx n : Nat) (fx : α × XS) (kx : Prop) (fm : α × MS) (km : Prop) : Prop := kx ∧ km ∧ fm.1 = fx.1 ∧ fm.2.1.1 = 0 ∧ XN nx (n + 1) fx.2 fm.2
def Thr {α : Type} (nx n : Nat) (x : XS) (kt : Prop) (c : Int32) (fm : α × MS) (km : Prop) : Prop := kt ∧ km ∧ fm.2.1.1 = c ∧ XN nx (n + 1) x fm.2
theorem XN.up {nx n : Nat} {x : XS} {m : MS} (h : XN nx n x m) (c : Int32) : XN nx (n + 1) x (Km m c) := (XR.km h c).mono (by omega) (by omega) (by omega)
theorem m_no {n : Nat} {p : Int32} (hn0 : 0 < n) (hn : n ≤ 65536) (h : p < 0 ∨ nI n ≤ p) : f_M_in p 0 (nI n - 1) = false := by
  rw [m_in]
  refine decide_eq_false (fun q => ?_)
  rcases h with h | h
  · exact q.1 h
  · refine q.2 ?_
    rw [q_sub1 hn0]
    have h1 := Int32.le_iff_toInt_le.mp h
    rw [nI_toInt (by omega)] at h1
    rw [Int32.lt_iff_toInt_lt, nI_toInt (by omega)]
    omega
theorem m_yes {n j : Nat} (hn : n ≤ 65536) (h : j < n) : f_M_in (nI j) 0 (nI n - 1) = true := by
  rw [m_in, q_sub1 (by omega)]
  exact decide_eq_true ⟨nI_pos (by omega), nI_nlt (by omega) (by omega)⟩
theorem nc_yes {nx j : Nat} {s : XoS} (hn : nx ≤ 65536) (h : j < nx) : k_X_needContext nx (nI j) s := br_f (nI_pos (by omega)) (br_t (nI_lt h (by omega)) trivial)
theorem nc_no {nx : Nat} {p : Int32} {s : XoS} (h : p < 0 ∨ nI nx ≤ p) : k_X_needContext_T0 nx p s := by
  by_cases h0 : p < 0
  · exact br_t h0 trivial
  · refine br_f h0 (br_f ?_ trivial)
    rcases h with h | h
    · exact absurd h h0
    · rw [Int32.lt_iff_toInt_lt]
      have := Int32.le_iff_toInt_le.mp h
      omega
theorem XN.dec {nx n : Nat} {x : XS} {m : MS} (h : XN nx n x m) : x.1.2.1 = m.1.2.2.2.2.1 := by
  obtain ⟨g, ls, z, s, h1, h2, h3, h4, h5, h6, h7, h8⟩ := h
  exact h7
theorem x_enc {nx n : Nat} {x : XS} {m : MS} (h : XN nx n x m) (hd : m.1.2.2.2.2.1 = false) : k_X_needEncoding nx x.1 := br_t (by rw [h.dec, hd]; rfl) trivial
theorem x_encT {nx n : Nat} {x : XS} {m : MS} (h : XN nx n x m) (hd : m.1.2.2.2.2.1 = true) : k_X_needEncoding_T1 nx x.1 := br_f (by rw [h.dec, hd]; decide) trivial
theorem x_dec {nx n : Nat} {x : XS} {m : MS} (h : XN nx n x m) (hd : m.1.2.2.2.2.1 = true) : k_X_needDecoding nx x.1 := br_f (by rw [h.dec, hd]; decide) trivial
theorem x_decT {nx n : Nat} {x : XS} {m : MS} (h : XN nx n x m) (hd : m.1.2.2.2.2.1 = false) : k_X_needDecoding_T1 nx x.1 := br_t (by rw [h.dec, hd]; rfl) trivial
theorem place_e {nx j : Nat} {m : MS} (hd : m.1.2.2.2.2.1 = false) : f_M_placeOf nx (nI j) m = nI j ∧ k_M_placeOf nx (nI j) m := by
  refine ⟨?_, br_c (fun _ => trivial) (fun _ => trivial), fun _ _ => trivial⟩
  rw [f_M_placeOf_s]
  have e : f_M_side nx m = nI 0 := by rw [f_M_side_s]; exact if_pos (by rw [hd]; rfl)
  dsimp only
  rw [e, show (65536 : Int32) = nI 65536 from rfl, pk_mul, nI_add, Nat.mul_zero, Nat.zero_add]
theorem place_d {nx j : Nat} {m : MS} (hd : m.1.2.2.2.2.1 = true) : f_M_placeOf nx (nI j) m = nI (65536 + j) ∧ k_M_placeOf nx (nI j) m := by
  refine ⟨?_, br_c (fun _ => trivial) (fun _ => trivial), fun _ _ => trivial⟩
  rw [f_M_placeOf_s]
  have e : f_M_side nx m = nI 1 := by rw [f_M_side_s]; exact if_neg (by rw [hd]; decide)
  dsimp only
  rw [e, show (65536 : Int32) = nI 65536 from rfl, pk_mul, nI_add, Nat.mul_one]
section
variable {nx n : Nat} {x : XS} {m : MS}
theorem encode_op (hn0 : 0 < nx) (hn : nx ≤ 65536) (hc : n < 512) (h : XN nx n x m) (p0 p1 : Int32) :
    Ret nx n (f_X_encode nx p0 p1 x) (k_X_encode nx p0 p1 x) (f_M_encode nx p0 p1 m) (k_M_encode nx p0 p1 m) ∨ Thr nx n x (k_X_encode_T0 nx p0 p1 x) 1 (f_M_encode nx p0 p1 m) (k_M_encode nx p0 p1 m) ∨ Thr nx n x (k_X_encode_T1 nx p0 p1 x) 2 (f_M_encode nx p0 p1 m) (k_M_encode nx p0 p1 m) ∨ Thr nx n x (k_X_encode_T2 nx p0 p1 x) 3 (f_M_encode nx p0 p1 m) (k_M_encode nx p0 p1 m) := by
  have no : p0 < 0 ∨ nI nx ≤ p0 → Thr nx n x (k_X_encode_T0 nx p0 p1 x) 1 (f_M_encode nx p0 p1 m) (k_M_encode nx p0 p1 m) := by
    intro hno
    have hin := m_no hn0 hn hno
    have e : f_M_encode nx p0 p1 m = (0, Km m 1) := by
      rw [f_M_encode_s, hin]; exact if_pos bI_f0
    refine ⟨⟨nc_no hno, trivial⟩, fun b1 h1 => ?_, by rw [e], by rw [e]; exact h.up 1⟩
    rw [hin] at h1; subst h1
    exact br_t bI_f0 trivial
  rcases pk_ix p0 (n := nx) (by omega) with h0 | h0 | ⟨j, hj, rfl⟩
  · exact Or.inr (Or.inl (no (Or.inl h0)))
  · exact Or.inr (Or.inl (no (Or.inr h0)))
  · have hin := m_yes hn hj
    cases hd : m.1.2.2.2.2.1 with
    | true =>
      have hmd : ¬ bI m.1.2.2.2.2.1 = 0 := by rw [hd]; decide
      have e : f_M_encode nx (nI j) p1 m = (0, Km m 2) := by
        rw [f_M_encode_s, hin]; exact (if_neg bI_t0).trans (if_neg hmd)
      refine Or.inr (Or.inr (Or.inl ⟨⟨nc_yes hn hj, x_encT h hd, trivial⟩, fun b1 h1 => ?_, by rw [e], by rw [e]; exact h.up 2⟩))
      rw [hin] at h1; subst h1
      exact br_f bI_t0 (br_f hmd trivial)
    | false =>
      have hmd : bI m.1.2.2.2.2.1 = 0 := by rw [hd]; rfl
      by_cases hb : p1 = 0 ∨ p1 = 1
      · obtain ⟨b, hb2, rfl⟩ : ∃ b, b < 2 ∧ p1 = nI b := by
          rcases hb with rfl | rfl
          · exact ⟨0, by decide, rfl⟩
          · exact ⟨1, by decide, rfl⟩
        have hin2 : f_M_in (nI b) 0 1 = true := m_yes (n := 2) (by decide) hb2
        obtain ⟨g, ls, z, s, hN, hR, hC, hs1, hs2, hk, hd2, hw⟩ := h
        have hW : WR (570 * n) g ls z x.2.1 m := by
          rcases hw with ⟨-, hw⟩ | ⟨hw, -⟩
          · exact hw
          · rw [hd] at hw; exact absurd hw (by decide)
        obtain ⟨c1, v, hv, c2⟩ := hC.1 j hj
        obtain ⟨pl, kpl⟩ := place_e (nx := nx) (j := j) (m := Km m 0) hd
        obtain ⟨m', z', v', e', r', F3, F1, F2, F4, F5, FF, Fc, F6, F7⟩ := put_r (nx := nx) (nc := nx) (i := j) (P := j) (b := b) (m := Km m 0) (by omega) hj (by omega) hv (c1.trans c2) c2 hb2 (by omega) hR hW
        obtain ⟨f0, f1, f2, f3, f4, f5⟩ := FF
        have eM : f_M_encode nx (nI j) (nI b) m = (nI z', m') := by
          rw [f_M_encode_s, hin]
          refine (if_neg bI_t0).trans ((if_pos hmd).trans ?_)
          rw [hin2]
          refine (if_neg bI_t0).trans ?_
          dsimp only at pl F3 ⊢
          rw [pl, F3]
          obtain ⟨bx, sx, px, -, -, R2, -⟩ := F6
          rw [R2]
        have kM : k_M_encode nx (nI j) (nI b) m := by
          intro b1 h1
          rw [hin] at h1; subst h1
          refine br_f bI_t0 (br_t hmd ?_)
          intro b4 h4
          rw [hin2] at h4; subst h4
          refine br_f bI_t0 ⟨kpl, ?_⟩
          intro r7 h7
          have h7 := h7.trans pl
          subst h7
          exact ⟨F4, fun _ _ => trivial⟩
        have eX : f_X_encode nx (nI j) (nI b) x = (nI z', (x.1, e', x.2.2.1, r', upd x.2.2.2.2.1 j (nI v'), x.2.2.2.2.2.1, x.2.2.2.2.2.2.1, x.2.2.2.2.2.2.2.1, x.2.2.2.2.2.2.2.2)) := by
          have hlen : f_Ro_length r' = nI z' := by
            obtain ⟨bx, sx, px, hr, -⟩ := F6
            rw [hr]; rfl
          rw [f_X_encode_s]
          by_cases h0 : nI b = 0
          · refine (if_pos h0).trans ?_
            dsimp only
            rw [F1, hlen]
          · have h1 : nI b = 1 := by
              have : b = 1 := by
                by_cases q : b = 0
                · subst q; exact absurd rfl h0
                · omega
              rw [this]; rfl
            refine (if_neg h0).trans ((if_pos h1).trans ?_)
            dsimp only
            rw [F1, hlen]
        have kX : k_X_encode nx (nI j) (nI b) x := by
          refine ⟨nc_yes hn hj, br_t (by rw [hd2, hd]; rfl) trivial, br_c (fun _ => ⟨F2, fun _ _ _ _ => trivial⟩) (fun h0 => br_c (fun _ => ⟨F2, fun _ _ _ _ => trivial⟩) (fun h1 => ?_))⟩
          rcases hb with q | q
          · exact h0 q
          · exact h1 q
        have hC' := hC.eo hn F5 hj
        have Fc' : m'.2.1 = upd m.2.1 j (nI v') := Fc
        rw [← Fc'] at hC'
        refine Or.inl ⟨kX, kM, by rw [eM, eX], by rw [eM]; exact f0, ?_⟩
        rw [eM, eX]
        exact ⟨g, ls, z', s, by omega, F6, hC', hs1, f1.trans hs2, by rw [show m'.2.2.1 = m.2.2.1 from f5]; exact hk, hd2.trans f2.symm, Or.inl ⟨f2.trans hd, F7.mono (by omega)⟩⟩
      · have hb0 : ¬ p1 = 0 := fun q => hb (Or.inl q)
        have hb1 : ¬ p1 = 1 := fun q => hb (Or.inr q)
        have hin2 : f_M_in p1 0 1 = false := by
          rcases pk_ix p1 (n := 2) (by decide) with q | q | ⟨k, hk, rfl⟩
          · exact m_no (n := 2) (by decide) (by decide) (Or.inl q)
          · exact m_no (n := 2) (by decide) (by decide) (Or.inr q)
          · exfalso
            by_cases q : k = 0
            · subst q; exact hb0 rfl
            · have : k = 1 := by omega
              subst this; exact hb1 rfl
        have e : f_M_encode nx (nI j) p1 m = (0, Km m 3) := by
          rw [f_M_encode_s, hin]
          refine (if_neg bI_t0).trans ((if_pos hmd).trans ?_)
          rw [hin2]; exact if_pos bI_f0
        refine Or.inr (Or.inr (Or.inr ⟨⟨nc_yes hn hj, x_enc h hd, br_f hb0 (br_f hb1 trivial)⟩, fun b1 h1 => ?_, by rw [e], by rw [e]; exact h.up 3⟩))
        rw [hin] at h1; subst h1
        refine br_f bI_t0 (br_t hmd ?_)
        intro b4 h4
        rw [hin2] at h4; subst h4
        exact br_t bI_f0 trivial
theorem decode_op (hn0 : 0 < nx) (hn : nx ≤ 65536) (hc : n < 512) (h : XN nx n x m) (p0 : Int32) :
    Ret nx n (f_X_decode nx p0 x) (k_X_decode nx p0 x) (f_M_decode nx p0 m) (k_M_decode nx p0 m) ∨ Thr nx n x (k_X_decode_T0 nx p0 x) 1 (f_M_decode nx p0 m) (k_M_decode nx p0 m) ∨ Thr nx n x (k_X_decode_T1 nx p0 x) 2 (f_M_decode nx p0 m) (k_M_decode nx p0 m) := by
  have no : p0 < 0 ∨ nI nx ≤ p0 → Thr nx n x (k_X_decode_T0 nx p0 x) 1 (f_M_decode nx p0 m) (k_M_decode nx p0 m) := by
    intro hno
    have hin := m_no hn0 hn hno
    have e : f_M_decode nx p0 m = (0, Km m 1) := by
      rw [f_M_decode_s, hin]; exact if_pos bI_f0
    refine ⟨⟨nc_no hno, trivial⟩, fun b1 h1 => ?_, by rw [e], by rw [e]; exact h.up 1⟩
    rw [hin] at h1; subst h1
    exact br_t bI_f0 trivial
  rcases pk_ix p0 (n := nx) (by omega) with h0 | h0 | ⟨j, hj, rfl⟩
  · exact Or.inr (Or.inl (no (Or.inl h0)))
  · exact Or.inr (Or.inl (no (Or.inr h0)))
  · have hin := m_yes hn hj
    cases hd : m.1.2.2.2.2.1 with
    | false =>
      have hmd : bI m.1.2.2.2.2.1 = 0 := by rw [hd]; rfl
      have e : f_M_decode nx (nI j) m = (0, Km m 2) := by
        rw [f_M_decode_s, hin]; exact (if_neg bI_t0).trans (if_pos hmd)
      refine Or.inr (Or.inr ⟨⟨nc_yes hn hj, x_decT h hd, trivial⟩, fun b1 h1 => ?_, by rw [e], by rw [e]; exact h.up 2⟩)
      rw [hin] at h1; subst h1
      exact br_f bI_t0 (br_t hmd trivial)
    | true =>
      have hmd : ¬ bI m.1.2.2.2.2.1 = 0 := by rw [hd]; decide
      obtain ⟨g, ls, z, s, hN, hR, hC, hs1, hs2, hk, hd2, hw⟩ := h
      have hD : DR (760 * n) g x.2.2.1 m ∧ 7 * z ≤ 570 * n + 12 := by
        rcases hw with ⟨hw, -⟩ | ⟨-, hw⟩
        · rw [hd] at hw; exact absurd hw (by decide)
        · exact hw
      obtain ⟨c1, v, hv, c2⟩ := hC.2.2.1 j hj
      obtain ⟨pl, kpl⟩ := place_d (nx := nx) (j := j) (m := Km m 0) hd
      obtain ⟨m', w, v', d', F3, F1, F2, F4, Fw, F5, FF, Fc, F6, F7⟩ := read_r (nx := nx) (nc := nx) (i := j) (P := 65536 + j) (m := Km m 0) (by omega) hj (by omega) hv (c1.trans c2) c2 (by omega) (by omega) hR hD.1
      obtain ⟨f0, f1, f2, f3, f4, f5⟩ := FF
      have eM : f_M_decode nx (nI j) m = (nI w, m') := by
        rw [f_M_decode_s, hin]
        refine (if_neg bI_t0).trans ((if_neg hmd).trans ?_)
        dsimp only at pl F3 ⊢
        rw [pl, F3]
      have kM : k_M_decode nx (nI j) m := by
        intro b1 h1
        rw [hin] at h1; subst h1
        refine br_f bI_t0 (br_f hmd ⟨kpl, ?_⟩)
        intro r7 h7
        have h7 := h7.trans pl
        subst h7
        exact ⟨F4, fun _ _ _ _ => trivial⟩
      have eX : f_X_decode nx (nI j) x = (nI w, (x.1, x.2.1, d', x.2.2.2.1, x.2.2.2.2.1, x.2.2.2.2.2.1, upd x.2.2.2.2.2.2.1 j (nI v'), x.2.2.2.2.2.2.2.1, x.2.2.2.2.2.2.2.2)) := by
        rw [f_X_decode_s]
        dsimp only
        rw [F1]
      have kX : k_X_decode nx (nI j) x := ⟨nc_yes hn hj, br_f (by rw [hd2, hd]; decide) trivial, F2, fun _ _ _ _ => trivial⟩
      have hC' := hC.do' hn F5 hj
      have Fc' : m'.2.1 = upd m.2.1 (65536 + j) (nI v') := Fc
      rw [← Fc'] at hC'
      refine Or.inl ⟨kX, kM, by rw [eM, eX], by rw [eM]; exact f0, ?_⟩
      rw [eM, eX]
      exact ⟨g, ls, z, s, by omega, F6, hC', hs1, f1.trans hs2, by rw [show m'.2.2.1 = m.2.2.1 from f5]; exact hk, hd2.trans f2.symm, Or.inr ⟨f2.trans hd, F7.mono (by omega), by omega⟩⟩
end
