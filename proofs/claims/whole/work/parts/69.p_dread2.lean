/-! pure part 10: the reading side, class and reference -/
theorem Dm_self {m : MS} {tk ds dd la lf : Int32} {ov : Int64} (h1 : m.1.2.2.2.2.2.2.2.2.2.2.2.1 = tk) (h2 : m.1.2.2.2.2.2.2.2.2.2.2.2.2.1 = ds) (h3 : m.1.2.2.2.2.2.2.2.2.2.2.2.2.2.1 = ov) (h4 : m.1.2.2.2.2.2.2.2.2.2.2.2.2.2.2.1 = dd) (h5 : m.1.2.2.2.2.2.2.2.2.2.2.2.2.2.2.2.1 = la) (h6 : m.1.2.2.2.2.2.2.2.2.2.2.2.2.2.2.2.2.1 = lf) : m = Dm m tk ds ov dd la lf := by
  subst h1 h2 h3 h4 h5 h6; rfl
/-- a segment's number is one of those that there are, or none -/
theorem has_yes {A g : Nat} {z ls : Int32} {bx sx px : Nat → Int32} (hA : A < g) (hg : g ≤ 513) : f_Ro_has (nI A) (z, nI g, ls, bx, sx, px) = true := by
  rw [f_Ro_has_s]
  exact (if_neg (nI_pos (by omega))).trans ((if_neg (nI_ge hA (by omega))).trans (if_neg (nI_ge (b := 513) (by omega) (by decide))))
theorem has_no {A g : Nat} {z ls : Int32} {bx sx px : Nat → Int32} (hA : g ≤ A) (h : A < 2 ^ 31) : f_Ro_has (nI A) (z, nI g, ls, bx, sx, px) = false := by
  rw [f_Ro_has_s]
  exact (if_neg (nI_pos h)).trans (if_pos (nI_le hA h))
theorem start_in {A g : Nat} {z ls : Int32} {bx sx px : Nat → Int32} (hA : A < g) (hg : g ≤ 513) : f_Ro_startOf (nI A) (z, nI g, ls, bx, sx, px) = sx A := by
  rw [f_Ro_startOf_s]
  dsimp only
  rw [has_yes hA hg, nI_clamp (by omega)]
  exact if_neg (by decide)
theorem start_out {A g : Nat} {z ls : Int32} {bx sx px : Nat → Int32} (hA : g ≤ A) (h : A < 2 ^ 31) : f_Ro_startOf (nI A) (z, nI g, ls, bx, sx, px) = z := by
  rw [f_Ro_startOf_s]
  dsimp only
  rw [has_no hA h]
  exact if_pos rfl
theorem plain_in {A g : Nat} {z ls : Int32} {bx sx px : Nat → Int32} (hA : A < g) (hg : g ≤ 513) : f_Ro_isPlain (nI A) (z, nI g, ls, bx, sx, px) = if px A = 0 then false else true := by
  rw [f_Ro_isPlain_s]
  dsimp only
  rw [has_yes hA hg, nI_clamp (by omega)]
  exact if_neg (by decide)
theorem rr_seg {g ls z A : Nat} {bx sx px : Nat → Int32} {m : MS} (hA : A < g) (hg : g ≤ 513) (hz : z ≤ 42000) (hl : ls ≤ z) (hB : BR z bx m.2.2.2.2.2) (hS : SR g ls z sx m.2.2.2.1) (mA : m.1.2.2.2.2.2.2.2.2.2.2.1 = nI A) :
    ∃ S E, GS A S E z bx m ∧ f_Ro_startOf (nI A) (nI z, nI g, nI ls, bx, sx, px) = nI S ∧ f_Ro_endOf (nI A) (nI z, nI g, nI ls, bx, sx, px) = nI E := by
  obtain ⟨s1, S, s2, s3⟩ := hS.1 A hA
  have hst : f_Ro_startOf (nI A) (nI z, nI g, nI ls, bx, sx, px) = nI S := by
    rw [start_in hA hg, s1, s3]
  by_cases h : A + 1 < g
  · obtain ⟨e1, E, e2, e3⟩ := hS.1 (A + 1) h
    refine ⟨S, E, ⟨by omega, mA, s3, e3, by omega, by omega, hz, hB⟩, hst, ?_⟩
    rw [f_Ro_endOf_s]
    dsimp only
    rw [nI_1, start_in h hg, e1, e3]
  · have e : A + 1 = g := by omega
    refine ⟨S, z, ⟨by omega, mA, s3, by rw [e]; exact hS.2, by omega, Nat.le_refl z, hz, hB⟩, hst, ?_⟩
    rw [f_Ro_endOf_s]
    dsimp only
    rw [nI_1, start_out (by omega) (by omega)]
/-- the reference's start is a state of its own -/
theorem m_start {nx P : Nat} {m : MS} {y : Int32} {tk ds : Int32} {ov : Int64} {dd la lf : Int32} (h0 : m.1.2.2.2.2.2.2.2.2.2.2.2.1 = 0) (hb : f_M_byteFrom nx 0 m = y) (hbk : k_M_byteFrom nx 0 m)
    (hk : k_M_takeByte nx (Dm m 1 m.1.2.2.2.2.2.2.2.2.2.2.2.2.1 (y.toInt64 * 65536) m.1.2.2.2.2.2.2.2.2.2.2.2.2.2.2.1 y m.1.2.2.2.2.2.2.2.2.2.2.2.2.2.2.2.2.1))
    (ht : f_M_takeByte nx (Dm m 1 m.1.2.2.2.2.2.2.2.2.2.2.2.2.1 (y.toInt64 * 65536) m.1.2.2.2.2.2.2.2.2.2.2.2.2.2.2.1 y m.1.2.2.2.2.2.2.2.2.2.2.2.2.2.2.2.2.1) = Dm m tk ds ov dd la lf) (htk : ¬ tk = 0) :
    f_M_readCoded nx (nI P) m = f_M_readCoded nx (nI P) (Dm m tk 32768 (lrem (ov * 128) 4294967296) (dd - 7) la lf) ∧ (k_M_readCoded nx (nI P) (Dm m tk 32768 (lrem (ov * 128) 4294967296) (dd - 7) la lf) → k_M_readCoded nx (nI P) m) := by
  constructor
  · rw [f_M_readCoded_s, f_M_readCoded_s]
    refine (if_pos h0).trans (Eq.trans ?_ (if_neg (c := (Dm m tk 32768 (lrem (ov * 128) 4294967296) (dd - 7) la lf).1.2.2.2.2.2.2.2.2.2.2.2.1 = 0) htk).symm)
    rw [hb]
    dsimp only at ht ⊢
    rw [ht]
  · intro hh
    have hh := hh.2 htk
    refine br_t h0 ⟨hbk, fun r23 h23 y24 h24 => ?_⟩
    rw [hb] at h23
    subst h23 h24
    refine ⟨hk, fun u26 h26 y27 h27 x28 h28 => ?_⟩
    have h26 := h26.trans ht
    subst h26 h27 h28
    exact hh
/-- what is read -/
def DR (T g : Nat) (d : DeS) (m : MS) : Prop := ∃ A, A < g ∧ d.1 = nI A ∧ m.1.2.2.2.2.2.2.2.2.2.2.1 = nI A ∧ m.2.2.2.2.1 A = bI d.2.1 ∧ m.1.2.2.2.2.2.2.2.2.2.2.2.2.2.2.2.2.2.1 = decide (A ≠ 0) ∧
  ((d.2.2.1 = false ∧ m.1.2.2.2.2.2.2.2.2.2.2.2.1 = 0 ∧ d.2.2.2.2.2.1 = -1 ∧ d.2.2.2.2.2.2.2.2.2 = 0 ∧ m.1.2.2.2.2.2.2.2.2.2.2.2.2.2.2.2.2.1 = 0) ∨
   (d.2.2.1 = true ∧ ∃ S E tk la, m.2.2.2.1 A = nI S ∧ m.2.2.2.1 (A + 1) = nI E ∧ d.2.2.2.1 = nI E ∧ d.2.2.2.2.1 = nI (S + tk) ∧ m.1.2.2.2.2.2.2.2.2.2.2.2.1 = nI tk ∧ 0 < tk ∧ tk ≤ T ∧ d.2.2.2.2.2.1 = nI la ∧ m.1.2.2.2.2.2.2.2.2.2.2.2.2.2.2.2.1 = nI la ∧ la < 256 ∧
     (d.2.1 = false → ∃ a o t, d.2.2.2.2.2.2.1 = nI a ∧ m.1.2.2.2.2.2.2.2.2.2.2.2.2.1 = nI a ∧ 32768 ≤ a ∧ a < 65536 ∧ d.2.2.2.2.2.2.2.1 = nI o ∧ m.1.2.2.2.2.2.2.2.2.2.2.2.2.2.1 = lN o ∧ o < 4294967296 ∧ d.2.2.2.2.2.2.2.2.1 = nI t ∧ m.1.2.2.2.2.2.2.2.2.2.2.2.2.2.2.1 = nI t ∧ t ≤ 8) ∧
     (d.2.1 = true → ∃ L, L ≤ 7 ∧ d.2.2.2.2.2.2.2.2.2 = nI L ∧ m.1.2.2.2.2.2.2.2.2.2.2.2.2.2.2.2.2.1 = nI L)))
theorem q_128 (o : Nat) : nI o <<< (7 &&& 31 : Int32) = nI (o * 128 % 4294967296) := by
  rw [q_shlG _ 7 (by decide)]
  exact q_modL _
theorem ml_128 {o : Nat} (h : o < 4294967296) : lrem (lN o * 128) 4294967296 = lN (o * 128 % 4294967296) := by
  rw [show (128 : Int64) = lN 128 from rfl, lN_mul, q_lrem (by omega)]
theorem q_ush : ∀ L, L < 8 → (((nI L).toUInt32 &&& Int32.toUInt32 31).toBitVec % 32).toNat = L := by decide +kernel
theorem q_sh2 : ∀ L, L < 8 → ((nI L &&& 31).toBitVec.smod 32).toNat = L := by decide +kernel
theorem bit_both {y L : Nat} (hy : y < 256) (hL : L < 8) : ushr (nI y) (nI L) &&& 1 = nI (y / 2 ^ L % 2) ∧ nI y >>> (nI L &&& 31) &&& 1 = nI (y / 2 ^ L % 2) := by
  have h : y / 2 ^ L ≤ y := Nat.div_le_self _ _
  constructor
  · rw [show ushr (nI y) (nI L) = nI (y / 2 ^ L) from pk_ushrN (by omega) (nI L) L (q_ush L hL), q_a1 (by omega)]
  · rw [pk_shrN (by omega) _ L (q_sh2 L hL), q_a1 (by omega)]
