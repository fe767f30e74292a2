/-! pure part 12: the relation of class and reference; a bit of a whole number -/
def OK (x y : Int32) : Prop := x = y ∧ ∃ v, v < 94 ∧ y = nI v
def CX (nx : Nat) (oe se od sd mc : Nat → Int32) : Prop := (∀ i, i < nx → OK (oe i) (mc i)) ∧ (∀ j, j < 4096 → OK (se j) (mc (131072 + j))) ∧ (∀ i, i < nx → OK (od i) (mc (65536 + i))) ∧ (∀ j, j < 4096 → OK (sd j) (mc (135168 + j)))
theorem OK.new {v : Nat} (h : v < 94) (f g : Nat → Int32) (i j : Nat) : OK (upd f i (nI v) i) (upd g j (nI v) j) := by
  rw [q_upd, q_upd]; exact ⟨rfl, v, h, rfl⟩
theorem OK.putb {f g : Nat → Int32} {i j k l v : Nat} (hv : v < 94) (h : OK (f i) (g j)) (e : i = k ↔ j = l) : OK (upd f k (nI v) i) (upd g l (nI v) j) := by
  by_cases q : i = k
  · have q2 := e.mp q
    subst q q2
    exact OK.new hv f g i j
  · rw [q_updn _ _ q, q_updn _ _ (fun z => q (e.mpr z))]
    exact h
theorem OK.off {x : Int32} {g : Nat → Int32} {j l : Nat} {y : Int32} (h : OK x (g j)) (e : j ≠ l) : OK x (upd g l y j) := by
  rw [q_updn _ _ e]; exact h
section
variable {nx v : Nat} {oe se od sd mc : Nat → Int32}
theorem CX.eo (h : CX nx oe se od sd mc) (hn : nx ≤ 65536) (hv : v < 94) {i : Nat} (hi : i < nx) : CX nx (upd oe i (nI v)) se od sd (upd mc i (nI v)) :=
  ⟨fun k hk => (h.1 k hk).putb hv Iff.rfl, fun k hk => (h.2.1 k hk).off (by omega), fun k hk => (h.2.2.1 k hk).off (by omega), fun k hk => (h.2.2.2 k hk).off (by omega)⟩
theorem CX.es (h : CX nx oe se od sd mc) (hn : nx ≤ 65536) (hv : v < 94) {i : Nat} (hi : i < 4096) : CX nx oe (upd se i (nI v)) od sd (upd mc (131072 + i) (nI v)) :=
  ⟨fun k hk => (h.1 k hk).off (by omega), fun k hk => (h.2.1 k hk).putb hv (by omega), fun k hk => (h.2.2.1 k hk).off (by omega), fun k hk => (h.2.2.2 k hk).off (by omega)⟩
theorem CX.do' (h : CX nx oe se od sd mc) (hn : nx ≤ 65536) (hv : v < 94) {i : Nat} (hi : i < nx) : CX nx oe se (upd od i (nI v)) sd (upd mc (65536 + i) (nI v)) :=
  ⟨fun k hk => (h.1 k hk).off (by omega), fun k hk => (h.2.1 k hk).off (by omega), fun k hk => (h.2.2.1 k hk).putb hv (by omega), fun k hk => (h.2.2.2 k hk).off (by omega)⟩
theorem CX.ds (h : CX nx oe se od sd mc) (hn : nx ≤ 65536) (hv : v < 94) {i : Nat} (hi : i < 4096) : CX nx oe se od (upd sd i (nI v)) (upd mc (135168 + i) (nI v)) :=
  ⟨fun k hk => (h.1 k hk).off (by omega), fun k hk => (h.2.1 k hk).off (by omega), fun k hk => (h.2.2.1 k hk).off (by omega), fun k hk => (h.2.2.2 k hk).putb hv (by omega)⟩
end
def KX (nx s : Nat) (kp sv : Nat → Int32) : Prop := s ≤ 6 ∧ ∀ k i, k < s → i < nx → OK (kp (k * nx + i)) (sv (65536 * k + i))
/-- class and reference, with what they have spent: K of the bytes, T of those taken, N of the segments -/
def XR (nx K T N : Nat) (x : XS) (m : MS) : Prop := ∃ g ls z s, g ≤ N ∧ RR g ls z x.2.2.2.1 m ∧ CX nx x.2.2.2.2.1 x.2.2.2.2.2.1 x.2.2.2.2.2.2.1 x.2.2.2.2.2.2.2.1 m.2.1 ∧ x.1.1 = nI s ∧ m.1.2.1 = nI s ∧ KX nx s x.2.2.2.2.2.2.2.2 m.2.2.1 ∧ x.1.2.1 = m.1.2.2.2.2.1 ∧
  ((m.1.2.2.2.2.1 = false ∧ WR K g ls z x.2.1 m) ∨ (m.1.2.2.2.2.1 = true ∧ DR T g x.2.2.1 m ∧ 7 * z ≤ K + 12))
theorem WR.mono {K K' g ls z : Nat} {e : EnS} {m : MS} (h : WR K g ls z e m) (hK : K ≤ K') : WR K' g ls z e m := by
  rcases h with ⟨hr, a, c, t, e1, e2, e3, e4, m1, m2, m3, hC, ha, hpot⟩ | ⟨hr, pt, k, R, e1, e2, e3, e4, m1, m2, hI, hpot⟩
  · exact Or.inl ⟨hr, a, c, t, e1, e2, e3, e4, m1, m2, m3, hC, ha, by omega⟩
  · exact Or.inr ⟨hr, pt, k, R, e1, e2, e3, e4, m1, m2, hI, by omega⟩
theorem DR.mono {T T' g : Nat} {d : DeS} {m : MS} (h : DR T g d m) (hT : T ≤ T') : DR T' g d m := by
  obtain ⟨A, hA, d1, mA, hpl, hmv, hd⟩ := h
  refine ⟨A, hA, d1, mA, hpl, hmv, ?_⟩
  rcases hd with hd | ⟨q, S, E, tk, la, s1, s2, s3, s4, s5, s6, s7, s8⟩
  · exact Or.inl hd
  · exact Or.inr ⟨q, S, E, tk, la, s1, s2, s3, s4, s5, s6, by omega, s8⟩
theorem XR.mono {nx K T N K' T' N' : Nat} {x : XS} {m : MS} (h : XR nx K T N x m) (hK : K ≤ K') (hT : T ≤ T') (hN : N ≤ N') : XR nx K' T' N' x m := by
  obtain ⟨g, ls, z, s, h1, h2, h3, h4, h5, h6, h7, h8⟩ := h
  refine ⟨g, ls, z, s, by omega, h2, h3, h4, h5, h6, h7, ?_⟩
  rcases h8 with ⟨a, b⟩ | ⟨a, b, c⟩
  · exact Or.inl ⟨a, b.mono hK⟩
  · exact Or.inr ⟨a, b.mono hT, by omega⟩
/-- the path of a whole number -/
def pN (p b : Nat) : Nat := if 2 * p + b < 512 then 2 * p + b else (2 * p + b) % 256 + 256
theorem pN_lt {p b : Nat} (hp : p < 512) (hb : b < 2) : pN p b < 512 := by
  unfold pN
  by_cases h : 2 * p + b < 512
  · rw [if_pos h]; exact h
  · rw [if_neg h]; omega
theorem x_path {p b : Nat} (hp : p < 512) (hb : b < 2) : f_X_longerPath (nI p) (nI b) = nI (pN p b) := by
  rw [f_X_longerPath_s]
  dsimp only
  rw [q_2x, nI_add]
  unfold pN
  by_cases h : 2 * p + b < 512
  · rw [if_neg (show ¬ (512 : Int32) ≤ nI (2 * p + b) from nI_ge (b := 512) h (by decide)), if_pos h]
  · rw [if_pos (show (512 : Int32) ≤ nI (2 * p + b) from nI_le (a := 512) (by omega) (by omega)), if_neg h, show nI (2 * p + b) &&& 255 = nI ((2 * p + b) % 256) from pk_andN (by omega) 8 (by decide), show (256 : Int32) = nI 256 from rfl, q_or (by omega) (by omega)]
    have h1 : (2 * p + b) % 256 ||| 256 = 256 * 1 + (2 * p + b) % 256 := by
      rw [Nat.or_comm]
      exact (Nat.two_pow_add_eq_or_of_lt (i := 8) (Nat.mod_lt _ (by decide)) 1).symm
    rw [h1, Nat.mul_one, Nat.add_comm]
theorem m_path {p b : Nat} (hp : p < 512) (hb : b < 2) : 2 * nI p + nI b = nI (2 * p + b) ∧ (nI (2 * p + b) < 512 → nI (2 * p + b) = nI (pN p b)) ∧ (¬ nI (2 * p + b) < 512 → irem (nI (2 * p + b)) 256 + 256 = nI (pN p b)) := by
  refine ⟨by rw [q_2x, nI_add], fun h => ?_, fun h => ?_⟩
  · have h := (nI_ltI (b := 512) (by omega) (by decide)).mp h
    unfold pN; rw [if_pos h]
  · have h : ¬ 2 * p + b < 512 := fun q => h (nI_lt (b := 512) q (by decide))
    unfold pN
    rw [if_neg h, show irem (nI (2 * p + b)) 256 = nI ((2 * p + b) % 256) from pk_rem (d := 256) (by omega) (by decide) (by decide)]
    exact nI_add _ 256
/-- the reference with another path and count -/
abbrev Pm (m : MS) (p c : Int32) : MS := ((m.1.1, m.1.2.1, m.1.2.2.1, m.1.2.2.2.1, m.1.2.2.2.2.1, m.1.2.2.2.2.2.1, m.1.2.2.2.2.2.2.1, m.1.2.2.2.2.2.2.2.1, m.1.2.2.2.2.2.2.2.2.1, m.1.2.2.2.2.2.2.2.2.2.1, m.1.2.2.2.2.2.2.2.2.2.2.1, m.1.2.2.2.2.2.2.2.2.2.2.2.1, m.1.2.2.2.2.2.2.2.2.2.2.2.2.1, m.1.2.2.2.2.2.2.2.2.2.2.2.2.2.1, m.1.2.2.2.2.2.2.2.2.2.2.2.2.2.2.1, m.1.2.2.2.2.2.2.2.2.2.2.2.2.2.2.2.1, m.1.2.2.2.2.2.2.2.2.2.2.2.2.2.2.2.2.1, m.1.2.2.2.2.2.2.2.2.2.2.2.2.2.2.2.2.2.1, p, c), m.2.1, m.2.2.1, m.2.2.2.1, m.2.2.2.2.1, m.2.2.2.2.2)
/-- while a whole number passes: path p, count n -/
def PR (nx K T N p n : Nat) (dec : Bool) (x : XS) (m : MS) : Prop := XR nx K T N x m ∧ x.1.2.2 = nI p ∧ m.1.2.2.2.2.2.2.2.2.2.2.2.2.2.2.2.2.2.2.1 = nI p ∧ m.1.2.2.2.2.2.2.2.2.2.2.2.2.2.2.2.2.2.2.2 = nI n ∧ p < 512 ∧ m.1.2.2.2.2.1 = dec ∧ m.1.1 = 0
/-- one step of the class -/
noncomputable def xPut (q b : Int32) (x : XS) : XS :=
  let u4 := f_En_put 4096 ((q * 512) + x.1.2.2) b (x.2.1, x.2.2.2.1, x.2.2.2.2.2.1)
  ((x.1.1, x.1.2.1, f_X_longerPath x.1.2.2 b), u4.1, x.2.2.1, u4.2.1, x.2.2.2.2.1, u4.2.2, x.2.2.2.2.2.2.1, x.2.2.2.2.2.2.2.1, x.2.2.2.2.2.2.2.2)
/-- what writing and reading leave alone -/
def FR (m m' : MS) : Prop := m'.1.1 = m.1.1 ∧ m'.1.2.1 = m.1.2.1 ∧ m'.1.2.2.2.2.1 = m.1.2.2.2.2.1 ∧ m'.1.2.2.2.2.2.2.2.2.2.2.2.2.2.2.2.2.2.2.1 = m.1.2.2.2.2.2.2.2.2.2.2.2.2.2.2.2.2.2.2.1 ∧ m'.1.2.2.2.2.2.2.2.2.2.2.2.2.2.2.2.2.2.2.2 = m.1.2.2.2.2.2.2.2.2.2.2.2.2.2.2.2.2.2.2.2 ∧ m'.2.2.1 = m.2.2.1
theorem put_r {nx nc i P v b g ls z K : Nat} {e : EnS} {r : RoS} {m : MS} {cx : Nat → Int32} (hnc : nc < 2 ^ 31) (hi : i < nc) (hP : P < 139264) (hv : v < 94) (hx : cx i = nI v) (hm : m.2.1 P = nI v) (hb : b < 2) (hK : K + 15 ≤ 293988) (hR : RR g ls z r m) (hW : WR K g ls z e m) :
    ∃ m' z' v' e' r', f_M_write nx (nI P) (nI b) m = m' ∧ f_En_put nc (nI i) (nI b) (e, r, cx) = (e', r', upd cx i (nI v')) ∧ k_En_put nc (nI i) (nI b) (e, r, cx) ∧ k_M_write nx (nI P) (nI b) m ∧ v' < 94 ∧ FR m m' ∧ m'.2.1 = upd m.2.1 P (nI v') ∧ RR g ls z' r' m' ∧ WR (K + 15) g ls z' e' m' := by
  obtain ⟨z', v', e', r', a, c, t, pp, qq, st, bt, F1, F2, F3, F4, F5, F6, F7⟩ := put_both (nx := nx) hnc hi hP hv hx hm hb hK hR hW
  exact ⟨_, z', v', e', r', F3, F1, F2, F4, F5, ⟨rfl, rfl, rfl, rfl, rfl, rfl⟩, rfl, F6, F7⟩
theorem read_r {nx nc i P v g ls z T : Nat} {d : DeS} {r : RoS} {m : MS} {cx : Nat → Int32} (hnc : nc < 2 ^ 31) (hi : i < nc) (hP : P < 139264) (hv : v < 94) (hx : cx i = nI v) (hm : m.2.1 P = nI v) (hz : z ≤ 42000) (hT : T ≤ 1000000000) (hR : RR g ls z r m) (hD : DR T g d m) :
    ∃ m' w v' d', f_M_readBit nx (nI P) m = (nI w, m') ∧ f_De_read nc (nI i) (d, r, cx) = (nI w, (d', r, upd cx i (nI v'))) ∧ k_De_read nc (nI i) (d, r, cx) ∧ k_M_readBit nx (nI P) m ∧ w < 2 ∧ v' < 94 ∧ FR m m' ∧ m'.2.1 = upd m.2.1 P (nI v') ∧ RR g ls z r m' ∧ DR (T + 20) g d' m' := by
  obtain ⟨w, v', d', tk, ds, ov, dd, la, lf, F1, F2, F3, F4, F5, F6, F7⟩ := read_both (nx := nx) hnc hi hP hv hx hm hz hT hR hD
  exact ⟨_, w, v', d', F3, F1, F2, F4, F5, F6, ⟨rfl, rfl, rfl, rfl, rfl, rfl⟩, rfl, hR, F7⟩
theorem m_placeS {nx q p : Nat} {m : MS} (dec : Bool) (hdec : m.1.2.2.2.2.1 = dec) (hp : m.1.2.2.2.2.2.2.2.2.2.2.2.2.2.2.2.2.2.2.1 = nI p) :
    f_M_placeIn nx (nI q) m.1.2.2.2.2.2.2.2.2.2.2.2.2.2.2.2.2.2.2.1 m = nI ((if dec then 135168 else 131072) + (q * 512 + p)) ∧ k_M_placeIn nx (nI q) m.1.2.2.2.2.2.2.2.2.2.2.2.2.2.2.2.2.2.2.1 m := by
  refine ⟨?_, br_c (fun _ => trivial) (fun _ => trivial), fun _ _ => trivial⟩
  rw [f_M_placeIn_s]
  dsimp only
  rw [hp]
  cases dec with
  | false =>
    have eside : f_M_side nx m = nI 0 := by rw [f_M_side_s]; exact if_pos (by rw [hdec]; rfl)
    rw [eside, show (8 : Int32) = nI 8 from rfl, pk_mul, nI_add, show (512 : Int32) = nI 512 from rfl, pk_mul, show (131072 : Int32) = nI 131072 from rfl, nI_add, nI_add, if_neg (by decide)]
    exact congrArg nI (by omega)
  | true =>
    have eside : f_M_side nx m = nI 1 := by rw [f_M_side_s]; exact if_neg (by rw [hdec]; decide)
    rw [eside, show (8 : Int32) = nI 8 from rfl, pk_mul, nI_add, show (512 : Int32) = nI 512 from rfl, pk_mul, show (131072 : Int32) = nI 131072 from rfl, nI_add, nI_add, if_pos rfl]
    exact congrArg nI (by omega)
theorem m_passW {nx q p n b P : Nat} {m m' : MS} (hd : bI m.1.2.2.2.2.1 = 0) (hpl : f_M_placeIn nx (nI q) m.1.2.2.2.2.2.2.2.2.2.2.2.2.2.2.2.2.2.2.1 m = nI P) (hw : f_M_write nx (nI P) (nI b) m = m') (hp1 : m'.1.2.2.2.2.2.2.2.2.2.2.2.2.2.2.2.2.2.2.1 = nI p) (hn : m'.1.2.2.2.2.2.2.2.2.2.2.2.2.2.2.2.2.2.2.2 = nI n) (hp : p < 512) (hb : b < 2) :
    f_M_pass nx (nI q) (nI b) m = (nI b, Pm m' (nI (pN p b)) (nI (n + 1))) := by
  obtain ⟨P1, P2, P3⟩ := m_path hp hb
  rw [f_M_pass_s, hpl]
  refine (if_pos hd).trans ?_
  rw [hw]
  dsimp only
  rw [hp1, P1, hn, nI_1]
  by_cases hh : nI (2 * p + b) < 512
  · rw [if_pos hh, P2 hh]
  · rw [if_neg hh, P3 hh]
theorem m_passR {nx q p n P w : Nat} {m m' : MS} (hd : ¬ bI m.1.2.2.2.2.1 = 0) (hpl : f_M_placeIn nx (nI q) m.1.2.2.2.2.2.2.2.2.2.2.2.2.2.2.2.2.2.2.1 m = nI P) (hw : f_M_readBit nx (nI P) m = (nI w, m')) (hp1 : m'.1.2.2.2.2.2.2.2.2.2.2.2.2.2.2.2.2.2.2.1 = nI p) (hn : m'.1.2.2.2.2.2.2.2.2.2.2.2.2.2.2.2.2.2.2.2 = nI n) (hp : p < 512) (hb : w < 2) (c : Int32) :
    f_M_pass nx (nI q) c m = (nI w, Pm m' (nI (pN p w)) (nI (n + 1))) := by
  obtain ⟨P1, P2, P3⟩ := m_path hp hb
  rw [f_M_pass_s, hpl]
  refine (if_neg hd).trans ?_
  rw [hw]
  dsimp only
  rw [hp1, P1, hn, nI_1]
  by_cases hh : nI (2 * p + w) < 512
  · rw [if_pos hh, P2 hh]
  · rw [if_neg hh, P3 hh]
theorem wpass {nx K T N p n q b : Nat} {x : XS} {m : MS} (hn : nx ≤ 65536) (hK : K + 15 ≤ 293988) (hq : q < 8) (hb : b < 2) (h : PR nx K T N p n false x m) :
    ∃ m', f_M_pass nx (nI q) (nI b) m = (nI b, m') ∧ k_M_pass nx (nI q) (nI b) m ∧ k_En_put 4096 ((nI q * 512) + x.1.2.2) (nI b) (x.2.1, x.2.2.2.1, x.2.2.2.2.2.1) ∧ PR nx (K + 15) T N (pN p b) (n + 1) false (xPut (nI q) (nI b) x) m' := by
  obtain ⟨⟨g, ls, z, s, hN, hR, hC, hs1, hs2, hk, hd, hw⟩, hp1, hp2, hn2, hp, hdec, hcode⟩ := h
  have hW : WR K g ls z x.2.1 m := by
    rcases hw with ⟨-, hw⟩ | ⟨hw, -⟩
    · exact hw
    · rw [hdec] at hw; exact absurd hw (by decide)
  have ei : nI q * 512 + x.1.2.2 = nI (q * 512 + p) := by rw [hp1, show (512 : Int32) = nI 512 from rfl, pk_mul, nI_add]
  obtain ⟨epl, kpl⟩ := m_placeS (nx := nx) (q := q) false hdec hp2
  rw [if_neg (by decide)] at epl
  obtain ⟨c1, v, hv, c2⟩ := hC.2.1 (q * 512 + p) (by omega)
  obtain ⟨m', z', v', e', r', F3, F1, F2, F4, F5, FF, Fc, F6, F7⟩ := put_r (nx := nx) (nc := 4096) (i := q * 512 + p) (P := 131072 + (q * 512 + p)) (b := b) (by decide) (by omega) (by omega) hv (c1.trans c2) c2 hb hK hR hW
  obtain ⟨f0, f1, f2, f3, f4, f5⟩ := FF
  have hmd : bI m.1.2.2.2.2.1 = 0 := by rw [hdec]; rfl
  refine ⟨Pm m' (nI (pN p b)) (nI (n + 1)), m_passW hmd epl F3 (f3.trans hp2) (f4.trans hn2) hp hb, ?_, ?_, ?_⟩
  · refine ⟨kpl, fun r2 h2 => br_t hmd ⟨?_, fun _ _ _ _ => br_c (fun _ _ _ => trivial) (fun _ _ _ _ _ => trivial)⟩⟩
    rw [h2, epl]
    exact F4
  · rw [ei]; exact F2
  · have hx : xPut (nI q) (nI b) x = ((x.1.1, x.1.2.1, nI (pN p b)), e', x.2.2.1, r', x.2.2.2.2.1, upd x.2.2.2.2.2.1 (q * 512 + p) (nI v'), x.2.2.2.2.2.2.1, x.2.2.2.2.2.2.2.1, x.2.2.2.2.2.2.2.2) := by
      unfold xPut
      rw [ei, F1, hp1, x_path hp hb]
    rw [hx]
    have hC' := hC.es hn F5 (i := q * 512 + p) (by omega)
    rw [← Fc] at hC'
    exact ⟨⟨g, ls, z', s, hN, F6, hC', hs1, f1.trans hs2, by rw [← f5] at hk; exact hk, hd.trans f2.symm, Or.inl ⟨f2.trans hdec, F7⟩⟩, rfl, rfl, rfl, pN_lt hp hb, f2.trans hdec, f0.trans hcode⟩
noncomputable def xGet (q : Int32) (x : XS) : Int32 × XS :=
  let r3 := (f_De_read 4096 ((q * 512) + x.1.2.2) (x.2.2.1, x.2.2.2.1, x.2.2.2.2.2.2.2.1)).1
  let u3 := (f_De_read 4096 ((q * 512) + x.1.2.2) (x.2.2.1, x.2.2.2.1, x.2.2.2.2.2.2.2.1)).2
  (r3, ((x.1.1, x.1.2.1, f_X_longerPath x.1.2.2 r3), x.2.1, u3.1, u3.2.1, x.2.2.2.2.1, x.2.2.2.2.2.1, x.2.2.2.2.2.2.1, u3.2.2, x.2.2.2.2.2.2.2.2))
theorem rpass {nx K T N p n q : Nat} {x : XS} {m : MS} (c : Int32) (hn : nx ≤ 65536) (hK : K ≤ 293988) (hT : T ≤ 1000000000) (hq : q < 8) (h : PR nx K T N p n true x m) :
    ∃ w x' m', w < 2 ∧ f_M_pass nx (nI q) c m = (nI w, m') ∧ k_M_pass nx (nI q) c m ∧ xGet (nI q) x = (nI w, x') ∧ k_De_read 4096 ((nI q * 512) + x.1.2.2) (x.2.2.1, x.2.2.2.1, x.2.2.2.2.2.2.2.1) ∧ PR nx K (T + 20) N (pN p w) (n + 1) true x' m' := by
  obtain ⟨⟨g, ls, z, s, hN, hR, hC, hs1, hs2, hk, hd, hw⟩, hp1, hp2, hn2, hp, hdec, hcode⟩ := h
  have hD : DR T g x.2.2.1 m ∧ 7 * z ≤ K + 12 := by
    rcases hw with ⟨hw, -⟩ | ⟨-, hw⟩
    · rw [hdec] at hw; exact absurd hw (by decide)
    · exact hw
  have ei : nI q * 512 + x.1.2.2 = nI (q * 512 + p) := by rw [hp1, show (512 : Int32) = nI 512 from rfl, pk_mul, nI_add]
  obtain ⟨epl, kpl⟩ := m_placeS (nx := nx) (q := q) true hdec hp2
  rw [if_pos rfl] at epl
  obtain ⟨c1, v, hv, c2⟩ := hC.2.2.2 (q * 512 + p) (by omega)
  obtain ⟨m', w, v', d', F3, F1, F2, F4, Fw, F5, FF, Fc, F6, F7⟩ := read_r (nx := nx) (nc := 4096) (i := q * 512 + p) (P := 135168 + (q * 512 + p)) (by decide) (by omega) (by omega) hv (c1.trans c2) c2 (by omega) hT hR hD.1
  obtain ⟨f0, f1, f2, f3, f4, f5⟩ := FF
  have hmd : ¬ bI m.1.2.2.2.2.1 = 0 := by rw [hdec]; decide
  refine ⟨w, ((x.1.1, x.1.2.1, nI (pN p w)), x.2.1, d', x.2.2.2.1, x.2.2.2.2.1, x.2.2.2.2.2.1, x.2.2.2.2.2.2.1, upd x.2.2.2.2.2.2.2.1 (q * 512 + p) (nI v'), x.2.2.2.2.2.2.2.2), Pm m' (nI (pN p w)) (nI (n + 1)), Fw, m_passR hmd epl F3 (f3.trans hp2) (f4.trans hn2) hp Fw c, ?_, ?_, ?_, ?_⟩
  · refine ⟨kpl, fun r2 h2 => br_f hmd ⟨?_, fun _ _ _ _ _ _ => br_c (fun _ _ _ => trivial) (fun _ _ _ _ _ => trivial)⟩⟩
    rw [h2, epl]
    exact F4
  · unfold xGet
    rw [ei, F1, hp1]
    dsimp only
    rw [x_path hp Fw]
  · rw [ei]; exact F2
  · have hC' := hC.ds hn F5 (i := q * 512 + p) (by omega)
    rw [← Fc] at hC'
    exact ⟨⟨g, ls, z, s, hN, F6, hC', hs1, f1.trans hs2, by rw [← f5] at hk; exact hk, hd.trans f2.symm, Or.inr ⟨f2.trans hdec, F7, hD.2⟩⟩, rfl, rfl, rfl, pN_lt hp Fw, f2.trans hdec, f0.trans hcode⟩
