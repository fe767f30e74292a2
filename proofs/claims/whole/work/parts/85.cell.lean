/-! the law's own 'cell': an int of the script, or 0 -/
def cB (E : Ev) (A : Nat → Prop) (b L : Nat) (xs : Nat → Int32) (U : State) : Prop := ar_B E A [] U ∧ va_X b L xs U U.heap ∧ b < U.heap.size ∧ ¬ A b
theorem cB.blind {E : Ev} {A : Nat → Prop} {b L : Nat} {xs : Nat → Int32} {avs : List Value} : FrameBlind (va_Pc avs (cB E A b L xs)) := fun a U g mk q =>
  ⟨q.1, (ar_blind (avs := avs) a U g mk ⟨q.1, q.2.1⟩).2, va_X.moved (u := U) (U := U.calling g mk a) (Vm.Alike.refl U.vm) q.2.2.1, q.2.2.2⟩
set_option maxHeartbeats 4000000 in
set_option maxRecDepth 100000 in
theorem c_La_cell (l : Launch) (E : Ev) (A : Nat → Prop) (b L : Nat) (xs : Nat → Int32) (hL : L < 2 ^ 31) :
    Met l y_La_cell (Cond.code y_La_cell b_La_cell 2 (some .int) :: TT) (ar_rm 0 0 0) (va_Pc [.ref b, .int 0] (cB E A b L xs)) (va_Qi (fun (r : Int32) (_ : Unit) => r = if 0 < L then xs 0 else 0) (ar_W E A (fun _ : Unit => [])) A) 0 0 A := by
  refine Met.ofW (cc := b_La_cell) (maxL := 2) (ret := some .int) (by decide) rfl ?_
  intro p e s m args below meth c s₁ B hml hv
  obtain ⟨rfl, ⟨hA, hZ, hP, hK, hD⟩, hX, hbl, hbA⟩ := hv
  have hw := atoms_spec (ws := Cond.code y_La_cell b_La_cell 2 (some .int) :: TT) B.pre
  have hl := lv_entry ([.ref b, .int 0] : List Value) (n := 2) (Nat.le_of_ble_eq_true rfl)
  rw [lg_entry_eq]
  generalize (lg_sl ([.ref b, .int 0] : List Value) ++ List.replicate (2 - (lg_sl ([.ref b, .int 0] : List Value)).length) Slot.unset).toArray = ls at hl ⊢
  have hl : lv_has ls 2 [(0, .ref b), (1, .int 0)] := hl
  have hx := B.exec
  have hb := B.bytes
  have hr := B.returns
  have hlocks := B.notSynchronized
  have hS : va_S A s.heap s.heap [] := va_S.rf
  refine lv_iload_n hx hb d_La_cell_0 rfl (lv_at hl 1 rfl) ?_
  refine lv_aload_n hx hb d_La_cell_1 rfl (lv_at hl 0 rfl) ?_
  refine va_slen hx hb hX hbl hbA hS d_La_cell_2 ?_
  refine lv_icmp_ge (tgt := 12) hx hb d_La_cell_3 (by decide) (fun c1 => ?_) (fun c1 => ?_)
  · refine lv_iconst (v := 0) hx hb d_La_cell_12 (by decide) ?_
    have h0 : ¬ 0 < L := fun q => absurd (show nI L ≤ nI 0 from c1) (nI_ge q hL)
    exact ar_iret hx hb hr hlocks hK hS () (by rw [if_neg h0]) hP hD d_La_cell_13
  · have h0 : 0 < L := by
      rcases Nat.eq_zero_or_pos L with q | q
      · exact absurd (show Int32.ofNat L ≤ 0 by rw [q]; decide) c1
      · exact q
    refine lv_aload_n hx hb d_La_cell_6 rfl (lv_at hl 0 rfl) ?_
    refine lv_iload_n hx hb d_La_cell_7 rfl (lv_at hl 1 rfl) ?_
    refine va_sld hx hb hX hbl hbA hS (vp_in_nI (n := 0) h0 hL) d_La_cell_8 ?_
    refine lv_goto (tgt := 13) hx hb d_La_cell_9 (by decide) ?_
    exact ar_iret hx hb hr hlocks hK hS () (by rw [if_pos h0]; rfl) hP hD d_La_cell_13
section
variable {p : Program} {l : Launch} {e : Env} {R : Room} {s : State} {m : MethodId} {args : Array Value} {below : List Frame} {meth : Method} {c : Code} {H : Heap} {locs : List Loc} {cells slots : Nat} {E : Ev} {A : Nat → Prop} {cc : ByteArray} {pc nL : Nat} {ls : Array Slot} {ws : va_W} {rest : List Value} {Q : State → Prop}
/-- the call of it -/
theorem ar_cell {b L : Nat} {xs : Nat → Int32} (hL : L < 2 ^ 31) (hx : p.tables.exec = Jvm.exec) (hb : c.code = cc) (hml : c.maxLocals = nL) (hown : s.vm.findClass "ArithmeticRowsLaw" = some m.cls) (hts : ∀ w ∈ TT, w.before args s = true)
    (hP : va_P E.1 classes ws H) (hD : va_D A ws) (hS : va_S A s.heap H locs) (hA : ∀ q, s.heap.size ≤ q → A q) (hK : va_K E.1 classes (Ty E) s) (hZ : ZT E A s s.heap) (hX : va_X b L xs s s.heap) (hbl : b < s.heap.size) (hbA : ¬ A b) (isR : List Nat) (hR : isR.map (fun i => ws[i]?) = ws.map some) (hn : va_nd isR = true)
    (hR9 : 1 ≤ R.frames ∧ 21 ≤ R.locals) (hsize : ls.size = nL) (hrest : (rest.map fun v => v.category).sum ≤ 8) (hdg : decode cc pc = .ok (.invokestatic 46, 3)) (hf : cells + 0 ≤ R.cells ∧ slots + 0 ≤ R.slots)
    (kk : ∀ (H1 : Heap) (locs1 : List Loc), va_P E.1 classes ws H1 → va_D A ws → va_S A s.heap H1 locs1 → W p l e R s m args below meth c H1 locs1 (cells + 0) (slots + 0) Q (F0 m (pc + 3) ls (.int (if 0 < L then xs 0 else 0) :: rest))) :
    W p l e R s m args below meth c H locs cells slots Q (F0 m pc ls (.int 0 :: .ref b :: rest)) := by
  have hH : s.heap.size ≤ H.size := hS.1
  refine ar_usei (wc := []) (wr := ws) (ws' := fun _ : Unit => []) (a := ([.ref b, .int 0] : List Value).toArray) (mc := 0) (ms := 0) hP hD hS hA [] isR rfl hR hn (fun i _ h => absurd h List.not_mem_nil)
    (va_runS (As := [.ref b, .int 0]) ⟨hx, hb, hml, hown, hts⟩ (c_La_cell l E (va_A [] H.size) b L xs hL) ⟨callB_of 2 hts (ar_good m_295) rfl rfl rfl (hts _ m_0) (hts _ m_293) (by decide +kernel) hR9, hts _ m_294⟩
      ⟨cB.blind, fun U hU hW => ⟨rfl, ar_pre hP hD hS hA hK hZ [] rfl rfl rfl hU hW, va_X.moved hW.alike (va_X.kept hX (by rw [hU]; exact hS.2.1 b hbl hbA)), by rw [hU]; omega, fun q => ?_⟩⟩ rfl rfl hsize rfl (lv_room hrest) hdg hf)
    (fun r u H1 locs1 hw hP1 hD1 hS1 => ?_)
  · rcases q with ⟨k, e9, h9⟩ | h9
    · simp at h9
    · omega
  · subst hw
    rw [List.append_nil] at hP1 hD1
    exact kk H1 locs1 hP1 hD1 hS1
end
section
variable {p : Program} {l : Launch} {e : Env} {R : Room} {s : State} {m : MethodId} {args : Array Value} {below : List Frame} {meth : Method} {c : Code} {H : Heap} {locs : List Loc} {cells slots : Nat} {E : Ev} {A : Nat → Prop} {cc : ByteArray} {pc : Nat} {ls : Array Slot} {ws : va_W} {rest : List Value} {Q : State → Prop}
theorem ar_newL {n : Int32} {N : Nat} (hx : p.tables.exec = Jvm.exec) (hb : c.code = cc) (hts : ∀ w ∈ TT, w.before args s = true) (hP : va_P E.1 classes ws H) (hD : va_D A ws) (hS : va_S A s.heap H locs) (hA : ∀ q, s.heap.size ≤ q → A q) (hK : va_K E.1 classes (Ty E) s) (hn : ¬ n < 0) (hN : n.toNatClampNeg = N) (hbytes : N * componentBytes .long ≤ 536870912) (hcells : cells + 1 ≤ R.cells) (hslots : slots + N ≤ R.slots) (hdg : decode cc pc = .ok (.newarray .long, 2))
    (kk : ∀ (q : Nat) (H1 : Heap), va_P E.1 classes (ws ++ [(q, .inl (E.2.1 2, N, .inr (.inl (fun _ => 0))))]) H1 → va_D A (ws ++ [(q, .inl (E.2.1 2, N, .inr (.inl (fun _ => 0))))]) → va_S A s.heap H1 locs → W p l e R s m args below meth c H1 locs (cells + 1) (slots + N) Q (F0 m (pc + 2) ls (.ref q :: rest))) : W p l e R s m args below meth c H locs cells slots Q (F0 m pc ls (.int n :: rest)) := by
  refine va_newa (atype := .long) (a0 := (N, .inr (.inl (fun _ => 0)))) hx hb (hts _ m_857) rfl hK hP hD hS hA (fun cA => rfl) hn hN hbytes hcells hslots hdg (fun q cA H1 hK1 hP1 hD1 hS1 => ?_)
  have e1 := (hK1.2 3 (cA, .long) rfl).2
  have e2 := (hK.2 2 (E.2.1 2, .long) rfl).2
  have e3 : cA = E.2.1 2 := Option.some.inj (e1.symm.trans e2)
  subst e3
  exact kk q H1 hP1 hD1 hS1
end
