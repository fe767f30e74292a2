/-! caught by a row of this method's table; the rows ahead don't take it -/
theorem ar_catch {p : Program} {l : Launch} {e : Env} {R : Room} {s : State} {m : MethodId} {args : Array Value} {below : List Frame} {meth : Method} {c : Code} {H : Heap} {locs : List Loc} {cells slots pc : Nat} {ls : Array Slot} {rest : List Value} {Q : State → Prop} {own name Ex : String} {ce : Cell} {q : Addr}
    (hown : s.vm.findClass own = some m.cls) (pre : List ExceptionTableEntry) (x : ExceptionTableEntry) (suf : List ExceptionTableEntry) (hsplit : c.exceptionTable.toList = pre ++ x :: suf)
    (hpass : ∀ z ∈ pre, covers z pc = false ∨ (z.catchType ≠ 0 ∧ ∃ nm : String, (Cond.classLink own z.catchType nm).before args s = true ∧ va_Nc Ex nm s)) (hcov : covers x pc = true) (h0 : x.catchType ≠ 0)
    (hlink : (Cond.classLink own x.catchType name).before args s = true) (hcast : (Cond.castable Ex name).before args s = true) (hce : H[q]? = some ce) (hv : ce.vm = .none) (hcl : s.vm.findClass Ex = some ce.cls)
    (kk : W p l e R s m args below meth c H locs cells slots Q (F0 m x.handlerPc ls [.ref q])) : Wx p l e R s m args below meth c H locs cells slots Q (F0 m pc ls rest) q := by
  intro T hT X
  have hpl : e.platform.magicAccessors = ({} : Platform).magicAccessors := by rw [X.admits.platform]
  obtain ⟨c1, c2, hc1, hc2, hasg⟩ := Cond.castable_spec hcast
  cases Option.some.inj (hc1.symm.trans hcl)
  obtain ⟨c3, hc3, hr3⟩ := Cond.classLink_spec hown hlink e.platform hpl
  cases Option.some.inj (hc2.symm.trans hc3)
  have hthere : ∃ k, s.vm.classes[ce.cls]? = some k := by
    obtain ⟨k, hk, -⟩ := Vm.findClass_spec hcl
    exact ⟨k, hk⟩
  obtain ⟨vm2, X2, st⟩ := X.thenCaughtThrough q (g := F0 m pc ls rest) rfl (Steps.refl _) (by rw [hT]; exact hce) (by rw [hv]; rfl) hthere pre x suf hsplit
    (fun z hz => by
      rcases hpass z hz with h | ⟨hz0, nm, hl1, a8, b8, g1, g2, g3⟩
      · exact Or.inl h
      · obtain ⟨c6, hc6, hr6⟩ := Cond.classLink_spec hown hl1 e.platform hpl
        cases Option.some.inj (g1.symm.trans hcl)
        cases Option.some.inj (g2.symm.trans hc6)
        exact Or.inr ⟨hz0, _, hr6, g3⟩) hcov (Or.inr ⟨h0, c2, hr3, hasg⟩)
  obtain ⟨t, a1, b1⟩ := kk (T.setVm vm2) hT X2
  exact ⟨t, st.trans a1, b1⟩
