/-! the law's wrappers: methods with handlers -/
/-- the world of the class's object, of the reference, of the law's row of one long -/
abbrev wX (E : Ev) (x es eo ec ds dw dc h a1 a2 a3 he hd ak nx : Nat) (st : XS) : va_W := [(x, .inr (4, [.int (nI nx), .ref es, .ref ds, .ref h, .ref he, .ref hd, .ref ak, .int st.1.1, .int (bI st.1.2.1), .int st.1.2.2])), (es, .inr (1, [.ref eo, .ref ec])), (eo, .inl (E.2.1 0, nx, .inl st.2.2.2.2.1)), (ec, .inl (E.2.1 0, 4096, .inl st.2.2.2.2.2.1)), (ds, .inr (1, [.ref dw, .ref dc])), (dw, .inl (E.2.1 0, nx, .inl st.2.2.2.2.2.2.1)), (dc, .inl (E.2.1 0, 4096, .inl st.2.2.2.2.2.2.2.1)), (h, .inr (0, [.ref a1, .ref a2, .ref a3, .int st.2.2.2.1.1, .int st.2.2.2.1.2.1, .int st.2.2.2.1.2.2.1])), (a1, .inl (E.2.1 0, 42000, .inl st.2.2.2.1.2.2.2.1)), (a2, .inl (E.2.1 0, 513, .inl st.2.2.2.1.2.2.2.2.1)), (a3, .inl (E.2.1 1, 513, .inl st.2.2.2.1.2.2.2.2.2)), (he, .inr (2, [.ref h, .int (bI st.2.1.1), .int st.2.1.2.1, .int st.2.1.2.2.1, .int st.2.1.2.2.2.1, .int st.2.1.2.2.2.2.1, .int st.2.1.2.2.2.2.2.1, .int st.2.1.2.2.2.2.2.2])), (hd, .inr (3, [.ref h, .int st.2.2.1.1, .int (bI st.2.2.1.2.1), .int (bI st.2.2.1.2.2.1), .int st.2.2.1.2.2.2.1, .int st.2.2.1.2.2.2.2.1, .int st.2.2.1.2.2.2.2.2.1, .int st.2.2.1.2.2.2.2.2.2.1, .int st.2.2.1.2.2.2.2.2.2.2.1, .int st.2.2.1.2.2.2.2.2.2.2.2.1, .int st.2.2.1.2.2.2.2.2.2.2.2.2])), (ak, .inl (E.2.1 0, (6 * nx), .inl st.2.2.2.2.2.2.2.2))]
abbrev wO (E : Ev) (o : Nat) (f : Nat → Int64) : Nat × va_E := (o, .inl (E.2.1 2, 1, .inr (.inl f)))
def bL (b : Bool) : Int64 := if b then 1 else 0
theorem bI_z {b : Bool} {r : Int32} (h : r = bI b) (h0 : r = 0) : b = false := by
  cases b with
  | false => rfl
  | true => exact absurd (h.symm.trans h0) (by decide)
theorem bI_nz {b : Bool} {r : Int32} (h : r = bI b) (h0 : ¬ r = 0) : b = true := by
  cases b with
  | true => rfl
  | false => exact absurd h h0
abbrev ar_e (q : Nat × Nat × Nat × Nat) : ExceptionTableEntry := ⟨q.1, q.2.1, q.2.2.1, q.2.2.2⟩
theorem ar_tab {t : List ExceptionTableEntry} {hh : List (Nat × Nat × Nat × Nat)} (h : t.map (fun h => (h.startPc, h.endPc, h.handlerPc, h.catchType)) = hh) : t = hh.map ar_e := by
  subst h
  induction t with
  | nil => rfl
  | cons a t ih => exact congrArg (a :: ·) ih
/-- a contract of a method with handlers -/
def KtW (l : Launch) (y : MethodName) (bytes : ByteArray) (maxL : Nat) (ret : Option FieldType) (hh : List (Nat × Nat × Nat × Nat)) (h mc ms : Nat) (E : Ev) (A : Nat → Prop) (avs : List Value) (ws : va_W) (Qc : Array Value → State → Outcome → State → Prop) : Prop :=
  Met l y (Cond.codeWith y bytes maxL ret hh :: TT) (ar_rm h mc ms) (va_Pc avs (ar_B E A ws)) Qc mc ms A
theorem KtW.of {l : Launch} {y : MethodName} {bytes : ByteArray} {maxL : Nat} {ret : Option FieldType} {hh : List (Nat × Nat × Nat × Nat)} {h mc ms : Nat} {E : Ev} {A : Nat → Prop} {avs : List Value} {ws : va_W} {Qc : Array Value → State → Outcome → State → Prop}
    (hy : plainName y.cls = true) (hn : (lg_sl avs).length ≤ maxL)
    (body : ∀ (p : Program) (e : Env) (s : State) (m : MethodId) (below : List Frame) (meth : Method) (c : Code) (ls : Array Slot), p.tables.exec = Jvm.exec → c.code = bytes → c.maxLocals = maxL → s.vm.findClass y.cls = some m.cls → (∀ w ∈ TT, w.before avs.toArray s = true) →
      meth.sig.returnType = ret → meth.locks = false → c.exceptionTable.toList = hh.map ar_e → (∀ q, s.heap.size ≤ q → A q) → ZT E A s s.heap → va_P E.1 classes ws s.heap → va_K E.1 classes (Ty E) s → va_D A ws → lv_has ls maxL (lv_args 0 avs) →
      W p l e (ar_rm h mc ms) s m avs.toArray below meth c s.heap [] 0 0 (MQ below Qc avs.toArray s mc ms A) (F0 m 0 ls [])) :
    KtW l y bytes maxL ret hh h mc ms E A avs ws Qc := by
  refine va_MetW (cc := bytes) (maxL := maxL) (ret := ret) (hh := hh) hy rfl ?_
  intro p e s m args below meth c s₁ B hml hv
  obtain ⟨rfl, hA, hZ, hP, hK, hD⟩ := hv
  have hw := atoms_spec (ws := Cond.codeWith y bytes maxL ret hh :: TT) B.pre
  have hl := lv_entry avs (n := maxL) hn
  rw [lg_entry_eq]
  obtain ⟨m9, meth9, c9, hn9, h1, h2, -, -, h5, -, -, -⟩ := Cond.codeWith_spec (hw _ List.mem_cons_self)
  cases B.named.symm.trans hn9
  cases B.method.symm.trans h1
  cases (Stand.of_body B).code.symm.trans h2
  exact body p e s m below meth c _ B.exec B.bytes hml (findClass_of_methodNamed B.named) (fun w h => hw w (List.mem_cons_of_mem _ h)) B.returns B.notSynchronized (ar_tab h5) hA hZ hP hK hD hl
section CallsW
variable {p : Program} {l : Launch} {e : Env} {R : Room} {s : State} {m : MethodId} {args : Array Value} {below : List Frame} {meth : Method} {c : Code} {H : Heap} {locs : List Loc} {cells slots mc ms : Nat} {E : Ev} {A : Nat → Prop} {cc : ByteArray} {pc nL : Nat} {ls : Array Slot} {ws wc wr : va_W} {st0 rest As : List Value}
/-- invokestatic of a method with handlers -/
theorem ar_runSW {y : MethodName} {bytes : ByteArray} {maxL : Nat} {ret : Option FieldType} {hh : List (Nat × Nat × Nat × Nat)} {h n index : Nat} {own : String} {Qc : Array Value → State → Outcome → State → Prop}
    (hx : p.tables.exec = Jvm.exec) (hb : c.code = cc) (hml : c.maxLocals = nL) (hown : s.vm.findClass own = some m.cls) (hts : ∀ w ∈ TT, w.before args s = true)
    (hP : va_P E.1 classes ws H) (hD : va_D A ws) (hS : va_S A s.heap H locs) (hA : ∀ q, s.heap.size ≤ q → A q) (hK : va_K E.1 classes (Ty E) s) (hZ : ZT E A s s.heap)
    (hM : KtW l y bytes maxL ret hh h mc ms E (va_A wc H.size) As wc Qc)
    (hl : Cond.methodLink own index y ∈ TT) (hstt : Cond.static y ∈ TT) (hini : Cond.initialized y.cls ∈ TT) (hc : Cond.codeWith y bytes maxL ret hh ∈ TT)
    (hd : y.cls ≠ "java/lang/invoke/MethodHandle" ∧ y.cls ≠ "java/lang/invoke/VarHandle" ∧ (parseMethodDescriptor y.desc).map (fun d => d.parameters.length) = some n) (hR : h + 1 ≤ R.frames ∧ 8 + (maxL + 11) + 35 * h ≤ R.locals)
    (isC : List Nat) (hC : isC.map (fun i => ws[i]?) = wc.map some) (hC2 : isC.filterMap (fun i => ws[i]?) = wc) (hnC : va_nd isC = true)
    (hn : As.length = n) (hsize : ls.size = nL) (hst : st0 = As.reverse ++ rest) (hrest : (rest.map fun v => v.category).sum ≤ 8) (hdg : decode cc pc = .ok (.invokestatic index, 3)) (hf : cells + mc ≤ R.cells ∧ slots + ms ≤ R.slots) :
    va_Run p l e R s m args below meth c H locs cells slots mc ms (F0 m pc ls st0) rest (Qc As.toArray) (va_A wc H.size) := by
  have hgood : GoodIn TT (Cond.codeWith y bytes maxL ret hh :: TT) := fun w hw => by
    have h : w ∈ TT := (List.mem_cons.mp hw).elim (fun e => by rw [e]; exact hc) id
    exact ⟨h, good_of_word (TT_good h)⟩
  have hK9 : Back l R p e below s args y 3 8 (PreOf R mc ms (va_Pc As (ar_B E (va_A wc H.size) wc))) (PostOf Qc mc ms (va_A wc H.size)) :=
    va_backW (hh := hh) (bytes := bytes) (maxL := maxL) (ret := ret) hM ar_blind rfl rfl hR.1 hR.2 (pay_in hts hgood) List.mem_cons_self (fun a' U hW => word_at hW (Or.inl (by first | rfl | simp [Cond.onTables, Cond.keeps, Cond.steady])) (hts _ hini))
  intro T hT X
  obtain ⟨mk, methM, cM, hnamed, hmethM, -, -, -, -, -, -, hsigM⟩ := Cond.codeWith_spec (hts _ hc)
  have hstatic : methM.isStatic = true := Cond.static_spec hnamed hmethM (hts _ hstt)
  obtain ⟨kP, hkP, -⟩ := className_of_methodNamed hnamed
  have hinitP : kP.init = .initialized := Cond.initialized_spec (findClass_of_methodNamed hnamed) hkP (hts _ hini)
  have hlen : As.length = methM.sig.parameters.length := by
    have h2 := hd.2.2
    rw [hsigM] at h2
    rw [hn]
    exact (Option.some.inj h2).symm
  obtain ⟨vm₁, X₁, hstep₁⟩ := X.invokestatic hx hown (hts _ hl) hnamed hmethM hstatic hkP hinitP ⟨hd.1, hd.2.1⟩ (g := F0 m pc ls st0) rfl (argsL := As) (rest := rest) hlen hst (by rw [hb]; exact hdg)
  obtain ⟨v, ⟨U', l2, c2, s2⟩, X', ⟨g', mk', t, L, e1, e2, hq, h1, hL, h2, h3⟩, hsteps⟩ := hK9 m meth c ⟨T.setVm vm₁, locs, cells, slots⟩ { F0 m pc ls st0 with stack := rest } (.invokestatic index) mk As.toArray X₁ rfl (hsize.trans hml.symm) (by rw [hb]; exact hdg) (lv_room hrest) (X₁.named hnamed)
    ⟨hf.1, hf.2, rfl, ar_pre hP hD hS hA hK hZ isC hC hC2 hnC hT X₁.warmed⟩
  dsimp only [Pt.U, Pt.locs, Pt.cells, Pt.slots] at X' e1 e2 h1 h2 h3 hsteps
  subst h1; subst h2; subst h3
  exact ⟨v, (T.setVm vm₁).calling g' mk' As.toArray, t, U', L, hT, X', hL, e1, e2, hq, fun target h => hstep₁ _ fun acts => by rw [doInvoke_state]; exact hsteps.trans h⟩
end CallsW
