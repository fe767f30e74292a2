/-! throws: the walk seen from here on, as if the method had been called in this heap -/
theorem ar_rebase {p : Program} {l : Launch} {e : Env} {R : Room} {s : State} {m : MethodId} {args : Array Value} {below : List Frame} {meth : Method} {c : Code} {T : State} {locs : List Loc} {cells slots : Nat}
    (X : Stand p l e R s m args below meth c T locs cells slots) {R2 : Room} (hf : R2.frames ≤ R.frames) (hl : R2.locals ≤ R.locals) (hc : cells + R2.cells ≤ R.cells) (hs : slots + R2.slots ≤ R.slots) :
    Stand p l e R2 ((T.setVm s.vm).setFrames (.invoking m args :: below)) m args below meth c T [] 0 0 := by
  have htop : (T.setVm s.vm).topJava?.isSome := X.here.top
  have hcur : (T.setVm s.vm).cur < (T.setVm s.vm).threads.size := State.cur_lt_of_top htop
  have hF : ((T.setVm s.vm).setFrames (.invoking m args :: below)).frames = .invoking m args :: below := State.frames_setFrames _ hcur
  have hmeth : ((T.setVm s.vm).setFrames (.invoking m args :: below)).vm.method? m = some meth := X.method
  refine ⟨X.admits, X.cas, X.clock, hF, ?_, X.hears, hmeth, X.code, X.here, X.tail, X.warmed, ?_, ?_, ?_⟩
  · have hr := X.room
    have hb := X.book
    have h1 := X.cellsAbove (n := R2.cells) hc
    have h2 := X.slotsAbove (n := R2.slots) hs
    have e1 := State.localsInUse_invoking X.frames X.method X.code
    have e2 := State.localsInUse_invoking hF hmeth X.code
    have e3 : ((T.setVm s.vm).setFrames (.invoking m args :: below)).localsInUse = s.localsInUse := by rw [e1, e2]
    have e4 : ((T.setVm s.vm).setFrames (.invoking m args :: below)).frames.length = s.frames.length := by rw [hF, X.frames]
    have e5 : e.platform.stackLimits ((T.setVm s.vm).setFrames (.invoking m args :: below)).me = e.platform.stackLimits s.me := by rw [State.stackLimits_setFrames]; exact X.limits
    have e6 : ((T.setVm s.vm).setFrames (.invoking m args :: below)).me.stackBytes = s.me.stackBytes := by rw [State.stackBytes_setFrames]; exact X.bytes
    simp only [State.hasRoom, Bool.and_eq_true, decide_eq_true_eq] at hr ⊢
    rw [e3, e4, e5, e6]
    obtain ⟨⟨⟨⟨a1, a2⟩, a3⟩, a4⟩, a5⟩ := hr
    exact ⟨⟨⟨⟨by omega, by omega, by omega, by omega, by omega, a2.2.2.2.2⟩, h1⟩, h2⟩, hb⟩
  · rw [State.stackLimits_setFrames]; rfl
  · rw [State.stackBytes_setFrames]; rfl
  · obtain ⟨t, ht, -⟩ := State.frames_cons hF
    have hcur2 : ((T.setVm s.vm).setFrames (.invoking m args :: below)).cur < ((T.setVm s.vm).setFrames (.invoking m args :: below)).threads.size := State.cur_lt_of_frames hF
    have h := (State.sameButNew.refl ((T.setVm s.vm).setFrames (.invoking m args :: below)) ht).setFrames (T.setVm s.vm).frames hcur2
    obtain ⟨g0, hg0⟩ := Option.isSome_iff_exists.mp htop
    obtain ⟨r, hr⟩ := State.topJava?_eq_some.mp hg0
    obtain ⟨t2, ht2, -⟩ := State.frames_cons hr
    rw [State.setFrames_setFrames, State.setFrames_self ht2] at h
    exact h
/-- a callee that always throws: the machine stands in the caller with the exception under way -/
theorem ar_callX {p : Program} {l : Launch} {e : Env} {R : Room} {s : State} {m : MethodId} {args : Array Value} {below : List Frame} {meth : Method} {c : Code} {T : State} {locs : List Loc} {cells slots : Nat}
    (X : Stand p l e R s m args below meth c T locs cells slots) {y : MethodName} {ws : List Cond} {rm : Room} {Pc : Array Value → State → Prop} {Qx : Array Value → State → Outcome → State → Prop} {mc ms W9 len : Nat} {bytes : ByteArray} {maxL : Nat} {ret : Option FieldType} {FL : List Loc → Prop}
    (hM : MetFree l y (headSpec ws rm) Pc (fun _ _ _ _ _ => True) Qx)
    (hQ : ∀ a st o t, Qx a st o t → ∃ (q : Addr) (L : List Loc), o = .threw q ∧ FL L ∧ st.WarmedH t.vm ∧ st.sameButNew ({ t with vm := st.vm } : State) L mc ms)
    (hws : ∀ w ∈ ws, ∀ (a' : Array Value) (U : State), s.WarmedH U.vm → w.before a' U = true) (hcode : Cond.code y bytes maxL ret ∈ ws) (hini : ∀ (a' : Array Value) (U : State), s.WarmedH U.vm → (Cond.initialized y.cls).before a' U = true)
    (hblind : FrameBlind Pc) (hrc : rm.cells = mc) (hrs : rm.slots = ms) (hframes : rm.frames + 1 ≤ R.frames) (hlocals : W9 + (maxL + 11) + rm.locals ≤ R.locals)
    {g : JFrame} (hg : g.method = m) (hsize : g.locals.size = c.maxLocals) (hW : 2 * g.monitorRoom + (g.stack.map fun v => v.category).sum ≤ W9) {ig : Instr} (hdg : decode c.code g.pc = .ok (ig, len)) {mk : MethodId} (hn : T.methodNamed? y = some mk) {a : Array Value} (hP : Pc a T) (hcl : cells + mc ≤ R.cells) (hsl : slots + ms ≤ R.slots) :
    ∃ (q : Addr) (t T2 : State) (L : List Loc), Stand p l e R s m args below meth c T2 (locs ++ L) (cells + mc) (slots + ms) ∧ FL L ∧ T2.heap = t.heap ∧ T2.vm = t.vm ∧ Qx a (T.calling g mk a) (.threw q) t ∧
      Steps p.tables e below (doInvoke e (T.setTop g) [] mk a).1 ((T2.setTop g).pushFrame (.throwing q)) := by
  have h1 : (headSpec ws rm).pre.before a T = true := atoms_intro (fun w hw => hws w hw _ _ X.warmed)
  have h2 := hws _ hcode a T X.warmed
  have h3 := hini a T X.warmed
  obtain ⟨methY, cY, hmY, hcY, -, hlY, -, -, -, -⟩ := Cond.code_spec hn h2
  obtain ⟨kY, hkY, -⟩ := className_of_methodNamed hn
  have hinitY : kY.init = .initialized := Cond.initialized_spec (findClass_of_methodNamed hn) hkY h3
  have h : At T g.method c below := by rw [hg]; exact X.here
  have happ : (headSpec ws rm).appliesLoose y e.platform (T.calling g mk a) = true :=
    Spec.appliesLoose_calling (g := g) h hdg hn hkY hinitY
      (X.room_calling (g := g) (R' := (headSpec ws rm).room) hsize hmY hcY hframes (by rw [hlY]; exact Nat.le_trans (by show _ ≤ W9 + (maxL + 11) + rm.locals; have hz : (headSpec ws rm).room.locals = rm.locals := rfl; omega) hlocals) (by show cells + rm.cells ≤ R.cells; rw [hrc]; exact hcl) (by show slots + rm.slots ≤ R.slots; rw [hrs]; exact hsl)) h1
  obtain ⟨mid, hmid⟩ := h.above
  have hfr : (T.setTop g).frames = (.java g :: mid) ++ below := by rw [State.frames_setTop' g h.top, hmid]; rfl
  obtain ⟨o, s2, hsteps, -, hend, hq0⟩ := Steps.callFree hM p X.admits X.cas X.clock (acts := []) hfr happ (hblind _ _ _ _ hP) trivial
  have hq1 : Qx a (T.calling g mk a) o s2 := hq0
  rw [State.frames_setTop' g h.top] at hend
  obtain ⟨q, L, rfl, hFL, hW2, e2, q2, q3, q4, q5, q6⟩ := hQ _ _ _ _ hq1
  have hf2 : s2.frames = .throwing q :: .java g :: T.frames.tail := hend
  have hW3 : T.WarmedH s2.vm := hW2
  have e3 : s2 = ({ (T.calling g mk a).setFrames s2.frames with heap := s2.heap, slotsUsed := s2.slotsUsed } : State).setVm s2.vm := by
    have : s2 = ({ s2 with vm := (T.calling g mk a).vm } : State).setVm s2.vm := rfl
    rw [e2] at this
    exact this
  obtain ⟨g0, hg0⟩ := Option.isSome_iff_exists.mp h.top
  obtain ⟨r, hr⟩ := State.topJava?_eq_some.mp hg0
  have hs2 : s2 = ((({ T with heap := s2.heap, slotsUsed := s2.slotsUsed } : State).setVm s2.vm).setTop g).pushFrame (.throwing q) := by
    have hr2 : (({ T with heap := s2.heap, slotsUsed := s2.slotsUsed } : State).setVm s2.vm).frames = .java g0 :: r := hr
    refine e3.trans ?_
    rw [hf2, State.calling_eq h.top, State.setFrames_setFrames, State.pushFrame, State.frames_setTop _ hr2, State.setTop_of_frames _ hr2, State.setFrames_setFrames, hr]
    rfl
  have hsame : T.sameButNew ({ T with heap := s2.heap, slotsUsed := s2.slotsUsed } : State) L mc ms := by
    refine ⟨?_, q2, q3, q4, q5, q6⟩
    obtain ⟨t, ht, -⟩ := State.frames_cons hr
    show ({ T with heap := s2.heap, slotsUsed := s2.slotsUsed } : State) = { T.setFrames T.frames with heap := s2.heap, slotsUsed := s2.slotsUsed }
    rw [State.setFrames_self ht]
  subst hg
  refine ⟨q, s2, ({ T with heap := s2.heap, slotsUsed := s2.slotsUsed } : State).setVm s2.vm, L,
    ⟨X.admits, X.cas, X.clock, X.frames, X.room, X.hears, X.method, X.code, (X.here.setHeapUsed s2.heap s2.slotsUsed).setVm hW3.alike, X.tail, State.WarmedH.trans X.warmed hW3, X.limits, X.bytes, X.same.trans (hsame.setVm s.vm)⟩, hFL, rfl, rfl, hq1, ?_⟩
  rw [← hs2]
  exact hsteps
/-- the end of a method that throws an Ex: its world stays -/
def xQ (E : Ev) (A : Nat → Prop) (ws : va_W) (Ex : String) : Array Value → State → Outcome → State → Prop := fun _ st o t =>
  ∃ (q : Addr) (ce : Cell) (L : List Loc), o = .threw q ∧ (∀ z ∈ L, A z.base) ∧ st.WarmedH t.vm ∧ st.sameButNew ({ t with vm := st.vm } : State) L 1 6 ∧ t.heap[q]? = some ce ∧ ce.vm = .none ∧ st.vm.findClass Ex = some ce.cls ∧ va_P E.1 classes ws t.heap ∧ va_D A ws ∧ va_F A st t
/-- a contract of a call that throws an Ex and changes nothing of its world -/
def KtX (l : Launch) (y : MethodName) (bytes : ByteArray) (maxL : Nat) (ret : Option FieldType) (h : Nat) (E : Ev) (A : Nat → Prop) (avs : List Value) (ws : va_W) (Ex : String) : Prop :=
  MetFree l y (headSpec (Cond.code y bytes maxL ret :: TT) (ar_rm h 1 6)) (va_Pc avs (ar_B E A ws)) (fun _ _ _ _ _ => True) (xQ E A ws Ex)
/-- the exception q is under way in this frame -/
def Wx (p : Program) (l : Launch) (e : Env) (R : Room) (s : State) (m : MethodId) (args : Array Value) (below : List Frame) (meth : Method) (c : Code) (H : Heap) (locs : List Loc) (cells slots : Nat) (Q : State → Prop) (g : JFrame) (q : Addr) : Prop :=
  ∀ T : State, T.heap = H → Stand p l e R s m args below meth c T locs cells slots → ∃ t, Steps p.tables e below ((T.setTop g).pushFrame (.throwing q)) t ∧ Q t
/-- what a body owes that throws -/
def XQ (below : List Frame) (Qx : Array Value → State → Outcome → State → Prop) (a : Array Value) (s : State) : State → Prop := fun t => ∃ o, t.status = .running ∧ Ended t below o ∧ Qx a s o t
section Thr
variable {p : Program} {l : Launch} {e : Env} {R : Room} {s : State} {m : MethodId} {args : Array Value} {below : List Frame} {meth : Method} {c : Code} {H : Heap} {locs : List Loc} {cells slots : Nat} {E : Ev} {A : Nat → Prop} {cc : ByteArray} {pc nL : Nat} {ls : Array Slot} {ws wc wr : va_W} {st0 rest As : List Value} {Q : State → Prop}
/-- invokevirtual of a method that throws -/
theorem ar_thrV {y : MethodName} {bytes : ByteArray} {maxL : Nat} {ret : Option FieldType} {h n index ci q0 b : Nat} {own Ex : String} {fs : List Value} {cq : vw_C}
    (hx : p.tables.exec = Jvm.exec) (hb : c.code = cc) (hml : c.maxLocals = nL) (hown : s.vm.findClass own = some m.cls) (hts : ∀ w ∈ TT, w.before args s = true)
    (hP : va_P E.1 classes ws H) (hD : va_D A ws) (hS : va_S A s.heap H locs) (hA : ∀ q, s.heap.size ≤ q → A q) (hK : va_K E.1 classes (Ty E) s) (hZ : ZT E A s s.heap)
    (hM : KtX l y bytes maxL ret h E (va_A wc H.size) (.ref b :: As) wc Ex)
    (hl : Cond.methodLink own index y ∈ TT) (hin : Cond.instanceMethod y ∈ TT) (hse : Cond.selects y.cls y y ∈ TT) (hini : Cond.initialized y.cls ∈ TT) (hc : Cond.code y bytes maxL ret ∈ TT)
    (hd : y.cls ≠ "java/lang/invoke/MethodHandle" ∧ y.cls ≠ "java/lang/invoke/VarHandle" ∧ (parseMethodDescriptor y.desc).map (fun d => d.parameters.length) = some n) (hR : h + 1 ≤ R.frames ∧ 8 + (maxL + 11) + 35 * h ≤ R.locals)
    (isC isR : List Nat) (hC : isC.map (fun i => ws[i]?) = wc.map some) (hC2 : isC.filterMap (fun i => ws[i]?) = wc) (hnC : va_nd isC = true) (hR2 : isR.map (fun i => ws[i]?) = wr.map some) (hnR : va_nd isR = true) (hdis : ∀ i ∈ isR, i ∉ isC)
    (he : wc[q0]? = some (b, .inr (ci, fs))) (hcl : classes[ci]? = some cq) (hcq : cq.1 = y.cls)
    (hn : As.length = n) (hsize : ls.size = nL) (hst : st0 = As.reverse ++ .ref b :: rest) (hrest : (rest.map fun v => v.category).sum ≤ 8) (hdg : decode cc pc = .ok (.invokevirtual index, 3)) (hf : cells + 1 ≤ R.cells ∧ slots + 6 ≤ R.slots)
    (kx : ∀ (q : Addr) (ce : Cell) (H1 : Heap) (locs1 : List Loc), va_P E.1 classes (wr ++ wc) H1 → va_D A (wr ++ wc) → va_S A s.heap H1 locs1 → H1[q]? = some ce → ce.vm = .none → s.vm.findClass Ex = some ce.cls →
      Wx p l e R s m args below meth c H1 locs1 (cells + 1) (slots + 6) Q (F0 m pc ls rest) q) :
    W p l e R s m args below meth c H locs cells slots Q (F0 m pc ls st0) := by
  intro T hT X
  have hF := va_free (wc := wc) hD hS hA isC hC
  obtain ⟨cellB, hcB, hoB, hclB⟩ := va_recv hK (hP.sub isC hC2) hcl he
  rw [hcq] at hclB
  obtain ⟨mk, methM, hnamed, hmethM, hstM, habM⟩ := Cond.instanceMethod_spec (hts _ hin)
  obtain ⟨methM2, cM, hmethM2, -, -, -, -, -, -, hsigM⟩ := Cond.code_spec hnamed (hts _ hc)
  cases hmethM.symm.trans hmethM2
  obtain ⟨c2, r2, m2, q1, q2, q3, q4, kP, hkP, hkPi⟩ := Cond.selects_spec (hts _ hse)
  cases hclB.symm.trans q1
  cases (State.methodFound?_of_named hnamed ⟨hd.1, hd.2.1⟩).symm.trans q2
  cases hnamed.symm.trans q3
  have hselP : selectMethod e.platform s.vm cellB.cls mk = .method mk := by rw [Launch.admits_selectMethod X.admits]; exact q4
  have hlen : As.length = methM.sig.parameters.length := by
    have h2 := hd.2.2
    rw [hsigM] at h2
    rw [hn]
    exact (Option.some.inj h2).symm
  obtain ⟨vm1, X1, hstep1⟩ := X.invokevirtual hx hown (hts _ hl) hnamed hmethM hstM hkP hkPi ⟨hd.1, hd.2.1⟩ (a := b) (cell := cellB) (by rw [hT]; exact hcB)
    (fun z h => by rw [h] at hoB; cases hoB) hselP hmethM habM hkP hkPi (g := F0 m pc ls st0) rfl (argsL := As) (rest := rest) hlen hst (by rw [hb]; exact hdg)
  have hgood := ar_good hc
  obtain ⟨q, t, T2, L, X2, hFL, hh, hv, hQx, hsteps⟩ := ar_callX (FL := fun L => ∀ z ∈ L, va_A wc H.size z.base) (mc := 1) (ms := 6) (W9 := 8) (bytes := bytes) (maxL := maxL) (ret := ret) X1 hM
    (fun a st o t hq => by obtain ⟨q, ce, L, e1, e2, e3, e4, -⟩ := hq; exact ⟨q, L, e1, e2, e3, e4⟩)
    (pay_in hts hgood) List.mem_cons_self (fun a' U hW => word_at hW (Or.inl (by first | rfl | simp [Cond.onTables, Cond.keeps, Cond.steady])) (hts _ hini))
    ar_blind rfl rfl hR.1 hR.2 (g := { F0 m pc ls st0 with stack := rest }) rfl (hsize.trans hml.symm) (lv_room hrest) (by rw [hb]; exact hdg) (X1.named hnamed) (a := (Value.ref b :: As).toArray)
    ⟨rfl, ar_pre hP hD hS hA hK hZ isC hC hC2 hnC hT X1.warmed⟩ hf.1 hf.2
  obtain ⟨q', ce, L', eq, -, -, -, h5, h6, h7, h8, h9, h10⟩ := hQx
  cases eq
  have hz : H.size ≤ T2.heap.size := by rw [hh]; have := h10.1; rw [← hT]; exact this
  have hk : ∀ i : Nat, i < H.size → ¬ va_A wc H.size i → T2.heap[i]? = H[i]? := fun i h1 h2 => by
    have := h10.2 i (by rw [← hT] at h1; exact h1) h2
    rw [hh, ← hT]
    exact this
  rw [← hh] at h8 h5
  obtain ⟨hPj, hDj⟩ := va_join hP hD isC isR hC hR2 hnR hdis hk hF h8 h9
  obtain ⟨t2, a1, b1⟩ := kx q ce T2.heap (locs ++ L) hPj hDj
    ⟨Nat.le_trans hS.1 hz, fun i h1 h2 => by rw [hk i (Nat.lt_of_lt_of_le h1 hS.1) (fun z => h2 (hF i z))]; exact hS.2.1 i h1 h2, fun z hz => by
      rcases List.mem_append.mp hz with h | h
      · exact hS.2.2 z h
      · exact hF _ (hFL z h)⟩ h5 h6 (by rw [← X1.warmed.alike.findClass Ex none]; exact h7) T2 rfl X2
  exact ⟨t2, hstep1 _ fun acts => by rw [doInvoke_state]; exact hsteps.trans a1, b1⟩
/-- not caught here: it goes on to the caller -/
theorem ar_outX {q : Addr} {ce : Cell} {Ex : String} (hex : c.exceptionTable.isEmpty = true) (hlocks : meth.locks = false) (hP : va_P E.1 classes ws H) (hD : va_D A ws) (hS : va_S A s.heap H locs) (hce : H[q]? = some ce) (hv : ce.vm = .none) (hcl : s.vm.findClass Ex = some ce.cls) (h1 : cells ≤ 1) (h2 : slots ≤ 6) :
    Wx p l e R s m args below meth c H locs cells slots (XQ below (xQ E A ws Ex) args s) (F0 m pc ls rest) q := by
  intro T hT X
  have hout : ∀ x ∈ c.exceptionTable.toList, covers x pc = false := fun x hx => by
    have h0 : c.exceptionTable.toList = [] := by simpa using hex
    rw [h0] at hx
    cases hx
  obtain ⟨st1, hrun, hend, hW, hsm⟩ := X.leaveThrown q (g := F0 m pc ls rest) rfl rfl rfl hout hlocks
  have hh : (T.setFrames (.throwing q :: below)).heap = H := hT
  exact ⟨_, st1, .threw q, hrun, hend, q, ce, locs, rfl, hS.2.2, hW, hsm.mono h1 h2, by rw [hh]; exact hce, hv, hcl, by rw [hh]; exact hP, hD, hS.F hh⟩
end Thr
theorem KtX.of {l : Launch} {y : MethodName} {bytes : ByteArray} {maxL : Nat} {ret : Option FieldType} {h : Nat} {E : Ev} {A : Nat → Prop} {avs : List Value} {ws : va_W} {Ex : String}
    (hy : plainName y.cls = true) (hn : (lg_sl avs).length ≤ maxL)
    (body : ∀ (p : Program) (e : Env) (s : State) (m : MethodId) (below : List Frame) (meth : Method) (c : Code) (ls : Array Slot), p.tables.exec = Jvm.exec → c.code = bytes → c.maxLocals = maxL → s.vm.findClass y.cls = some m.cls → (∀ w ∈ TT, w.before avs.toArray s = true) →
      meth.sig.returnType = ret → meth.locks = false → c.exceptionTable.isEmpty = true → meth.name = y.name → (∀ q, s.heap.size ≤ q → A q) → ZT E A s s.heap → va_P E.1 classes ws s.heap → va_K E.1 classes (Ty E) s → va_D A ws → lv_has ls maxL (lv_args 0 avs) →
      W p l e (ar_rm h 1 6) s m avs.toArray below meth c s.heap [] 0 0 (XQ below (xQ E A ws Ex) avs.toArray s) (F0 m 0 ls [])) :
    KtX l y bytes maxL ret h E A avs ws Ex := by
  refine MetFree.of_bodyS (code := bytes) (maxLocals := maxL) (ret := ret) hy ?_ ?_
  · intro args s m h hn
    obtain ⟨meth, c, h1, h2, h3, h4, h5, h6, -, -⟩ := Cond.code_spec hn (atoms_spec (ws := Cond.code y bytes maxL ret :: TT) h _ List.mem_cons_self)
    exact ⟨meth, c, h1, h2, h3, h4, h5, h6⟩
  · intro p e s m args below meth c s₁ B hml hv _
    obtain ⟨rfl, hA, hZ, hP, hK, hD⟩ := hv
    have hw := atoms_spec (ws := Cond.code y bytes maxL ret :: TT) B.pre
    have hl := lv_entry avs (n := maxL) hn
    have hh0 : s₁.heap = s.heap := by rw [B.state]; rfl
    have K := body p e s m below meth c _ B.exec B.bytes hml (findClass_of_methodNamed B.named) (fun w h => hw w (List.mem_cons_of_mem _ h)) B.returns B.notSynchronized (B.noHandlers (hw _ List.mem_cons_self)) (name_of_methodNamed B.named B.method).1 hA hZ hP hK hD hl
    rw [← lg_entry_eq] at K
    obtain ⟨t, a1, o, b1, b2, b3⟩ := K s₁ hh0 (Stand.of_body B)
    exact ⟨t, o, a1, b1, b2, b3⟩
