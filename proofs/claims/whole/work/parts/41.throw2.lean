/-! 'throw new E("text")' -/
theorem ar_throw {p : Program} {l : Launch} {e : Env} {R : Room} {s : State} {m : MethodId} {args : Array Value} {below : List Frame} {meth : Method} {c : Code} {H : Heap} {locs : List Loc} {cells slots : Nat} {E : Ev} {A : Nat → Prop} {cc : ByteArray} {pc : Nat} {ls : Array Slot} {ws : va_W} {rest : List Value}
    {own cls text : String} {names : List String} {ik is ic sa : Nat}
    (hx : p.tables.exec = Jvm.exec) (hb : c.code = cc) (hlt : l.stackTraces = false) (hown : s.vm.findClass own = some m.cls) (hcls : Bundle.fit cls = true) (hnames : ∀ n ∈ names, Bundle.fit n = true)
    (hk : (Cond.classLink own ik cls).before args s = true) (hini : (Cond.initialized cls).before args s = true) (hstr : vk_R own is text sa s)
    (hat : ∀ s2 : State, s2.vm = s.vm → s2.heap = H → ∀ w ∈ Bundle.ownAtoms own ic cls names, w.before args s2 = true)
    (hP : va_P E.1 classes ws H) (hD : va_D A ws) (hS : va_S A s.heap H locs) (hsize : ls.size = c.maxLocals)
    (d0 : decode cc pc = .ok (.new ik, 3)) (d3 : decode cc (pc + 3) = .ok (.dup, 1)) (d4 : decode cc (pc + 4) = .ok (.ldc is, 2)) (d6 : decode cc (pc + 6) = .ok (.invokespecial ic, 3)) (d9 : decode cc (pc + 9) = .ok (.athrow, 1))
    (hex : c.exceptionTable.isEmpty = true) (hRf : names.length + 3 < R.frames) (hRl : (rest.map fun v => v.category).sum + (13 * (names.length + 1) + 43) ≤ R.locals) (hc : cells + 1 ≤ R.cells) (hs : slots + 6 ≤ R.slots) (hc1 : cells = 0) (hs1 : slots = 0) (hlocks : meth.locks = false) :
    W p l e R s m args below meth c H locs cells slots (XQ below (xQ E A ws cls) args s) (F0 m pc ls rest) := by
  intro T hT X
  have htr : e.platform.stackTraces = false := (show e.platform.stackTraces = l.stackTraces by rw [X.admits.platform]).trans hlt
  have Y := ar_rebase X (R2 := { frames := R.frames, locals := R.locals, cells := 1, slots := 6 }) (Nat.le_refl _) (Nat.le_refl _) hc hs
  obtain ⟨s2, hs2⟩ : ∃ z, z = (T.setVm s.vm).setFrames (.invoking m args :: below) := ⟨_, rfl⟩
  rw [← hs2] at Y
  have hvm : s2.vm = s.vm := by rw [hs2]; rfl
  have hhp : s2.heap = H := by rw [hs2]; exact hT
  have h := hat s2 hvm hhp
  have hown2 : s2.vm.findClass own = some m.cls := by rw [hvm]; exact hown
  have hk2 : (Cond.classLink own ik cls).before args s2 = true := va_tabs rfl hvm.symm hk
  have hini2 : (Cond.initialized cls).before args s2 = true := va_tabs rfl hvm.symm hini
  have hW0 : s.WarmedH s2.vm := by rw [hvm]; exact State.WarmedH.refl s
  have hstr2 : vk_R own is text sa s2 := vk_R.warm hW0 hstr
  have hins : (Cond.instantiable cls 6).before args s2 = true := h _ (by simp [Bundle.ownAtoms])
  obtain ⟨vm1, cX, kX, hfX, hkX, -, -, X1, st1⟩ := Y.newCold hx (own := own) (C := cls) (index := ik) (n := 6) hown2 hk2 hins hini2
    (g := F0 m pc ls rest) rfl (by rw [hb]; exact d0) (Nat.le_refl _) (Nat.le_refl _)
  generalize hT1 : (T.setVm vm1).pushCell { cls := cX, slots := kX.instanceTypes.map defaultValue, vm := .none } = T1 at X1 st1
  have hcellA : T1.heap[T.heap.size]? = some (freshCell cX kX) := by rw [← hT1]; exact State.heap_pushCell_size _ _
  have hcat : (Value.ref T.heap.size).category = 1 := rfl
  have d3' : decode c.code (pc + 3) = .ok (.dup, 1) := by rw [hb]; exact d3
  have hout : ∀ x ∈ c.exceptionTable.toList, covers x (pc + 9) = false := fun x hx => by
    have h0 : c.exceptionTable.toList = [] := by simpa using hex
    rw [h0] at hx
    cases hx
  obtain ⟨U, hsteps, hrun, hend, hW, hsame, ce, hce, hO⟩ := X1.ctorThrowS hx htr (own := own) (cls := cls) (names := names) (ic := ic) hown2 hcls hnames h (fun x hx => nomatch hx) hfX hkX hcellA (by rw [hhp, hT]; exact Nat.le_refl _) (msg := .ref sa) rfl
    (g := { method := m, pc := pc + 6, locals := ls, stack := .ref sa :: .ref T.heap.size :: .ref T.heap.size :: rest, locked := none }) rfl hsize rfl rfl (rest := rest) rfl
    (by rw [hb]; exact d6) (by rw [hb]; exact d9) hout hRf (by simp only [List.map_cons, List.sum_cons, hcat]; show 2 * 0 + _ + _ ≤ R.locals; omega) hlocks
  have hWs : s.WarmedH U.vm := State.WarmedH.trans hW0 hW
  have hkeep : H.size ≤ U.heap.size ∧ ∀ i : Nat, i < H.size → U.heap[i]? = H[i]? := by
    obtain ⟨-, g2, -, -, -, g6⟩ := hsame
    rw [hhp] at g2 g6
    refine ⟨g2, fun i hi => ?_⟩
    obtain ⟨c9, e1, e2, e3, e4⟩ := g6 i _ (Array.getElem?_eq_getElem hi)
    have hsl : c9.slots = (H[i]).slots := Array.ext_getElem? fun j => e4 j (fun hm => nomatch hm)
    have h9 : c9 = H[i] := by rw [hsl] at e2; exact e2
    have e5 : U.heap[i]? = some c9 := e1
    rw [e5, h9, Array.getElem?_eq_getElem hi]
  have hall : s.sameButNew ({ U with vm := s.vm } : State) locs 1 6 := by
    subst hs2
    obtain ⟨g1, g2⟩ := hsame
    rw [State.setFrames_setFrames] at g1
    have h2 : (T.setVm s.vm).sameButNew ({ U with vm := s.vm } : State) [] (0 + 1) (0 + 6) := ⟨g1, g2⟩
    have h3 := X.same.trans h2
    rw [List.append_nil] at h3
    exact h3.mono (by omega) (by omega)
  have hcl : s.vm.findClass cls = some ce.cls := by
    have h9 := hO.cls
    rw [hvm] at h9
    exact h9
  have hPU : va_P E.1 classes ws U.heap := hP.kept (fun k q hq => hkeep.2 q.1 (hP k q hq).lt)
  refine ⟨U, ?_, .threw T.heap.size, hrun, hend, T.heap.size, ce, locs, rfl, hS.2.2, hWs, hall, hce, hO.vm, hcl, hPU, hD, ⟨Nat.le_trans hS.1 hkeep.1, fun i h1 h2 => ?_⟩⟩
  · refine st1 _ ?_
    show Steps p.tables e below (T1.setTop { method := m, pc := pc + 3, locals := ls, stack := .ref T.heap.size :: rest, locked := none }) _
    jvm_step X1.here [X1.here.top, hx, d3', Value.category]
    exact X1.ldcString hx hown2 (text := text) (a := sa) hstr2.1 hstr2.2 (g := F0 m (pc + 4) ls (.ref T.heap.size :: .ref T.heap.size :: rest)) rfl (by rw [hb]; exact d4) _ hsteps
  · rw [hkeep.2 i (Nat.lt_of_lt_of_le h1 hS.1)]; exact hS.2.1 i h1 h2
