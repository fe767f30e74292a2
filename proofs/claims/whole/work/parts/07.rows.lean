/-! rows of this claim: what every contract takes as given (ZT), the form of a contract (Kt), entry, end, calls -/
abbrev Ev : Type := va_G × (Nat → ClassId) × (Nat → Nat)
abbrev Ty (E : Ev) : List (ClassId × FieldType) := [(E.2.1 0, .int), (E.2.1 1, .boolean), (E.2.1 2, .long)]
def L_Q : List Int32 := [22017, 13313, 6145, 2753, 1313, 545, 22017, 21505, 18433, 14337, 12289, 9217, 7169, 5633, 22017, 21505, 20737, 18433, 14337, 13313, 12289, 10241, 9217, 8705, 7169, 6145, 5633, 5121, 4609, 4353, 2753, 2497, 2209, 1313, 1089, 673, 545, 321, 273, 133, 73, 37, 21, 9, 5, 1, 22017]
def L_up : List Int32 := [1, 2, 3, 4, 5, 38, 7, 8, 9, 10, 11, 12, 13, 29, 15, 16, 17, 18, 19, 20, 21, 22, 23, 24, 25, 26, 27, 28, 29, 30, 31, 32, 33, 34, 35, 36, 37, 38, 39, 40, 41, 42, 43, 44, 45, 45, 46]
def L_dn : List Int32 := [1, 6, 9, 12, 29, 33, 6, 14, 14, 14, 17, 18, 20, 21, 14, 14, 15, 16, 17, 18, 19, 19, 20, 21, 22, 23, 24, 25, 26, 27, 28, 29, 30, 31, 32, 33, 34, 35, 36, 37, 38, 39, 40, 41, 42, 43, 46]
def zC : Nat → String | 0 => "ArithmeticRows$Table" | 1 => "ArithmeticRows$Table" | 2 => "ArithmeticRows$Table" | _ => "ArithmeticRows"
def zN : Nat → String | 0 => "Q" | 1 => "BEHIND_LIKELY" | 2 => "BEHIND_OTHER" | 3 => "PREFIX" | 4 => "PREFIX_LENGTH" | 5 => "LEAST_SIZE" | _ => "SIZE_LENGTH"
def zL : Nat → List Int32 | 0 => L_Q | 1 => L_up | 2 => L_dn | 3 => [0, 2, 6, 14, 30, 31] | 4 => [1, 2, 3, 4, 5, 5] | 5 => [0, 4, 20, 84, 340, 4436] | _ => [2, 4, 6, 8, 12, 32]
def zF (k : Nat) : Nat → Int32 := fun j => (zL k).getD j 0
abbrev zW1 : Cond := .fieldLinkNest "ArithmeticRows" 85 "ArithmeticRows$Side" "own" "[I" "ArithmeticRows"
abbrev zW2 : Cond := .fieldLinkNest "ArithmeticRows" 204 "ArithmeticRows$Side" "sets" "[I" "ArithmeticRows"
abbrev zW3 : Cond := .methodLinkNest "ArithmeticRows$Table" 13 y_X_at "ArithmeticRows"
/-- the messages of the class's throws: entry of the pool, text -/
def zI : Nat → Nat | 0 => 196 | 1 => 200 | 2 => 80 | 3 => 104 | 4 => 116 | 5 => 119 | 6 => 202 | 7 => 131 | 8 => 198 | _ => 166
def zM : Nat → String | 0 => "there is no such context" | 1 => "it is decoding" | 2 => "a bit is 0 or 1" | 3 => "there is no such byte" | 4 => "bytes come behind finish and before reading" | 5 => "a byte is 0 .. 255" | 6 => "it is encoding" | 7 => "a side is 0 or 1" | 8 => "there is no such set" | _ => "no more than 6 are kept"
def zX : Nat → String | 0 => "java/lang/IndexOutOfBoundsException" | 1 => "java/lang/IllegalStateException" | _ => "java/lang/IllegalArgumentException"
def zD : Nat → String | 0 => "java/lang/RuntimeException" | 1 => "java/lang/Exception" | _ => "java/lang/Throwable"
/-- what a throw needs beside the tables' good words -/
def ZX (E : Ev) (A : Nat → Prop) (U : State) (H : Heap) : Prop :=
  zY "java/lang/Throwable" "UNASSIGNED_STACK" "[Ljava/lang/StackTraceElement;" A U H ∧ zY "java/lang/Throwable" "SUPPRESSED_SENTINEL" "Ljava/util/List;" A U H ∧ (∀ k, k < 3 → va_Nw (.castable (zX k) (zX k)) U) ∧ (∀ k, k < 3 → va_Nw (.declares (Bundle.initS (zD k))) U) ∧ (∀ k, k < 10 → vk_R "ArithmeticRows" (zI k) (zM k) (E.2.2 (10 + k)) U) ∧ ∀ i j, i < 3 → j < 3 → i ≠ j → va_Nc (zX i) (zX j) U
theorem ZX.at {E : Ev} {A B : Nat → Prop} {s U : State} {H : Heap} {locs : List Loc} (h : ZX E A s s.heap) (hS : va_S A s.heap H locs) (hW : s.WarmedH U.vm) (hB : ∀ q, B q → A q) : ZX E B U H :=
  ⟨((h.1.kept hS.2.1).moved hW.alike).narrow hB, ((h.2.1.kept hS.2.1).moved hW.alike).narrow hB, fun k hk => va_Nw.warmC hW (h.2.2.1 k hk), fun k hk => va_Nw.warmD hW (h.2.2.2.1 k hk), fun k hk => vk_R.warm hW (h.2.2.2.2.1 k hk), fun i j hi hj hij => va_Nc.moved hW.alike (h.2.2.2.2.2 i j hi hj hij)⟩
theorem ZX.same {E : Ev} {A : Nat → Prop} {U V : State} {H : Heap} (h : ZX E A U H) (hv : U.vm = V.vm) : ZX E A V H := by
  have ha : U.vm.Alike V.vm := by rw [hv]; exact Vm.Alike.refl _
  have hW : U.WarmedH V.vm := by rw [← hv]; exact State.WarmedH.refl U
  exact ⟨h.1.moved ha, h.2.1.moved ha, fun k hk => va_Nw.warmC hW (h.2.2.1 k hk), fun k hk => va_Nw.warmD hW (h.2.2.2.1 k hk), fun k hk => vk_R.warm hW (h.2.2.2.2.1 k hk), fun i j hi hj hij => va_Nc.moved ha (h.2.2.2.2.2 i j hi hj hij)⟩
/-- what the start gives and no method changes: the class's constant arrays, the links between nest mates, what throws need -/
def ZT (E : Ev) (A : Nat → Prop) (U : State) (H : Heap) : Prop :=
  (∀ k : Nat, k < 7 → va_Z (zC k) (zN k) "[I" (.ref (E.2.2 k)) A U H ∧ va_T .int (E.2.2 k) (zL k).length (fun j => .int (zF k j)) A U H) ∧ va_Nw zW1 U ∧ va_Nw zW2 U ∧ va_Nw zW3 U ∧ ZX E A U H
theorem ZT.at {E : Ev} {A B : Nat → Prop} {s U : State} {H : Heap} {locs : List Loc} (h : ZT E A s s.heap) (hS : va_S A s.heap H locs) (hU : U.heap = H) (hW : s.WarmedH U.vm) (hB : ∀ q, B q → A q) : ZT E B U U.heap := by
  rw [hU]
  exact ⟨fun k hk => ⟨va_Z.narrow (va_Z.moved hW.alike (va_Z.kept (h.1 k hk).1 hS.2.1)) hB, va_T.narrow (va_T.moved hW.alike (va_T.kept (h.1 k hk).2 hS.2.1)) hB⟩, va_Nw.warmF hW h.2.1, va_Nw.warmF hW h.2.2.1, va_Nw.warmM hW h.2.2.2.1, h.2.2.2.2.at hS hW hB⟩
theorem ZT.same {E : Ev} {A : Nat → Prop} {U V : State} {H : Heap} (h : ZT E A U H) (hv : U.vm = V.vm) : ZT E A V H := by
  have ha : U.vm.Alike V.vm := by rw [hv]; exact Vm.Alike.refl _
  exact ⟨fun k hk => ⟨va_Z.moved ha (h.1 k hk).1, va_T.moved ha (h.1 k hk).2⟩, va_Nw.same rfl hv h.2.1, va_Nw.same rfl hv h.2.2.1, va_Nw.same rfl hv h.2.2.2.1, h.2.2.2.2.same hv⟩
/-- the start of a contract: cells from the heap's size on are free, the given, the world -/
def ar_B (E : Ev) (A : Nat → Prop) (ws : va_W) (U : State) : Prop :=
  (∀ q, U.heap.size ≤ q → A q) ∧ ZT E A U U.heap ∧ va_P E.1 classes ws U.heap ∧ va_K E.1 classes (Ty E) U ∧ va_D A ws
theorem ar_blind {E : Ev} {A : Nat → Prop} {ws : va_W} {avs : List Value} : FrameBlind (va_Pc avs (ar_B E A ws)) := fun a U g mk q =>
  ⟨q.1, q.2.1, q.2.2.1.same (V := U.calling g mk a) rfl, q.2.2.2.1, va_K.moved (u := U) (U := U.calling g mk a) (Vm.Alike.refl U.vm) q.2.2.2.2.1, q.2.2.2.2.2⟩
def ar_rm (h mc ms : Nat) : Room := { frames := h, cells := mc, slots := ms, locals := 35 * h }
/-- the world behind a method -/
abbrev ar_W {S : Type} (E : Ev) (A : Nat → Prop) (ws' : S → va_W) : S → State → Prop := fun u t => va_P E.1 classes (ws' u) t.heap ∧ va_K E.1 classes (Ty E) t ∧ va_D A (ws' u)
/-- a contract: from a world ws, with the arguments avs, within h frames -/
def Kt (l : Launch) (y : MethodName) (bytes : ByteArray) (maxL : Nat) (ret : Option FieldType) (h mc ms : Nat) (E : Ev) (A : Nat → Prop) (avs : List Value) (ws : va_W) (Qc : Array Value → State → Outcome → State → Prop) : Prop :=
  Met l y (Cond.code y bytes maxL ret :: TT) (ar_rm h mc ms) (va_Pc avs (ar_B E A ws)) Qc mc ms A
theorem Kt.of {l : Launch} {y : MethodName} {bytes : ByteArray} {maxL : Nat} {ret : Option FieldType} {h mc ms : Nat} {E : Ev} {A : Nat → Prop} {avs : List Value} {ws : va_W} {Qc : Array Value → State → Outcome → State → Prop}
    (hy : plainName y.cls = true) (hn : (lg_sl avs).length ≤ maxL)
    (body : ∀ (p : Program) (e : Env) (s : State) (m : MethodId) (below : List Frame) (meth : Method) (c : Code) (ls : Array Slot), p.tables.exec = Jvm.exec → c.code = bytes → c.maxLocals = maxL → s.vm.findClass y.cls = some m.cls → (∀ w ∈ TT, w.before avs.toArray s = true) →
      meth.sig.returnType = ret → meth.locks = false → c.exceptionTable.isEmpty = true → meth.name = y.name → (∀ q, s.heap.size ≤ q → A q) → ZT E A s s.heap → va_P E.1 classes ws s.heap → va_K E.1 classes (Ty E) s → va_D A ws → lv_has ls maxL (lv_args 0 avs) →
      W p l e (ar_rm h mc ms) s m avs.toArray below meth c s.heap [] 0 0 (MQ below Qc avs.toArray s mc ms A) (F0 m 0 ls [])) :
    Kt l y bytes maxL ret h mc ms E A avs ws Qc := by
  refine Met.ofW (cc := bytes) (maxL := maxL) (ret := ret) hy rfl ?_
  intro p e s m args below meth c s₁ B hml hv
  obtain ⟨rfl, hA, hZ, hP, hK, hD⟩ := hv
  have hw := atoms_spec (ws := Cond.code y bytes maxL ret :: TT) B.pre
  have hl := lv_entry avs (n := maxL) hn
  rw [lg_entry_eq]
  exact body p e s m below meth c _ B.exec B.bytes hml (findClass_of_methodNamed B.named) (fun w h => hw w (List.mem_cons_of_mem _ h)) B.returns B.notSynchronized (B.noHandlers (hw _ List.mem_cons_self)) (name_of_methodNamed B.named B.method).1 hA hZ hP hK hD hl
section Ends
variable {p : Program} {l : Launch} {e : Env} {R : Room} {s : State} {m : MethodId} {args : Array Value} {below : List Frame} {meth : Method} {c : Code} {H : Heap} {locs : List Loc} {cells slots : Nat} {E : Ev} {A : Nat → Prop} {cc : ByteArray} {pc : Nat} {ls : Array Slot} {S : Type} {ws' : S → va_W}
theorem ar_iret {post : Int32 → S → Prop} (hx : p.tables.exec = Jvm.exec) (hb : c.code = cc) (hr : meth.sig.returnType = some .int) (hlocks : meth.locks = false) (hK : va_K E.1 classes (Ty E) s) (hS : va_S A s.heap H locs) {r : Int32} (u : S) (hpost : post r u) (hP : va_P E.1 classes (ws' u) H) (hD : va_D A (ws' u)) (hdg : decode cc pc = .ok (.ireturn, 1)) :
    W p l e R s m args below meth c H locs cells slots (MQ below (va_Qi post (ar_W E A ws') A) args s cells slots A) (F0 m pc ls [.int r]) :=
  W.iret (v := r) hx hb hr (fun t ht hW => ⟨⟨r, u, rfl, hpost, by rw [ht]; exact hP, va_K.moved hW.alike hK, hD⟩, hS.F ht⟩) hS.2.2 hdg hlocks
theorem ar_zret {post : Int32 → S → Prop} (hx : p.tables.exec = Jvm.exec) (hb : c.code = cc) (hr : meth.sig.returnType = some .boolean) (hlocks : meth.locks = false) (hK : va_K E.1 classes (Ty E) s) (hS : va_S A s.heap H locs) {r : Int32} (u : S) (hpost : post r u) (hP : va_P E.1 classes (ws' u) H) (hD : va_D A (ws' u)) (hn : narrow .boolean (.int r) = .int r) (hdg : decode cc pc = .ok (.ireturn, 1)) :
    W p l e R s m args below meth c H locs cells slots (MQ below (va_Qi post (ar_W E A ws') A) args s cells slots A) (F0 m pc ls [.int r]) :=
  W.zret (v := r) (ty := .boolean) hx hb hr hn (fun t ht hW => ⟨⟨r, u, rfl, hpost, by rw [ht]; exact hP, va_K.moved hW.alike hK, hD⟩, hS.F ht⟩) hS.2.2 hdg hlocks
theorem ar_vret {post : S → Prop} (hx : p.tables.exec = Jvm.exec) (hb : c.code = cc) (hr : meth.sig.returnType = none) (hlocks : meth.locks = false) (hK : va_K E.1 classes (Ty E) s) (hS : va_S A s.heap H locs) (u : S) (hpost : post u) (hP : va_P E.1 classes (ws' u) H) (hD : va_D A (ws' u)) (hdg : decode cc pc = .ok (.return_, 1)) :
    W p l e R s m args below meth c H locs cells slots (MQ below (va_Qv post (ar_W E A ws') A) args s cells slots A) (F0 m pc ls []) :=
  W.vret hx hb hr (fun t ht hW => ⟨⟨u, rfl, hpost, by rw [ht]; exact hP, va_K.moved hW.alike hK, hD⟩, hS.F ht⟩) hS.2.2 hdg hlocks
end Ends
section Calls
variable {p : Program} {l : Launch} {e : Env} {R : Room} {s : State} {m : MethodId} {args : Array Value} {below : List Frame} {meth : Method} {c : Code} {H : Heap} {locs : List Loc} {cells slots mc ms : Nat} {E : Ev} {A : Nat → Prop} {cc : ByteArray} {pc nL : Nat} {ls : Array Slot} {S : Type} {ws' : S → va_W} {ws wc wr : va_W} {st0 rest As : List Value} {a : Array Value} {Q : State → Prop}
theorem ar_usei {post : Int32 → S → Prop} (hP : va_P E.1 classes ws H) (hD : va_D A ws) (hS : va_S A s.heap H locs) (hA : ∀ q, s.heap.size ≤ q → A q) (isC isR : List Nat) (hC : isC.map (fun i => ws[i]?) = wc.map some) (hR : isR.map (fun i => ws[i]?) = wr.map some) (hn : va_nd isR = true) (hdis : ∀ i ∈ isR, i ∉ isC)
    (hr : va_Run p l e R s m args below meth c H locs cells slots mc ms (F0 m pc ls st0) rest (va_Qi post (ar_W E (va_A wc H.size) ws') (va_A wc H.size) a) (va_A wc H.size))
    (kk : ∀ (r : Int32) (u : S) (H1 : Heap) (locs1 : List Loc), post r u → va_P E.1 classes (wr ++ ws' u) H1 → va_D A (wr ++ ws' u) → va_S A s.heap H1 locs1 → W p l e R s m args below meth c H1 locs1 (cells + mc) (slots + ms) Q (F0 m (pc + 3) ls (.int r :: rest))) :
    W p l e R s m args below meth c H locs cells slots Q (F0 m pc ls st0) := by
  have hF := va_free (wc := wc) hD hS hA isC hC
  refine va_calli hr hS (fun q _ h => hF q h) hF (fun r u t H1 locs1 ht hvm hw hB hz hk hS1 => ?_)
  obtain ⟨hP1, hK1, hD1⟩ := hB
  rw [ht] at hP1
  obtain ⟨h1, h2⟩ := va_join hP hD isC isR hC hR hn hdis hk hF hP1 hD1
  exact kk r u H1 locs1 hw h1 h2 hS1
theorem ar_usev {post : S → Prop} (hP : va_P E.1 classes ws H) (hD : va_D A ws) (hS : va_S A s.heap H locs) (hA : ∀ q, s.heap.size ≤ q → A q) (isC isR : List Nat) (hC : isC.map (fun i => ws[i]?) = wc.map some) (hR : isR.map (fun i => ws[i]?) = wr.map some) (hn : va_nd isR = true) (hdis : ∀ i ∈ isR, i ∉ isC)
    (hr : va_Run p l e R s m args below meth c H locs cells slots mc ms (F0 m pc ls st0) rest (va_Qv post (ar_W E (va_A wc H.size) ws') (va_A wc H.size) a) (va_A wc H.size))
    (kk : ∀ (u : S) (H1 : Heap) (locs1 : List Loc), post u → va_P E.1 classes (wr ++ ws' u) H1 → va_D A (wr ++ ws' u) → va_S A s.heap H1 locs1 → W p l e R s m args below meth c H1 locs1 (cells + mc) (slots + ms) Q (F0 m (pc + 3) ls rest)) :
    W p l e R s m args below meth c H locs cells slots Q (F0 m pc ls st0) := by
  have hF := va_free (wc := wc) hD hS hA isC hC
  refine va_callv hr hS (fun q _ h => hF q h) hF (fun u t H1 locs1 ht hvm hw hB hz hk hS1 => ?_)
  obtain ⟨hP1, hK1, hD1⟩ := hB
  rw [ht] at hP1
  obtain ⟨h1, h2⟩ := va_join hP hD isC isR hC hR hn hdis hk hF hP1 hD1
  exact kk u H1 locs1 hw h1 h2 hS1
theorem ar_good {y : MethodName} {bytes : ByteArray} {maxL : Nat} {ret : Option FieldType} (hc : Cond.code y bytes maxL ret ∈ TT) : GoodIn TT (Cond.code y bytes maxL ret :: TT) := fun w hw => by
  have h : w ∈ TT := (List.mem_cons.mp hw).elim (fun e => by rw [e]; exact hc) id
  exact ⟨h, good_of_word (TT_good h)⟩
theorem ar_pre {U : State} (hP : va_P E.1 classes ws H) (hD : va_D A ws) (hS : va_S A s.heap H locs) (hA : ∀ q, s.heap.size ≤ q → A q) (hK : va_K E.1 classes (Ty E) s) (hZ : ZT E A s s.heap) (isC : List Nat) (hC : isC.map (fun i => ws[i]?) = wc.map some) (hC2 : isC.filterMap (fun i => ws[i]?) = wc) (hnC : va_nd isC = true) (hU : U.heap = H) (hW : s.WarmedH U.vm) : ar_B E (va_A wc H.size) wc U :=
  ⟨fun q h => Or.inr (by rw [← hU]; exact h), hZ.at hS hU hW (va_free (wc := wc) hD hS hA isC hC), by rw [hU]; exact hP.sub isC hC2, va_K.moved hW.alike hK, (hD.sub isC hnC hC).self⟩
/-- invokevirtual -/
theorem ar_runV {y : MethodName} {bytes : ByteArray} {maxL : Nat} {ret : Option FieldType} {h n index ci q0 b : Nat} {own : String} {Qc : Array Value → State → Outcome → State → Prop} {fs : List Value} {cq : vw_C}
    (hx : p.tables.exec = Jvm.exec) (hb : c.code = cc) (hml : c.maxLocals = nL) (hown : s.vm.findClass own = some m.cls) (hts : ∀ w ∈ TT, w.before args s = true)
    (hP : va_P E.1 classes ws H) (hD : va_D A ws) (hS : va_S A s.heap H locs) (hA : ∀ q, s.heap.size ≤ q → A q) (hK : va_K E.1 classes (Ty E) s) (hZ : ZT E A s s.heap)
    (hM : Kt l y bytes maxL ret h mc ms E (va_A wc H.size) (.ref b :: As) wc Qc)
    (hl : Cond.methodLink own index y ∈ TT) (hin : Cond.instanceMethod y ∈ TT) (hse : Cond.selects y.cls y y ∈ TT) (hini : Cond.initialized y.cls ∈ TT) (hc : Cond.code y bytes maxL ret ∈ TT)
    (hd : y.cls ≠ "java/lang/invoke/MethodHandle" ∧ y.cls ≠ "java/lang/invoke/VarHandle" ∧ (parseMethodDescriptor y.desc).map (fun d => d.parameters.length) = some n) (hR : h + 1 ≤ R.frames ∧ 8 + (maxL + 11) + 35 * h ≤ R.locals)
    (isC : List Nat) (hC : isC.map (fun i => ws[i]?) = wc.map some) (hC2 : isC.filterMap (fun i => ws[i]?) = wc) (hnC : va_nd isC = true) (he : wc[q0]? = some (b, .inr (ci, fs))) (hcl : classes[ci]? = some cq) (hcq : cq.1 = y.cls)
    (hn : As.length = n) (hsize : ls.size = nL) (hst : st0 = As.reverse ++ .ref b :: rest) (hrest : (rest.map fun v => v.category).sum ≤ 8) (hdg : decode cc pc = .ok (.invokevirtual index, 3)) (hf : cells + mc ≤ R.cells ∧ slots + ms ≤ R.slots) :
    va_Run p l e R s m args below meth c H locs cells slots mc ms (F0 m pc ls st0) rest (Qc (Value.ref b :: As).toArray) (va_A wc H.size) :=
  va_runV (C := y.cls) ⟨hx, hb, hml, hown, hts⟩ hM ⟨callB_of n hts (ar_good hc) rfl rfl rfl (hts _ hini) (hts _ hl) hd hR, hts _ hin, hts _ hse⟩
    ⟨ar_blind, by rw [← hcq]; exact va_recv hK (hP.sub isC hC2) hcl he, fun U hU hW => ⟨rfl, ar_pre hP hD hS hA hK hZ isC hC hC2 hnC hU hW⟩⟩ rfl hn hsize hst (lv_room hrest) hdg hf
/-- invokestatic -/
theorem ar_runS {y : MethodName} {bytes : ByteArray} {maxL : Nat} {ret : Option FieldType} {h n index : Nat} {own : String} {Qc : Array Value → State → Outcome → State → Prop}
    (hx : p.tables.exec = Jvm.exec) (hb : c.code = cc) (hml : c.maxLocals = nL) (hown : s.vm.findClass own = some m.cls) (hts : ∀ w ∈ TT, w.before args s = true)
    (hP : va_P E.1 classes ws H) (hD : va_D A ws) (hS : va_S A s.heap H locs) (hA : ∀ q, s.heap.size ≤ q → A q) (hK : va_K E.1 classes (Ty E) s) (hZ : ZT E A s s.heap)
    (hM : Kt l y bytes maxL ret h mc ms E (va_A wc H.size) As wc Qc)
    (hl : Cond.methodLink own index y ∈ TT) (hstt : Cond.static y ∈ TT) (hini : Cond.initialized y.cls ∈ TT) (hc : Cond.code y bytes maxL ret ∈ TT)
    (hd : y.cls ≠ "java/lang/invoke/MethodHandle" ∧ y.cls ≠ "java/lang/invoke/VarHandle" ∧ (parseMethodDescriptor y.desc).map (fun d => d.parameters.length) = some n) (hR : h + 1 ≤ R.frames ∧ 8 + (maxL + 11) + 35 * h ≤ R.locals)
    (isC : List Nat) (hC : isC.map (fun i => ws[i]?) = wc.map some) (hC2 : isC.filterMap (fun i => ws[i]?) = wc) (hnC : va_nd isC = true)
    (hn : As.length = n) (hsize : ls.size = nL) (hst : st0 = As.reverse ++ rest) (hrest : (rest.map fun v => v.category).sum ≤ 8) (hdg : decode cc pc = .ok (.invokestatic index, 3)) (hf : cells + mc ≤ R.cells ∧ slots + ms ≤ R.slots) :
    va_Run p l e R s m args below meth c H locs cells slots mc ms (F0 m pc ls st0) rest (Qc As.toArray) (va_A wc H.size) :=
  va_runS ⟨hx, hb, hml, hown, hts⟩ hM ⟨callB_of n hts (ar_good hc) rfl rfl rfl (hts _ hini) (hts _ hl) hd hR, hts _ hstt⟩
    ⟨ar_blind, fun U hU hW => ⟨rfl, ar_pre hP hD hS hA hK hZ isC hC hC2 hnC hU hW⟩⟩ rfl hn hsize hst (lv_room hrest) hdg hf
/-- invokestatic of a nest mate's private method -/
theorem ar_runSN {y : MethodName} {bytes : ByteArray} {maxL : Nat} {ret : Option FieldType} {h n index : Nat} {own host : String} {Qc : Array Value → State → Outcome → State → Prop}
    (hx : p.tables.exec = Jvm.exec) (hb : c.code = cc) (hml : c.maxLocals = nL) (hown : s.vm.findClass own = some m.cls) (hts : ∀ w ∈ TT, w.before args s = true)
    (hP : va_P E.1 classes ws H) (hD : va_D A ws) (hS : va_S A s.heap H locs) (hA : ∀ q, s.heap.size ≤ q → A q) (hK : va_K E.1 classes (Ty E) s) (hZ : ZT E A s s.heap)
    (hM : Kt l y bytes maxL ret h mc ms E (va_A wc H.size) As wc Qc)
    (hl : va_Nw (Cond.methodLinkNest own index y host) s) (hstt : Cond.static y ∈ TT) (hini : Cond.initialized y.cls ∈ TT) (hc : Cond.code y bytes maxL ret ∈ TT)
    (hd : y.cls ≠ "java/lang/invoke/MethodHandle" ∧ y.cls ≠ "java/lang/invoke/VarHandle" ∧ (parseMethodDescriptor y.desc).map (fun d => d.parameters.length) = some n) (hR : h + 1 ≤ R.frames ∧ 8 + (maxL + 11) + 35 * h ≤ R.locals)
    (isC : List Nat) (hC : isC.map (fun i => ws[i]?) = wc.map some) (hC2 : isC.filterMap (fun i => ws[i]?) = wc) (hnC : va_nd isC = true)
    (hn : As.length = n) (hsize : ls.size = nL) (hst : st0 = As.reverse ++ rest) (hrest : (rest.map fun v => v.category).sum ≤ 8) (hdg : decode cc pc = .ok (.invokestatic index, 3)) (hf : cells + mc ≤ R.cells ∧ slots + ms ≤ R.slots) :
    va_Run p l e R s m args below meth c H locs cells slots mc ms (F0 m pc ls st0) rest (Qc As.toArray) (va_A wc H.size) :=
  va_runSN ⟨hx, hb, hml, hown, hts⟩ hM ⟨va_cnB n hts (ar_good hc) rfl rfl rfl hl (hts _ hini) hd hR, hts _ hstt, trivial⟩
    ⟨ar_blind, fun U hU hW => ⟨rfl, ar_pre hP hD hS hA hK hZ isC hC hC2 hnC hU hW⟩⟩ rfl hn hsize hst (lv_room hrest) hdg hf
/-- invokespecial of a constructor -/
theorem ar_runI {y : MethodName} {bytes : ByteArray} {maxL : Nat} {h n index b : Nat} {own : String} {Qc : Array Value → State → Outcome → State → Prop}
    (hx : p.tables.exec = Jvm.exec) (hb : c.code = cc) (hml : c.maxLocals = nL) (hown : s.vm.findClass own = some m.cls) (hts : ∀ w ∈ TT, w.before args s = true)
    (hP : va_P E.1 classes ws H) (hD : va_D A ws) (hS : va_S A s.heap H locs) (hA : ∀ q, s.heap.size ≤ q → A q) (hK : va_K E.1 classes (Ty E) s) (hZ : ZT E A s s.heap)
    (hM : Kt l y bytes maxL none h mc ms E (va_A wc H.size) (.ref b :: As) wc Qc)
    (hl : Cond.methodLink own index y ∈ TT) (hin : Cond.instanceMethod y ∈ TT) (hini : Cond.initialized y.cls ∈ TT) (hc : Cond.code y bytes maxL none ∈ TT) (hy1 : y.name = "<init>")
    (hd : y.cls ≠ "java/lang/invoke/MethodHandle" ∧ y.cls ≠ "java/lang/invoke/VarHandle" ∧ (parseMethodDescriptor y.desc).map (fun d => d.parameters.length) = some n) (hR : h + 1 ≤ R.frames ∧ 8 + (maxL + 11) + 35 * h ≤ R.locals)
    (isC : List Nat) (hC : isC.map (fun i => ws[i]?) = wc.map some) (hC2 : isC.filterMap (fun i => ws[i]?) = wc) (hnC : va_nd isC = true)
    (hn : As.length = n) (hsize : ls.size = nL) (hst : st0 = As.reverse ++ .ref b :: rest) (hrest : (rest.map fun v => v.category).sum ≤ 8) (hdg : decode cc pc = .ok (.invokespecial index, 3)) (hf : cells + mc ≤ R.cells ∧ slots + ms ≤ R.slots) :
    va_Run p l e R s m args below meth c H locs cells slots mc ms (F0 m pc ls st0) rest (Qc (Value.ref b :: As).toArray) (va_A wc H.size) :=
  va_runI ⟨hx, hb, hml, hown, hts⟩ hM ⟨callB_of n hts (ar_good hc) rfl rfl rfl (hts _ hini) (hts _ hl) hd hR, hy1, hts _ hin⟩
    ⟨ar_blind, fun U hU hW => ⟨rfl, ar_pre hP hD hS hA hK hZ isC hC hC2 hnC hU hW⟩⟩ rfl hn hsize hst (lv_room hrest) hdg hf
end Calls
def bI (b : Bool) : Int32 := if b then 1 else 0
theorem bI_nar (b : Bool) : narrow .boolean (.int (bI b)) = .int (bI b) := by cases b <;> rfl
theorem bI_fit (b : Bool) : fits .boolean (.int (bI b)) = true := by cases b <;> rfl
theorem bI_vp (b : Bool) : vp_nar .boolean (bI b) = bI b := by cases b <;> rfl
theorem in_of {i k : Int32} {n : Nat} (hk : k.toInt = n) (h1 : ¬ i < 0) (h2 : ¬ k ≤ i) : vp_in i n := by
  rw [vp_in_iff]
  rw [Int32.lt_iff_toInt_lt, Int32.toInt_zero] at h1
  rw [Int32.le_iff_toInt_le] at h2
  omega
