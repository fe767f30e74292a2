/-! where the fields' words stand; small words of the walks -/
set_option maxRecDepth 20000 in
theorem in_Ro : ∀ w ∈ u_ws R_Ro T_Ro 6, w ∈ TT := (List.forall_mem_cons.mpr ⟨m_61, (List.forall_mem_cons.mpr ⟨m_63, (List.forall_mem_cons.mpr ⟨m_65, (List.forall_mem_cons.mpr ⟨m_67, (List.forall_mem_cons.mpr ⟨m_69, (List.forall_mem_cons.mpr ⟨m_71, (fun _ h => absurd h List.not_mem_nil)⟩)⟩)⟩)⟩)⟩)⟩)
set_option maxRecDepth 20000 in
theorem in_Si : ∀ w ∈ u_ws R_Si T_Si 2, w ∈ TT := (List.forall_mem_cons.mpr ⟨m_42, (List.forall_mem_cons.mpr ⟨m_44, (fun _ h => absurd h List.not_mem_nil)⟩)⟩)
set_option maxRecDepth 20000 in
theorem in_En : ∀ w ∈ u_ws R_En T_En 8, w ∈ TT := (List.forall_mem_cons.mpr ⟨m_94, (List.forall_mem_cons.mpr ⟨m_96, (List.forall_mem_cons.mpr ⟨m_98, (List.forall_mem_cons.mpr ⟨m_100, (List.forall_mem_cons.mpr ⟨m_102, (List.forall_mem_cons.mpr ⟨m_104, (List.forall_mem_cons.mpr ⟨m_106, (List.forall_mem_cons.mpr ⟨m_108, (fun _ h => absurd h List.not_mem_nil)⟩)⟩)⟩)⟩)⟩)⟩)⟩)⟩)
set_option maxRecDepth 20000 in
theorem in_De : ∀ w ∈ u_ws R_De T_De 11, w ∈ TT := (List.forall_mem_cons.mpr ⟨m_128, (List.forall_mem_cons.mpr ⟨m_130, (List.forall_mem_cons.mpr ⟨m_132, (List.forall_mem_cons.mpr ⟨m_134, (List.forall_mem_cons.mpr ⟨m_136, (List.forall_mem_cons.mpr ⟨m_138, (List.forall_mem_cons.mpr ⟨m_140, (List.forall_mem_cons.mpr ⟨m_142, (List.forall_mem_cons.mpr ⟨m_144, (List.forall_mem_cons.mpr ⟨m_146, (List.forall_mem_cons.mpr ⟨m_148, (fun _ h => absurd h List.not_mem_nil)⟩)⟩)⟩)⟩)⟩)⟩)⟩)⟩)⟩)⟩)⟩)
set_option maxRecDepth 20000 in
theorem in_X : ∀ w ∈ u_ws R_X T_X 10, w ∈ TT := (List.forall_mem_cons.mpr ⟨m_161, (List.forall_mem_cons.mpr ⟨m_163, (List.forall_mem_cons.mpr ⟨m_165, (List.forall_mem_cons.mpr ⟨m_167, (List.forall_mem_cons.mpr ⟨m_169, (List.forall_mem_cons.mpr ⟨m_171, (List.forall_mem_cons.mpr ⟨m_173, (List.forall_mem_cons.mpr ⟨m_175, (List.forall_mem_cons.mpr ⟨m_177, (List.forall_mem_cons.mpr ⟨m_179, (fun _ h => absurd h List.not_mem_nil)⟩)⟩)⟩)⟩)⟩)⟩)⟩)⟩)⟩)⟩)
set_option maxRecDepth 20000 in
theorem in_M : ∀ w ∈ u_ws R_M T_M 29, w ∈ TT := (List.forall_mem_cons.mpr ⟨m_639, (List.forall_mem_cons.mpr ⟨m_641, (List.forall_mem_cons.mpr ⟨m_643, (List.forall_mem_cons.mpr ⟨m_645, (List.forall_mem_cons.mpr ⟨m_647, (List.forall_mem_cons.mpr ⟨m_649, (List.forall_mem_cons.mpr ⟨m_651, (List.forall_mem_cons.mpr ⟨m_653, (List.forall_mem_cons.mpr ⟨m_655, (List.forall_mem_cons.mpr ⟨m_657, (List.forall_mem_cons.mpr ⟨m_659, (List.forall_mem_cons.mpr ⟨m_661, (List.forall_mem_cons.mpr ⟨m_663, (List.forall_mem_cons.mpr ⟨m_665, (List.forall_mem_cons.mpr ⟨m_667, (List.forall_mem_cons.mpr ⟨m_669, (List.forall_mem_cons.mpr ⟨m_671, (List.forall_mem_cons.mpr ⟨m_673, (List.forall_mem_cons.mpr ⟨m_675, (List.forall_mem_cons.mpr ⟨m_677, (List.forall_mem_cons.mpr ⟨m_679, (List.forall_mem_cons.mpr ⟨m_681, (List.forall_mem_cons.mpr ⟨m_683, (List.forall_mem_cons.mpr ⟨m_685, (List.forall_mem_cons.mpr ⟨m_687, (List.forall_mem_cons.mpr ⟨m_689, (List.forall_mem_cons.mpr ⟨m_691, (List.forall_mem_cons.mpr ⟨m_693, (List.forall_mem_cons.mpr ⟨m_695, (fun _ h => absurd h List.not_mem_nil)⟩)⟩)⟩)⟩)⟩)⟩)⟩)⟩)⟩)⟩)⟩)⟩)⟩)⟩)⟩)⟩)⟩)⟩)⟩)⟩)⟩)⟩)⟩)⟩)⟩)⟩)⟩)⟩)⟩)
def ushr (x y : Int32) : Int32 := (x.toUInt32 >>> (y.toUInt32 &&& Int32.toUInt32 31)).toInt32
def ineg (x : Int32) : Int32 := -x
def irem (x y : Int32) : Int32 := x - x / y * y
def lrem (x y : Int64) : Int64 := x - x / y * y
section Rem
variable {p : Program} {l : Launch} {e : Env} {R : Room} {s : State} {m : MethodId} {args : Array Value} {below : List Frame} {meth : Method} {c : Code} {H : Heap} {locs : List Loc} {cells slots : Nat} {cc : ByteArray} {pc : Nat} {ls : Array Slot} {rest : List Value} {Q : State → Prop}
theorem ar_irem (hx : p.tables.exec = Jvm.exec) (hb : c.code = cc) {x y : Int32} (hdg : decode cc pc = .ok (.irem, 1)) (hne : ¬ y = 0) (k : W p l e R s m args below meth c H locs cells slots Q (F0 m (pc + 1) ls (.int (irem x y) :: rest))) : W p l e R s m args below meth c H locs cells slots Q (F0 m pc ls (.int y :: .int x :: rest)) := lv_irem hx hb hdg hne k
theorem ar_ineg (hx : p.tables.exec = Jvm.exec) (hb : c.code = cc) {x : Int32} (hdg : decode cc pc = .ok (.ineg, 1)) (k : W p l e R s m args below meth c H locs cells slots Q (F0 m (pc + 1) ls (.int (ineg x) :: rest))) : W p l e R s m args below meth c H locs cells slots Q (F0 m pc ls (.int x :: rest)) := lv_ineg hx hb hdg k
theorem ar_lrem (hx : p.tables.exec = Jvm.exec) (hb : c.code = cc) {x y : Int64} (hdg : decode cc pc = .ok (.lrem, 1)) (hne : ¬ y = 0) (k : W p l e R s m args below meth c H locs cells slots Q (F0 m (pc + 1) ls (.long (lrem x y) :: rest))) : W p l e R s m args below meth c H locs cells slots Q (F0 m pc ls (.long y :: .long x :: rest)) := lv_lrem hx hb hdg hne k
end Rem
theorem pr_of {α β : Type} {F : α × β} {r : α} {u : β} (h : F = (r, u)) : r = F.1 ∧ u = F.2 := by rw [h]; exact ⟨rfl, rfl⟩
theorem zr_of {F b : Bool} {r : Int32} (h : F = b) (hr : r = bI b) : r = bI F := by rw [h]; exact hr
theorem zp_of {β : Type} {F : Bool × β} {b : Bool} {r : Int32} {u : β} (h : F = (b, u)) (hr : r = bI b) : r = bI F.1 ∧ u = F.2 := by rw [h]; exact ⟨hr, rfl⟩
/-- a number that no reduction looks into -/
noncomputable def nf (n : Nat) : Nat := Classical.choose (⟨n, rfl⟩ : ∃ m, m = n)
theorem nf_eq (n : Nat) : nf n = n := Classical.choose_spec (⟨n, rfl⟩ : ∃ m, m = n)
theorem bI_t : bI true = 1 := rfl
theorem bI_f : bI false = 0 := rfl
theorem in_le {i g k : Int32} {n : Nat} (hk : k.toInt = n) (h1 : ¬ i < 0) (h2 : ¬ g ≤ i) (h3 : g ≤ k) : vp_in i n := by
  rw [vp_in_iff]
  rw [Int32.lt_iff_toInt_lt, Int32.toInt_zero] at h1
  rw [Int32.le_iff_toInt_le] at h2 h3
  omega
theorem in_lt {i k : Int32} {n : Nat} (hk : k.toInt = n) (h1 : ¬ i < 0) (h2 : i < k) : vp_in i n := by
  rw [vp_in_iff]
  rw [Int32.lt_iff_toInt_lt, Int32.toInt_zero] at h1
  rw [Int32.lt_iff_toInt_lt] at h2
  omega
section Refs
variable {p : Program} {l : Launch} {e : Env} {R : Room} {s : State} {m : MethodId} {args : Array Value} {below : List Frame} {meth : Method} {c : Code} {H : Heap} {locs : List Loc} {cells slots mc ms : Nat} {E : Ev} {A : Nat → Prop} {cc : ByteArray} {pc : Nat} {ls : Array Slot} {ws wc wr w1 : va_W} {st0 rest : List Value} {a : Array Value} {Q : State → Prop}
theorem ar_aret {b : Nat} {rt : FieldType} (hx : p.tables.exec = Jvm.exec) (hb : c.code = cc) (hr : meth.sig.returnType = some rt) (hrt : (∃ n, rt = .object n) ∨ ∃ t, rt = .array t) (hlocks : meth.locks = false) (hK : va_K E.1 classes (Ty E) s) (hS : va_S A s.heap H locs) (hP : va_P E.1 classes w1 H) (hD : va_D A w1) (hdg : decode cc pc = .ok (.areturn, 1)) :
    W p l e R s m args below meth c H locs cells slots (MQ below (va_Qr (fun _ : Unit => True) (fun _ a t => a = b ∧ ar_W E A (fun _ : Unit => w1) () t) A) args s cells slots A) (F0 m pc ls [.ref b]) :=
  W.aret (v := .ref b) hx hb hr hrt (Or.inr ⟨_, rfl⟩) (fun t ht hW => ⟨⟨(), b, rfl, trivial, rfl, by rw [ht]; exact hP, va_K.moved hW.alike hK, hD⟩, hS.F ht⟩) hS.2.2 hdg hlocks
theorem ar_user {b : Nat} (hP : va_P E.1 classes ws H) (hD : va_D A ws) (hS : va_S A s.heap H locs) (hA : ∀ q, s.heap.size ≤ q → A q) (isC isR : List Nat) (hC : isC.map (fun i => ws[i]?) = wc.map some) (hR : isR.map (fun i => ws[i]?) = wr.map some) (hn : va_nd isR = true) (hdis : ∀ i ∈ isR, i ∉ isC)
    (hr : va_Run p l e R s m args below meth c H locs cells slots mc ms (F0 m pc ls st0) rest (va_Qr (fun _ : Unit => True) (fun _ a t => a = b ∧ ar_W E (va_A wc H.size) (fun _ : Unit => w1) () t) (va_A wc H.size) a) (va_A wc H.size))
    (kk : ∀ (H1 : Heap) (locs1 : List Loc), va_P E.1 classes (wr ++ w1) H1 → va_D A (wr ++ w1) → va_S A s.heap H1 locs1 → W p l e R s m args below meth c H1 locs1 (cells + mc) (slots + ms) Q (F0 m (pc + 3) ls (.ref b :: rest))) :
    W p l e R s m args below meth c H locs cells slots Q (F0 m pc ls st0) := by
  have hF := va_free (wc := wc) hD hS hA isC hC
  refine va_callr hr hS (fun q _ h => hF q h) hF (fun u ra t H1 locs1 ht hvm hw hB hz hk hS1 => ?_)
  obtain ⟨rfl, hP1, hK1, hD1⟩ := hB
  rw [ht] at hP1
  obtain ⟨h1, h2⟩ := va_join hP hD isC isR hC hR hn hdis hk hF hP1 hD1
  exact kk H1 locs1 h1 h2 hS1
theorem ar_newI {n : Int32} {N : Nat} (hx : p.tables.exec = Jvm.exec) (hb : c.code = cc) (hts : ∀ w ∈ TT, w.before args s = true) (hP : va_P E.1 classes ws H) (hD : va_D A ws) (hS : va_S A s.heap H locs) (hA : ∀ q, s.heap.size ≤ q → A q) (hK : va_K E.1 classes (Ty E) s) (hn : ¬ n < 0) (hN : n.toNatClampNeg = N) (hbytes : N * componentBytes .int ≤ 536870912) (hcells : cells + 1 ≤ R.cells) (hslots : slots + N ≤ R.slots) (hdg : decode cc pc = .ok (.newarray .int, 2))
    (kk : ∀ (q : Nat) (H1 : Heap), va_P E.1 classes (ws ++ [(q, .inl (E.2.1 0, N, .inl (fun _ => 0)))]) H1 → va_D A (ws ++ [(q, .inl (E.2.1 0, N, .inl (fun _ => 0)))]) → va_S A s.heap H1 locs → W p l e R s m args below meth c H1 locs (cells + 1) (slots + N) Q (F0 m (pc + 2) ls (.ref q :: rest))) : W p l e R s m args below meth c H locs cells slots Q (F0 m pc ls (.int n :: rest)) := by
  refine va_newa (atype := .int) (a0 := (N, .inl (fun _ => 0))) hx hb (hts _ m_47) rfl hK hP hD hS hA (fun cA => rfl) hn hN hbytes hcells hslots hdg (fun q cA H1 hK1 hP1 hD1 hS1 => ?_)
  have e1 := (hK1.2 3 (cA, .int) rfl).2
  have e2 := (hK.2 0 (E.2.1 0, .int) rfl).2
  have e3 : cA = E.2.1 0 := Option.some.inj (e1.symm.trans e2)
  subst e3
  exact kk q H1 hP1 hD1 hS1
theorem ar_newZ {n : Int32} {N : Nat} (hx : p.tables.exec = Jvm.exec) (hb : c.code = cc) (hts : ∀ w ∈ TT, w.before args s = true) (hP : va_P E.1 classes ws H) (hD : va_D A ws) (hS : va_S A s.heap H locs) (hA : ∀ q, s.heap.size ≤ q → A q) (hK : va_K E.1 classes (Ty E) s) (hn : ¬ n < 0) (hN : n.toNatClampNeg = N) (hbytes : N * componentBytes .boolean ≤ 536870912) (hcells : cells + 1 ≤ R.cells) (hslots : slots + N ≤ R.slots) (hdg : decode cc pc = .ok (.newarray .boolean, 2))
    (kk : ∀ (q : Nat) (H1 : Heap), va_P E.1 classes (ws ++ [(q, .inl (E.2.1 1, N, .inl (fun _ => 0)))]) H1 → va_D A (ws ++ [(q, .inl (E.2.1 1, N, .inl (fun _ => 0)))]) → va_S A s.heap H1 locs → W p l e R s m args below meth c H1 locs (cells + 1) (slots + N) Q (F0 m (pc + 2) ls (.ref q :: rest))) : W p l e R s m args below meth c H locs cells slots Q (F0 m pc ls (.int n :: rest)) := by
  refine va_newa (atype := .boolean) (a0 := (N, .inl (fun _ => 0))) hx hb (hts _ m_74) rfl hK hP hD hS hA (fun cA => rfl) hn hN hbytes hcells hslots hdg (fun q cA H1 hK1 hP1 hD1 hS1 => ?_)
  have e1 := (hK1.2 3 (cA, .boolean) rfl).2
  have e2 := (hK.2 1 (E.2.1 1, .boolean) rfl).2
  have e3 : cA = E.2.1 1 := Option.some.inj (e1.symm.trans e2)
  subst e3
  exact kk q H1 hP1 hD1 hS1
end Refs
abbrev b_Ar_fill : ByteArray := prog_18_method_103_code
abbrev y_Ar_fill : MethodName := ⟨"java/util/Arrays", "fill", "([II)V"⟩
abbrev RoS : Type := Int32 × Int32 × Int32 × (Nat → Int32) × (Nat → Int32) × (Nat → Int32)
abbrev EnS : Type := Bool × Int32 × Int32 × Int32 × Int32 × Int32 × Int32
abbrev DeS : Type := Int32 × Bool × Bool × Int32 × Int32 × Int32 × Int32 × Int32 × Int32 × Int32
theorem d_Ar_fill_0 : decode b_Ar_fill 0 = .ok (.iconst 0, 1) := by decide +kernel
theorem d_Ar_fill_1 : decode b_Ar_fill 1 = .ok (.istore_n 2, 1) := by decide +kernel
theorem d_Ar_fill_2 : decode b_Ar_fill 2 = .ok (.aload_n 0, 1) := by decide +kernel
theorem d_Ar_fill_3 : decode b_Ar_fill 3 = .ok (.arraylength, 1) := by decide +kernel
theorem d_Ar_fill_4 : decode b_Ar_fill 4 = .ok (.istore_n 3, 1) := by decide +kernel
theorem d_Ar_fill_5 : decode b_Ar_fill 5 = .ok (.iload_n 2, 1) := by decide +kernel
theorem d_Ar_fill_6 : decode b_Ar_fill 6 = .ok (.iload_n 3, 1) := by decide +kernel
theorem d_Ar_fill_7 : decode b_Ar_fill 7 = .ok (.if_icmp .ge 13, 3) := by decide +kernel
theorem d_Ar_fill_10 : decode b_Ar_fill 10 = .ok (.aload_n 0, 1) := by decide +kernel
theorem d_Ar_fill_11 : decode b_Ar_fill 11 = .ok (.iload_n 2, 1) := by decide +kernel
theorem d_Ar_fill_12 : decode b_Ar_fill 12 = .ok (.iload_n 1, 1) := by decide +kernel
theorem d_Ar_fill_13 : decode b_Ar_fill 13 = .ok (.iastore, 1) := by decide +kernel
theorem d_Ar_fill_14 : decode b_Ar_fill 14 = .ok (.iinc 2 1, 3) := by decide +kernel
theorem d_Ar_fill_17 : decode b_Ar_fill 17 = .ok (.goto (-12), 3) := by decide +kernel
theorem d_Ar_fill_20 : decode b_Ar_fill 20 = .ok (.return_, 1) := by decide +kernel
