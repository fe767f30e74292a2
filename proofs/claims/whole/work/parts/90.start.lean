/-! what holds at the entry -/
abbrev st_L : List Cond := flatC (Jvm.Cond.and given_1 narrow_1)
set_option maxRecDepth 100000 in
theorem st_e0 : ∀ j, j < 47 → Cond.eq (.elem (.static "ArithmeticRows$Table" "Q" "[I") (.int (Int32.ofNat j))) (.int (zF 0 j)) ∈ st_L := by decide +kernel
set_option maxRecDepth 100000 in
theorem st_a0 : Cond.arrayOf (.static "ArithmeticRows$Table" "Q" "[I") .int ∈ st_L ∧ Cond.eq (.length (.static "ArithmeticRows$Table" "Q" "[I")) (.int (Int32.ofNat 47)) ∈ st_L := by decide +kernel
set_option maxRecDepth 100000 in
theorem st_e1 : ∀ j, j < 47 → Cond.eq (.elem (.static "ArithmeticRows$Table" "BEHIND_LIKELY" "[I") (.int (Int32.ofNat j))) (.int (zF 1 j)) ∈ st_L := by decide +kernel
set_option maxRecDepth 100000 in
theorem st_a1 : Cond.arrayOf (.static "ArithmeticRows$Table" "BEHIND_LIKELY" "[I") .int ∈ st_L ∧ Cond.eq (.length (.static "ArithmeticRows$Table" "BEHIND_LIKELY" "[I")) (.int (Int32.ofNat 47)) ∈ st_L := by decide +kernel
set_option maxRecDepth 100000 in
theorem st_e2 : ∀ j, j < 47 → Cond.eq (.elem (.static "ArithmeticRows$Table" "BEHIND_OTHER" "[I") (.int (Int32.ofNat j))) (.int (zF 2 j)) ∈ st_L := by decide +kernel
set_option maxRecDepth 100000 in
theorem st_a2 : Cond.arrayOf (.static "ArithmeticRows$Table" "BEHIND_OTHER" "[I") .int ∈ st_L ∧ Cond.eq (.length (.static "ArithmeticRows$Table" "BEHIND_OTHER" "[I")) (.int (Int32.ofNat 47)) ∈ st_L := by decide +kernel
set_option maxRecDepth 100000 in
theorem st_e3 : ∀ j, j < 6 → Cond.eq (.elem (.static "ArithmeticRows" "PREFIX" "[I") (.int (Int32.ofNat j))) (.int (zF 3 j)) ∈ st_L := by decide +kernel
set_option maxRecDepth 100000 in
theorem st_a3 : Cond.arrayOf (.static "ArithmeticRows" "PREFIX" "[I") .int ∈ st_L ∧ Cond.eq (.length (.static "ArithmeticRows" "PREFIX" "[I")) (.int (Int32.ofNat 6)) ∈ st_L := by decide +kernel
set_option maxRecDepth 100000 in
theorem st_e4 : ∀ j, j < 6 → Cond.eq (.elem (.static "ArithmeticRows" "PREFIX_LENGTH" "[I") (.int (Int32.ofNat j))) (.int (zF 4 j)) ∈ st_L := by decide +kernel
set_option maxRecDepth 100000 in
theorem st_a4 : Cond.arrayOf (.static "ArithmeticRows" "PREFIX_LENGTH" "[I") .int ∈ st_L ∧ Cond.eq (.length (.static "ArithmeticRows" "PREFIX_LENGTH" "[I")) (.int (Int32.ofNat 6)) ∈ st_L := by decide +kernel
set_option maxRecDepth 100000 in
theorem st_e5 : ∀ j, j < 6 → Cond.eq (.elem (.static "ArithmeticRows" "LEAST_SIZE" "[I") (.int (Int32.ofNat j))) (.int (zF 5 j)) ∈ st_L := by decide +kernel
set_option maxRecDepth 100000 in
theorem st_a5 : Cond.arrayOf (.static "ArithmeticRows" "LEAST_SIZE" "[I") .int ∈ st_L ∧ Cond.eq (.length (.static "ArithmeticRows" "LEAST_SIZE" "[I")) (.int (Int32.ofNat 6)) ∈ st_L := by decide +kernel
set_option maxRecDepth 100000 in
theorem st_e6 : ∀ j, j < 6 → Cond.eq (.elem (.static "ArithmeticRows" "SIZE_LENGTH" "[I") (.int (Int32.ofNat j))) (.int (zF 6 j)) ∈ st_L := by decide +kernel
set_option maxRecDepth 100000 in
theorem st_a6 : Cond.arrayOf (.static "ArithmeticRows" "SIZE_LENGTH" "[I") .int ∈ st_L ∧ Cond.eq (.length (.static "ArithmeticRows" "SIZE_LENGTH" "[I")) (.int (Int32.ofNat 6)) ∈ st_L := by decide +kernel
set_option maxRecDepth 100000 in
theorem st_y : Cond.isRef (.static "java/lang/Throwable" "UNASSIGNED_STACK" "[Ljava/lang/StackTraceElement;") ∈ st_L ∧ Cond.isRef (.static "java/lang/Throwable" "SUPPRESSED_SENTINEL" "Ljava/util/List;") ∈ st_L := by decide +kernel
set_option maxRecDepth 100000 in
theorem st_s : ∀ k, k < 10 → Cond.exactly (.string "ArithmeticRows" (zI k)) "java/lang/String" ∈ st_L := by decide +kernel
set_option maxRecDepth 100000 in
theorem st_n : ∀ i, i < 3 → ∀ j, j < 3 → i ≠ j → Cond.not (.castable (zX i) (zX j)) ∈ st_L := by decide +kernel
theorem st_arr {s : State} {args : Array Value} {k N : Nat} {C n : String} {f : Nat → Int32} (hN : N < 2 ^ 31) (hs : ∀ w ∈ st_L, w.before args s = true) (ha : Cond.arrayOf (.static C n "[I") .int ∈ st_L ∧ Cond.eq (.length (.static C n "[I")) (.int (Int32.ofNat N)) ∈ st_L) (he : ∀ j, j < N → Cond.eq (.elem (.static C n "[I") (.int (Int32.ofNat j))) (.int (f j)) ∈ st_L) (hl : (Cond.laysStatic C n "[I").before args s = true) (hini : (Cond.initialized C).before args s = true) :
    ∃ t : Nat, va_Z C n "[I" (.ref t) (fun q : Nat => s.heap.size ≤ q) s s.heap ∧ va_T .int t N (fun j => .int (f j)) (fun q : Nat => s.heap.size ≤ q) s s.heap := by
  have hA : ∀ a : Nat, a < s.heap.size → ¬ (fun q : Nat => s.heap.size ≤ q) a := fun a h => Nat.not_le.mpr h
  obtain ⟨t, h1, h2⟩ := va_Tof (tm := .static C n "[I") (ty := .int) (f := fun j => .int (f j)) hN (hs _ ha.1) (Cond.eq_int (hs _ ha.2) rfl) (fun j hj => Cond.eq_int (hs _ (he j hj)) rfl) hA
  exact ⟨t, va_Zref hl hini h1 hA, h2⟩
theorem st_cls {s : State} {args : Array Value} {ty : FieldType} (h : (Cond.arrayClass ty).before args s = true) : ∃ cA : ClassId, ArrOfT s cA ty ∧ s.vm.findClass ("[" ++ ty.toString) = some cA := by
  obtain ⟨cA, kA, comp, h1, h2, h3⟩ := Cond.arrayClass_spec h
  exact ⟨cA, fun n z => ⟨fun k h => (by cases h), kA, h2, comp, h3⟩, h1⟩
set_option maxHeartbeats 4000000 in
set_option maxRecDepth 100000 in
theorem st_all {s : State} {args : Array Value} (hts : ∀ w ∈ lw_tbl, w.before args s = true) (hgv : (Jvm.Cond.and given_1 narrow_1).before args s = true) : ∃ E : Ev, ZT E (fun q : Nat => s.heap.size ≤ q) s s.heap ∧ va_K E.1 classes (Ty E) s := by
  have hs : ∀ w ∈ st_L, w.before args s = true := flat_of_before _ hgv
  have htt : ∀ w ∈ TT, w.before args s = true := fun w h => hts w (List.mem_filter.mp h).1
  have hA : ∀ a : Nat, a < s.heap.size → ¬ (fun q : Nat => s.heap.size ≤ q) a := fun a h => Nat.not_le.mpr h
  obtain ⟨t0, z0⟩ := st_arr (k := 0) (N := 47) (f := zF 0) (by decide) hs st_a0 st_e0 (hts _ m_426) (htt _ m_14)
  obtain ⟨t1, z1⟩ := st_arr (k := 1) (N := 47) (f := zF 1) (by decide) hs st_a1 st_e1 (hts _ m_434) (htt _ m_14)
  obtain ⟨t2, z2⟩ := st_arr (k := 2) (N := 47) (f := zF 2) (by decide) hs st_a2 st_e2 (hts _ m_439) (htt _ m_14)
  obtain ⟨t3, z3⟩ := st_arr (k := 3) (N := 6) (f := zF 3) (by decide) hs st_a3 st_e3 (hts _ m_575) (htt _ m_1)
  obtain ⟨t4, z4⟩ := st_arr (k := 4) (N := 6) (f := zF 4) (by decide) hs st_a4 st_e4 (hts _ m_564) (htt _ m_1)
  obtain ⟨t5, z5⟩ := st_arr (k := 5) (N := 6) (f := zF 5) (by decide) hs st_a5 st_e5 (hts _ m_562) (htt _ m_1)
  obtain ⟨t6, z6⟩ := st_arr (k := 6) (N := 6) (f := zF 6) (by decide) hs st_a6 st_e6 (hts _ m_566) (htt _ m_1)
  obtain ⟨a0, _, _, _, q0, -⟩ := Cond.exactly_spec (hs _ (st_s 0 (by decide)))
  obtain ⟨a1, _, _, _, q1, -⟩ := Cond.exactly_spec (hs _ (st_s 1 (by decide)))
  obtain ⟨a2, _, _, _, q2, -⟩ := Cond.exactly_spec (hs _ (st_s 2 (by decide)))
  obtain ⟨a3, _, _, _, q3, -⟩ := Cond.exactly_spec (hs _ (st_s 3 (by decide)))
  obtain ⟨a4, _, _, _, q4, -⟩ := Cond.exactly_spec (hs _ (st_s 4 (by decide)))
  obtain ⟨a5, _, _, _, q5, -⟩ := Cond.exactly_spec (hs _ (st_s 5 (by decide)))
  obtain ⟨a6, _, _, _, q6, -⟩ := Cond.exactly_spec (hs _ (st_s 6 (by decide)))
  obtain ⟨a7, _, _, _, q7, -⟩ := Cond.exactly_spec (hs _ (st_s 7 (by decide)))
  obtain ⟨a8, _, _, _, q8, -⟩ := Cond.exactly_spec (hs _ (st_s 8 (by decide)))
  obtain ⟨a9, _, _, _, q9, -⟩ := Cond.exactly_spec (hs _ (st_s 9 (by decide)))
  obtain ⟨y0, w0, x0⟩ := st_cls (htt _ m_47)
  obtain ⟨y1, w1, x1⟩ := st_cls (htt _ m_74)
  obtain ⟨y2, w2, x2⟩ := st_cls (htt _ m_857)
  obtain ⟨c0, i0, hk0⟩ := u_known (C := R_Ro) (T := T_Ro) (N := 6) (n := 6) htt in_Ro (htt _ m_49)
  obtain ⟨c1, i1, hk1⟩ := u_known (C := R_Si) (T := T_Si) (N := 2) (n := 2) htt in_Si (htt _ m_33)
  obtain ⟨c2, i2, hk2⟩ := u_known (C := R_En) (T := T_En) (N := 8) (n := 8) htt in_En (htt _ m_76)
  obtain ⟨c3, i3, hk3⟩ := u_known (C := R_De) (T := T_De) (N := 11) (n := 11) htt in_De (htt _ m_112)
  obtain ⟨c4, i4, hk4⟩ := u_known (C := R_X) (T := T_X) (N := 10) (n := 10) htt in_X (htt _ m_18)
  obtain ⟨c5, i5, hk5⟩ := u_known (C := R_M) (T := T_M) (N := 29) (n := 29) htt in_M (htt _ m_596)
  refine ⟨((fun k : Nat => if k = 0 then c0 else if k = 1 then c1 else if k = 2 then c2 else if k = 3 then c3 else if k = 4 then c4 else c5, fun k : Nat => if k = 0 then i0 else if k = 1 then i1 else if k = 2 then i2 else if k = 3 then i3 else if k = 4 then i4 else i5), fun k : Nat => if k = 0 then y0 else if k = 1 then y1 else y2, fun q : Nat => if q = 0 then t0 else if q = 1 then t1 else if q = 2 then t2 else if q = 3 then t3 else if q = 4 then t4 else if q = 5 then t5 else if q = 6 then t6 else if q = 10 then a0 else if q = 11 then a1 else if q = 12 then a2 else if q = 13 then a3 else if q = 14 then a4 else if q = 15 then a5 else if q = 16 then a6 else if q = 17 then a7 else if q = 18 then a8 else a9), ⟨?_, ?_, ?_, ?_, ?_, ?_, ?_, ?_, ?_, ?_⟩, ?_, ?_⟩
  · intro k hk
    rcases (show k = 0 ∨ k = 1 ∨ k = 2 ∨ k = 3 ∨ k = 4 ∨ k = 5 ∨ k = 6 by omega) with rfl | rfl | rfl | rfl | rfl | rfl | rfl
    · exact z0
    · exact z1
    · exact z2
    · exact z3
    · exact z4
    · exact z5
    · exact z6
  · exact va_Nw.of rfl (hts _ m_39)
  · exact va_Nw.of rfl (hts _ m_41)
  · exact va_Nw.of rfl (hts _ m_427)
  · exact zY.of (hts _ m_337) (hs _ st_y.1) hA
  · exact zY.of (hts _ m_339) (hs _ st_y.2) hA
  · intro k hk
    rcases (show k = 0 ∨ k = 1 ∨ k = 2 by omega) with rfl | rfl | rfl
    · exact va_Nw.of rfl (hts _ m_312)
    · exact va_Nw.of rfl (hts _ m_384)
    · exact va_Nw.of rfl (hts _ m_400)
  · intro k hk
    rcases (show k = 0 ∨ k = 1 ∨ k = 2 by omega) with rfl | rfl | rfl
    · exact va_Nw.of rfl (hts _ m_314)
    · exact va_Nw.of rfl (hts _ m_316)
    · exact va_Nw.of rfl (hts _ m_318)
  · intro k hk
    rcases (show k = 0 ∨ k = 1 ∨ k = 2 ∨ k = 3 ∨ k = 4 ∨ k = 5 ∨ k = 6 ∨ k = 7 ∨ k = 8 ∨ k = 9 by omega) with rfl | rfl | rfl | rfl | rfl | rfl | rfl | rfl | rfl | rfl
    · exact vk_R.of (A := args) (hts _ m_351) q0
    · exact vk_R.of (A := args) (hts _ m_391) q1
    · exact vk_R.of (A := args) (hts _ m_407) q2
    · exact vk_R.of (A := args) (hts _ m_463) q3
    · exact vk_R.of (A := args) (hts _ m_479) q4
    · exact vk_R.of (A := args) (hts _ m_480) q5
    · exact vk_R.of (A := args) (hts _ m_493) q6
    · exact vk_R.of (A := args) (hts _ m_540) q7
    · exact vk_R.of (A := args) (hts _ m_553) q8
    · exact vk_R.of (A := args) (hts _ m_594) q9
  · exact fun i j hi hj hij => va_Nc.of (hs _ (st_n i hi j hj hij))
  · intro k q hq
    match k, hq with
    | 0, hq => cases hq; exact hk0
    | 1, hq => cases hq; exact hk1
    | 2, hq => cases hq; exact hk2
    | 3, hq => cases hq; exact hk3
    | 4, hq => cases hq; exact hk4
    | 5, hq => cases hq; exact hk5
    | k + 6, hq => simp [classes] at hq
  · intro k q hq
    match k, hq with
    | 0, hq => cases hq; exact ⟨w0, x0⟩
    | 1, hq => cases hq; exact ⟨w1, x1⟩
    | 2, hq => cases hq; exact ⟨w2, x2⟩
    | k + 3, hq => simp [Ty] at hq
