/-! the words of a throw: where each comes from -/
def zk_ok (X : String) (w : Cond) : Bool := decide (w = .castable X X) || decide (w = .declares (Bundle.initS "java/lang/RuntimeException")) || decide (w = .declares (Bundle.initS "java/lang/Exception")) || decide (w = .declares (Bundle.initS "java/lang/Throwable")) || decide (w = .isRef (.static "java/lang/Throwable" "UNASSIGNED_STACK" "[Ljava/lang/StackTraceElement;")) || decide (w = .isRef (.static "java/lang/Throwable" "SUPPRESSED_SENTINEL" "Ljava/util/List;")) || decide (w = .laysStatic "java/lang/Throwable" "UNASSIGNED_STACK" "[Ljava/lang/StackTraceElement;") || decide (w = .laysStatic "java/lang/Throwable" "SUPPRESSED_SENTINEL" "Ljava/util/List;")
theorem own_a : ((Bundle.ownAtoms "ArithmeticRows" 106 "java/lang/IndexOutOfBoundsException" ["java/lang/RuntimeException", "java/lang/Exception"]).all (fun w => zk_ok "java/lang/IndexOutOfBoundsException" w || (goodWord w && decide (w ∈ lw_tbl)))) = true := by decide +kernel
theorem own_b : ((Bundle.ownAtoms "ArithmeticRows" 118 "java/lang/IllegalStateException" ["java/lang/RuntimeException", "java/lang/Exception"]).all (fun w => zk_ok "java/lang/IllegalStateException" w || (goodWord w && decide (w ∈ lw_tbl)))) = true := by decide +kernel
theorem own_c : ((Bundle.ownAtoms "ArithmeticRows" 82 "java/lang/IllegalArgumentException" ["java/lang/RuntimeException", "java/lang/Exception"]).all (fun w => zk_ok "java/lang/IllegalArgumentException" w || (goodWord w && decide (w ∈ lw_tbl)))) = true := by decide +kernel
/-- the words of a throw hold in every state of these tables and this heap -/
theorem ZT.own {E : Ev} {A : Nat → Prop} {s : State} {args : Array Value} {H : Heap} {locs : List Loc} (hZ : ZT E A s s.heap) (hts : ∀ w ∈ TT, w.before args s = true) (hS : va_S A s.heap H locs) {k ic : Nat} (hk : k < 3)
    (ha : ((Bundle.ownAtoms "ArithmeticRows" ic (zX k) ["java/lang/RuntimeException", "java/lang/Exception"]).all (fun w => zk_ok (zX k) w || (goodWord w && decide (w ∈ lw_tbl)))) = true) :
    ∀ s2 : State, s2.vm = s.vm → s2.heap = H → ∀ w ∈ Bundle.ownAtoms "ArithmeticRows" ic (zX k) ["java/lang/RuntimeException", "java/lang/Exception"], w.before args s2 = true := by
  intro s2 hv hh w hw
  have h := List.all_eq_true.mp ha w hw
  have hW : s.WarmedH s2.vm := by rw [hv]; exact State.WarmedH.refl s
  have hZ2 : ZX E A s2 s2.heap := by rw [hh]; exact hZ.2.2.2.2.at hS hW (fun _ h => h)
  rw [Bool.or_eq_true] at h
  rcases h with h | h
  · simp only [zk_ok, Bool.or_eq_true, decide_eq_true_eq] at h
    rcases h with ((((((rfl | rfl) | rfl) | rfl) | rfl) | rfl) | rfl) | rfl
    · exact va_Nw.use rfl (hZ2.2.2.1 k hk)
    · exact va_Nw.use rfl (hZ2.2.2.2.1 0 (by decide))
    · exact va_Nw.use rfl (hZ2.2.2.2.1 1 (by decide))
    · exact va_Nw.use rfl (hZ2.2.2.2.1 2 (by decide))
    · exact hZ2.1.isRef
    · exact hZ2.2.1.isRef
    · exact hZ2.1.lays
    · exact hZ2.2.1.lays
  · simp only [Bool.and_eq_true, decide_eq_true_eq] at h
    exact word_at hW (good_of_word h.1) (hts w (TT_in h.2 h.1))
