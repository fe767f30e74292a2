/-! the reference: contracts -/
noncomputable def g_M_passWhole (nx : Nat) (p0 : Int32) (p1 : Int32) : Nat → (MS) → Int32 → Int32 → Int32 → Bool → Int32 × (MS)
  | 0, st, k3, k4, k5, b6 => (0, st)
  | n + 1, st, k3, k4, k5, b6 =>
    if bI b6 = 0 then
      if k5 = 5 then
        let r19 := f_M_leastOf  k5 
        let r22 := (f_M_passNumber nx p0 (k4 - r19) 32 st).1
        let u22 := (f_M_passNumber nx p0 (k4 - r19) 32 st).2
        let x23 := (r19 + r22)
        if k3 = 0 then
          (x23, u22)
        else
          if x23 = 0 then
            ((-2147483648), u22)
          else
            ((ineg x23), u22)
      else
        if k5 = 4 then
          let r12 := f_M_leastOf  k5 
          let r15 := (f_M_passNumber nx p0 (k4 - r12) 12 st).1
          let u15 := (f_M_passNumber nx p0 (k4 - r12) 12 st).2
          let x16 := (r12 + r15)
          if k3 = 0 then
            (x16, u15)
          else
            if x16 = 0 then
              ((-2147483648), u15)
            else
              ((ineg x16), u15)
        else
          let x4 := (2 + (2 * k5))
          let r5 := f_M_leastOf  k5 
          let r8 := (f_M_passNumber nx p0 (k4 - r5) x4 st).1
          let u8 := (f_M_passNumber nx p0 (k4 - r5) x4 st).2
          let x9 := (r5 + r8)
          if k3 = 0 then
            (x9, u8)
          else
            if x9 = 0 then
              ((-2147483648), u8)
            else
              ((ineg x9), u8)
    else
      if 5 ≤ k5 then
        if k5 = 5 then
          let r44 := f_M_leastOf  k5 
          let r47 := (f_M_passNumber nx p0 (k4 - r44) 32 st).1
          let u47 := (f_M_passNumber nx p0 (k4 - r44) 32 st).2
          let x48 := (r44 + r47)
          if k3 = 0 then
            (x48, u47)
          else
            if x48 = 0 then
              ((-2147483648), u47)
            else
              ((ineg x48), u47)
        else
          if k5 = 4 then
            let r37 := f_M_leastOf  k5 
            let r40 := (f_M_passNumber nx p0 (k4 - r37) 12 st).1
            let u40 := (f_M_passNumber nx p0 (k4 - r37) 12 st).2
            let x41 := (r37 + r40)
            if k3 = 0 then
              (x41, u40)
            else
              if x41 = 0 then
                ((-2147483648), u40)
              else
                ((ineg x41), u40)
          else
            let x29 := (2 + (2 * k5))
            let r30 := f_M_leastOf  k5 
            let r33 := (f_M_passNumber nx p0 (k4 - r30) x29 st).1
            let u33 := (f_M_passNumber nx p0 (k4 - r30) x29 st).2
            let x34 := (r30 + r33)
            if k3 = 0 then
              (x34, u33)
            else
              if x34 = 0 then
                ((-2147483648), u33)
              else
                ((ineg x34), u33)
      else
        let r51 := f_M_leastOf  (k5 + 1) 
        if k4 < r51 then
          let r54 := (f_M_pass nx p0 0 st).1
          let u54 := (f_M_pass nx p0 0 st).2
          if r54 = 1 then
            let x56 := (k5 + 1)
            g_M_passWhole nx p0 p1 n u54 k3 k4 x56 true
          else
            g_M_passWhole nx p0 p1 n u54 k3 k4 k5 false
        else
          let r58 := (f_M_pass nx p0 1 st).1
          let u58 := (f_M_pass nx p0 1 st).2
          if r58 = 1 then
            let x60 := (k5 + 1)
            g_M_passWhole nx p0 p1 n u58 k3 k4 x60 true
          else
            g_M_passWhole nx p0 p1 n u58 k3 k4 k5 false
theorem g_M_passWhole_s (nx : Nat) (p0 : Int32) (p1 : Int32) (n : Nat) (st : MS) (k3 : Int32) (k4 : Int32) (k5 : Int32) (b6 : Bool) : g_M_passWhole nx p0 p1 (n + 1) st k3 k4 k5 b6 = ((
    if bI b6 = 0 then
      if k5 = 5 then
        let r19 := f_M_leastOf  k5 
        let r22 := (f_M_passNumber nx p0 (k4 - r19) 32 st).1
        let u22 := (f_M_passNumber nx p0 (k4 - r19) 32 st).2
        let x23 := (r19 + r22)
        if k3 = 0 then
          (x23, u22)
        else
          if x23 = 0 then
            ((-2147483648), u22)
          else
            ((ineg x23), u22)
      else
        if k5 = 4 then
          let r12 := f_M_leastOf  k5 
          let r15 := (f_M_passNumber nx p0 (k4 - r12) 12 st).1
          let u15 := (f_M_passNumber nx p0 (k4 - r12) 12 st).2
          let x16 := (r12 + r15)
          if k3 = 0 then
            (x16, u15)
          else
            if x16 = 0 then
              ((-2147483648), u15)
            else
              ((ineg x16), u15)
        else
          let x4 := (2 + (2 * k5))
          let r5 := f_M_leastOf  k5 
          let r8 := (f_M_passNumber nx p0 (k4 - r5) x4 st).1
          let u8 := (f_M_passNumber nx p0 (k4 - r5) x4 st).2
          let x9 := (r5 + r8)
          if k3 = 0 then
            (x9, u8)
          else
            if x9 = 0 then
              ((-2147483648), u8)
            else
              ((ineg x9), u8)
    else
      if 5 ≤ k5 then
        if k5 = 5 then
          let r44 := f_M_leastOf  k5 
          let r47 := (f_M_passNumber nx p0 (k4 - r44) 32 st).1
          let u47 := (f_M_passNumber nx p0 (k4 - r44) 32 st).2
          let x48 := (r44 + r47)
          if k3 = 0 then
            (x48, u47)
          else
            if x48 = 0 then
              ((-2147483648), u47)
            else
              ((ineg x48), u47)
        else
          if k5 = 4 then
            let r37 := f_M_leastOf  k5 
            let r40 := (f_M_passNumber nx p0 (k4 - r37) 12 st).1
            let u40 := (f_M_passNumber nx p0 (k4 - r37) 12 st).2
            let x41 := (r37 + r40)
            if k3 = 0 then
              (x41, u40)
            else
              if x41 = 0 then
                ((-2147483648), u40)
              else
                ((ineg x41), u40)
          else
            let x29 := (2 + (2 * k5))
            let r30 := f_M_leastOf  k5 
            let r33 := (f_M_passNumber nx p0 (k4 - r30) x29 st).1
            let u33 := (f_M_passNumber nx p0 (k4 - r30) x29 st).2
            let x34 := (r30 + r33)
            if k3 = 0 then
              (x34, u33)
            else
              if x34 = 0 then
                ((-2147483648), u33)
              else
                ((ineg x34), u33)
      else
        let r51 := f_M_leastOf  (k5 + 1) 
        if k4 < r51 then
          let r54 := (f_M_pass nx p0 0 st).1
          let u54 := (f_M_pass nx p0 0 st).2
          if r54 = 1 then
            let x56 := (k5 + 1)
            g_M_passWhole nx p0 p1 n u54 k3 k4 x56 true
          else
            g_M_passWhole nx p0 p1 n u54 k3 k4 k5 false
        else
          let r58 := (f_M_pass nx p0 1 st).1
          let u58 := (f_M_pass nx p0 1 st).2
          if r58 = 1 then
            let x60 := (k5 + 1)
            g_M_passWhole nx p0 p1 n u58 k3 k4 x60 true
          else
            g_M_passWhole nx p0 p1 n u58 k3 k4 k5 false
  : Int32 × (MS))) := rfl
def kl_M_passWhole (nx : Nat) (p0 : Int32) (p1 : Int32) : Nat → (MS) → Int32 → Int32 → Int32 → Bool → Prop
  | 0, st, k3, k4, k5, b6 => False
  | n + 1, st, k3, k4, k5, b6 => ((bI b6 = 0) → ((k5 = 5) → (∀ r19, r19 = f_M_leastOf  k5  → (k_M_passNumber nx p0 (k4 - r19) 32 st) ∧ ((∀ r22, r22 = (f_M_passNumber nx p0 (k4 - r19) 32 st).1 → (∀ u22, u22 = (f_M_passNumber nx p0 (k4 - r19) 32 st).2 → (∀ x23, x23 = (r19 + r22) → ((k3 = 0) → True) ∧ (¬ (k3 = 0) → ((x23 = 0) → True) ∧ (¬ (x23 = 0) → True)))))))) ∧ (¬ (k5 = 5) → ((k5 = 4) → (∀ r12, r12 = f_M_leastOf  k5  → (k_M_passNumber nx p0 (k4 - r12) 12 st) ∧ ((∀ r15, r15 = (f_M_passNumber nx p0 (k4 - r12) 12 st).1 → (∀ u15, u15 = (f_M_passNumber nx p0 (k4 - r12) 12 st).2 → (∀ x16, x16 = (r12 + r15) → ((k3 = 0) → True) ∧ (¬ (k3 = 0) → ((x16 = 0) → True) ∧ (¬ (x16 = 0) → True)))))))) ∧ (¬ (k5 = 4) → (∀ x4, x4 = (2 + (2 * k5)) → (∀ r5, r5 = f_M_leastOf  k5  → (k_M_passNumber nx p0 (k4 - r5) x4 st) ∧ ((∀ r8, r8 = (f_M_passNumber nx p0 (k4 - r5) x4 st).1 → (∀ u8, u8 = (f_M_passNumber nx p0 (k4 - r5) x4 st).2 → (∀ x9, x9 = (r5 + r8) → ((k3 = 0) → True) ∧ (¬ (k3 = 0) → ((x9 = 0) → True) ∧ (¬ (x9 = 0) → True))))))))))) ∧ (¬ (bI b6 = 0) → ((5 ≤ k5) → ((k5 = 5) → (∀ r44, r44 = f_M_leastOf  k5  → (k_M_passNumber nx p0 (k4 - r44) 32 st) ∧ ((∀ r47, r47 = (f_M_passNumber nx p0 (k4 - r44) 32 st).1 → (∀ u47, u47 = (f_M_passNumber nx p0 (k4 - r44) 32 st).2 → (∀ x48, x48 = (r44 + r47) → ((k3 = 0) → True) ∧ (¬ (k3 = 0) → ((x48 = 0) → True) ∧ (¬ (x48 = 0) → True)))))))) ∧ (¬ (k5 = 5) → ((k5 = 4) → (∀ r37, r37 = f_M_leastOf  k5  → (k_M_passNumber nx p0 (k4 - r37) 12 st) ∧ ((∀ r40, r40 = (f_M_passNumber nx p0 (k4 - r37) 12 st).1 → (∀ u40, u40 = (f_M_passNumber nx p0 (k4 - r37) 12 st).2 → (∀ x41, x41 = (r37 + r40) → ((k3 = 0) → True) ∧ (¬ (k3 = 0) → ((x41 = 0) → True) ∧ (¬ (x41 = 0) → True)))))))) ∧ (¬ (k5 = 4) → (∀ x29, x29 = (2 + (2 * k5)) → (∀ r30, r30 = f_M_leastOf  k5  → (k_M_passNumber nx p0 (k4 - r30) x29 st) ∧ ((∀ r33, r33 = (f_M_passNumber nx p0 (k4 - r30) x29 st).1 → (∀ u33, u33 = (f_M_passNumber nx p0 (k4 - r30) x29 st).2 → (∀ x34, x34 = (r30 + r33) → ((k3 = 0) → True) ∧ (¬ (k3 = 0) → ((x34 = 0) → True) ∧ (¬ (x34 = 0) → True))))))))))) ∧ (¬ (5 ≤ k5) → (∀ r51, r51 = f_M_leastOf  (k5 + 1)  → ((k4 < r51) → (k_M_pass nx p0 0 st) ∧ ((∀ r54, r54 = (f_M_pass nx p0 0 st).1 → (∀ u54, u54 = (f_M_pass nx p0 0 st).2 → ((r54 = 1) → (∀ x56, x56 = (k5 + 1) → kl_M_passWhole nx p0 p1 n u54 k3 k4 x56 true)) ∧ (¬ (r54 = 1) → kl_M_passWhole nx p0 p1 n u54 k3 k4 k5 false))))) ∧ (¬ (k4 < r51) → (k_M_pass nx p0 1 st) ∧ ((∀ r58, r58 = (f_M_pass nx p0 1 st).1 → (∀ u58, u58 = (f_M_pass nx p0 1 st).2 → ((r58 = 1) → (∀ x60, x60 = (k5 + 1) → kl_M_passWhole nx p0 p1 n u58 k3 k4 x60 true)) ∧ (¬ (r58 = 1) → kl_M_passWhole nx p0 p1 n u58 k3 k4 k5 false))))))))
theorem kl_M_passWhole_s (nx : Nat) (p0 : Int32) (p1 : Int32) (n : Nat) (st : MS) (k3 : Int32) (k4 : Int32) (k5 : Int32) (b6 : Bool) : kl_M_passWhole nx p0 p1 (n + 1) st k3 k4 k5 b6 = (((bI b6 = 0) → ((k5 = 5) → (∀ r19, r19 = f_M_leastOf  k5  → (k_M_passNumber nx p0 (k4 - r19) 32 st) ∧ ((∀ r22, r22 = (f_M_passNumber nx p0 (k4 - r19) 32 st).1 → (∀ u22, u22 = (f_M_passNumber nx p0 (k4 - r19) 32 st).2 → (∀ x23, x23 = (r19 + r22) → ((k3 = 0) → True) ∧ (¬ (k3 = 0) → ((x23 = 0) → True) ∧ (¬ (x23 = 0) → True)))))))) ∧ (¬ (k5 = 5) → ((k5 = 4) → (∀ r12, r12 = f_M_leastOf  k5  → (k_M_passNumber nx p0 (k4 - r12) 12 st) ∧ ((∀ r15, r15 = (f_M_passNumber nx p0 (k4 - r12) 12 st).1 → (∀ u15, u15 = (f_M_passNumber nx p0 (k4 - r12) 12 st).2 → (∀ x16, x16 = (r12 + r15) → ((k3 = 0) → True) ∧ (¬ (k3 = 0) → ((x16 = 0) → True) ∧ (¬ (x16 = 0) → True)))))))) ∧ (¬ (k5 = 4) → (∀ x4, x4 = (2 + (2 * k5)) → (∀ r5, r5 = f_M_leastOf  k5  → (k_M_passNumber nx p0 (k4 - r5) x4 st) ∧ ((∀ r8, r8 = (f_M_passNumber nx p0 (k4 - r5) x4 st).1 → (∀ u8, u8 = (f_M_passNumber nx p0 (k4 - r5) x4 st).2 → (∀ x9, x9 = (r5 + r8) → ((k3 = 0) → True) ∧ (¬ (k3 = 0) → ((x9 = 0) → True) ∧ (¬ (x9 = 0) → True))))))))))) ∧ (¬ (bI b6 = 0) → ((5 ≤ k5) → ((k5 = 5) → (∀ r44, r44 = f_M_leastOf  k5  → (k_M_passNumber nx p0 (k4 - r44) 32 st) ∧ ((∀ r47, r47 = (f_M_passNumber nx p0 (k4 - r44) 32 st).1 → (∀ u47, u47 = (f_M_passNumber nx p0 (k4 - r44) 32 st).2 → (∀ x48, x48 = (r44 + r47) → ((k3 = 0) → True) ∧ (¬ (k3 = 0) → ((x48 = 0) → True) ∧ (¬ (x48 = 0) → True)))))))) ∧ (¬ (k5 = 5) → ((k5 = 4) → (∀ r37, r37 = f_M_leastOf  k5  → (k_M_passNumber nx p0 (k4 - r37) 12 st) ∧ ((∀ r40, r40 = (f_M_passNumber nx p0 (k4 - r37) 12 st).1 → (∀ u40, u40 = (f_M_passNumber nx p0 (k4 - r37) 12 st).2 → (∀ x41, x41 = (r37 + r40) → ((k3 = 0) → True) ∧ (¬ (k3 = 0) → ((x41 = 0) → True) ∧ (¬ (x41 = 0) → True)))))))) ∧ (¬ (k5 = 4) → (∀ x29, x29 = (2 + (2 * k5)) → (∀ r30, r30 = f_M_leastOf  k5  → (k_M_passNumber nx p0 (k4 - r30) x29 st) ∧ ((∀ r33, r33 = (f_M_passNumber nx p0 (k4 - r30) x29 st).1 → (∀ u33, u33 = (f_M_passNumber nx p0 (k4 - r30) x29 st).2 → (∀ x34, x34 = (r30 + r33) → ((k3 = 0) → True) ∧ (¬ (k3 = 0) → ((x34 = 0) → True) ∧ (¬ (x34 = 0) → True))))))))))) ∧ (¬ (5 ≤ k5) → (∀ r51, r51 = f_M_leastOf  (k5 + 1)  → ((k4 < r51) → (k_M_pass nx p0 0 st) ∧ ((∀ r54, r54 = (f_M_pass nx p0 0 st).1 → (∀ u54, u54 = (f_M_pass nx p0 0 st).2 → ((r54 = 1) → (∀ x56, x56 = (k5 + 1) → kl_M_passWhole nx p0 p1 n u54 k3 k4 x56 true)) ∧ (¬ (r54 = 1) → kl_M_passWhole nx p0 p1 n u54 k3 k4 k5 false))))) ∧ (¬ (k4 < r51) → (k_M_pass nx p0 1 st) ∧ ((∀ r58, r58 = (f_M_pass nx p0 1 st).1 → (∀ u58, u58 = (f_M_pass nx p0 1 st).2 → ((r58 = 1) → (∀ x60, x60 = (k5 + 1) → kl_M_passWhole nx p0 p1 n u58 k3 k4 x60 true)) ∧ (¬ (r58 = 1) → kl_M_passWhole nx p0 p1 n u58 k3 k4 k5 false))))))))) := rfl
set_option maxHeartbeats 4000000 in
set_option maxRecDepth 100000 in
theorem lp_M_passWhole {p : Program} {e : Env} {s : State} {m : MethodId} {below : List Frame} {meth : Method} {c : Code} (l : Launch) (E : Ev) (A : Nat → Prop) (mo mc sv sa wr bt s1 s2 s3 nx : Nat) (p0 : Int32) (p1 : Int32)  (hx : p.tables.exec = Jvm.exec) (hb : c.code = b_M_passWhole) (hml : c.maxLocals = 9) (hown : s.vm.findClass (y_M_passWhole).cls = some m.cls) (hts : ∀ w ∈ TT, w.before ([.ref mo, .int p0, .int p1] : List Value).toArray s = true) (hr : meth.sig.returnType = (some .int)) (hlocks : meth.locks = false) (hA : ∀ q, s.heap.size ≤ q → A q) (hZ : ZT E A s s.heap) (hK : va_K E.1 classes (Ty E) s) :
    ∀ (n : Nat) (st : MS) (k3 : Int32) (k4 : Int32) (k5 : Int32) (b6 : Bool) (H : Heap) (locs : List Loc) (ls : Array Slot), kl_M_passWhole nx p0 p1 n st k3 k4 k5 b6 → va_P E.1 classes [(mo, .inr (5, [.ref s1, .ref s2, .ref s3, .int st.1.1, .int (nI nx), .ref mc, .int st.1.2.1, .ref sv, .int st.1.2.2.1, .ref sa, .ref wr, .int st.1.2.2.2.1, .ref bt, .int (bI st.1.2.2.2.2.1), .int st.1.2.2.2.2.2.1, .int st.1.2.2.2.2.2.2.1, .int st.1.2.2.2.2.2.2.2.1, .int st.1.2.2.2.2.2.2.2.2.1, .int st.1.2.2.2.2.2.2.2.2.2.1, .int st.1.2.2.2.2.2.2.2.2.2.2.1, .int st.1.2.2.2.2.2.2.2.2.2.2.2.1, .int st.1.2.2.2.2.2.2.2.2.2.2.2.2.1, .long st.1.2.2.2.2.2.2.2.2.2.2.2.2.2.1, .int st.1.2.2.2.2.2.2.2.2.2.2.2.2.2.2.1, .int st.1.2.2.2.2.2.2.2.2.2.2.2.2.2.2.2.1, .int st.1.2.2.2.2.2.2.2.2.2.2.2.2.2.2.2.2.1, .int (bI st.1.2.2.2.2.2.2.2.2.2.2.2.2.2.2.2.2.2.1), .int st.1.2.2.2.2.2.2.2.2.2.2.2.2.2.2.2.2.2.2.1, .int st.1.2.2.2.2.2.2.2.2.2.2.2.2.2.2.2.2.2.2.2])), (mc, .inl (E.2.1 0, 139264, .inl st.2.1)), (sv, .inl (E.2.1 0, 393216, .inl st.2.2.1)), (sa, .inl (E.2.1 0, 1100, .inl st.2.2.2.1)), (wr, .inl (E.2.1 1, 1100, .inl st.2.2.2.2.1)), (bt, .inl (E.2.1 0, 120000, .inl st.2.2.2.2.2)), (s1, .inl (E.2.1 0, 47, .inl (zF 0))), (s2, .inl (E.2.1 0, 47, .inl (zF 1))), (s3, .inl (E.2.1 0, 47, .inl (zF 2)))] H → va_D A [(mo, .inr (5, [.ref s1, .ref s2, .ref s3, .int st.1.1, .int (nI nx), .ref mc, .int st.1.2.1, .ref sv, .int st.1.2.2.1, .ref sa, .ref wr, .int st.1.2.2.2.1, .ref bt, .int (bI st.1.2.2.2.2.1), .int st.1.2.2.2.2.2.1, .int st.1.2.2.2.2.2.2.1, .int st.1.2.2.2.2.2.2.2.1, .int st.1.2.2.2.2.2.2.2.2.1, .int st.1.2.2.2.2.2.2.2.2.2.1, .int st.1.2.2.2.2.2.2.2.2.2.2.1, .int st.1.2.2.2.2.2.2.2.2.2.2.2.1, .int st.1.2.2.2.2.2.2.2.2.2.2.2.2.1, .long st.1.2.2.2.2.2.2.2.2.2.2.2.2.2.1, .int st.1.2.2.2.2.2.2.2.2.2.2.2.2.2.2.1, .int st.1.2.2.2.2.2.2.2.2.2.2.2.2.2.2.2.1, .int st.1.2.2.2.2.2.2.2.2.2.2.2.2.2.2.2.2.1, .int (bI st.1.2.2.2.2.2.2.2.2.2.2.2.2.2.2.2.2.2.1), .int st.1.2.2.2.2.2.2.2.2.2.2.2.2.2.2.2.2.2.2.1, .int st.1.2.2.2.2.2.2.2.2.2.2.2.2.2.2.2.2.2.2.2])), (mc, .inl (E.2.1 0, 139264, .inl st.2.1)), (sv, .inl (E.2.1 0, 393216, .inl st.2.2.1)), (sa, .inl (E.2.1 0, 1100, .inl st.2.2.2.1)), (wr, .inl (E.2.1 1, 1100, .inl st.2.2.2.2.1)), (bt, .inl (E.2.1 0, 120000, .inl st.2.2.2.2.2)), (s1, .inl (E.2.1 0, 47, .inl (zF 0))), (s2, .inl (E.2.1 0, 47, .inl (zF 1))), (s3, .inl (E.2.1 0, 47, .inl (zF 2)))] → va_S A s.heap H locs → lv_has ls 9 [(0, .ref mo), (1, .int p0), (2, .int p1), (3, .int k3), (4, .int k4), (5, .int k5), (6, .int (bI b6))] →
      W p l e (ar_rm 6 0 0) s m ([.ref mo, .int p0, .int p1] : List Value).toArray below meth c H locs 0 0 (MQ below (va_Qi (fun (r : Int32) (u : MS) => r = (g_M_passWhole nx p0 p1 n st k3 k4 k5 b6).1 ∧ u = (g_M_passWhole nx p0 p1 n st k3 k4 k5 b6).2) (ar_W E A (fun u : MS => [(mo, .inr (5, [.ref s1, .ref s2, .ref s3, .int u.1.1, .int (nI nx), .ref mc, .int u.1.2.1, .ref sv, .int u.1.2.2.1, .ref sa, .ref wr, .int u.1.2.2.2.1, .ref bt, .int (bI u.1.2.2.2.2.1), .int u.1.2.2.2.2.2.1, .int u.1.2.2.2.2.2.2.1, .int u.1.2.2.2.2.2.2.2.1, .int u.1.2.2.2.2.2.2.2.2.1, .int u.1.2.2.2.2.2.2.2.2.2.1, .int u.1.2.2.2.2.2.2.2.2.2.2.1, .int u.1.2.2.2.2.2.2.2.2.2.2.2.1, .int u.1.2.2.2.2.2.2.2.2.2.2.2.2.1, .long u.1.2.2.2.2.2.2.2.2.2.2.2.2.2.1, .int u.1.2.2.2.2.2.2.2.2.2.2.2.2.2.2.1, .int u.1.2.2.2.2.2.2.2.2.2.2.2.2.2.2.2.1, .int u.1.2.2.2.2.2.2.2.2.2.2.2.2.2.2.2.2.1, .int (bI u.1.2.2.2.2.2.2.2.2.2.2.2.2.2.2.2.2.2.1), .int u.1.2.2.2.2.2.2.2.2.2.2.2.2.2.2.2.2.2.2.1, .int u.1.2.2.2.2.2.2.2.2.2.2.2.2.2.2.2.2.2.2.2])), (mc, .inl (E.2.1 0, 139264, .inl u.2.1)), (sv, .inl (E.2.1 0, 393216, .inl u.2.2.1)), (sa, .inl (E.2.1 0, 1100, .inl u.2.2.2.1)), (wr, .inl (E.2.1 1, 1100, .inl u.2.2.2.2.1)), (bt, .inl (E.2.1 0, 120000, .inl u.2.2.2.2.2)), (s1, .inl (E.2.1 0, 47, .inl (zF 0))), (s2, .inl (E.2.1 0, 47, .inl (zF 1))), (s3, .inl (E.2.1 0, 47, .inl (zF 2)))])) A) ([.ref mo, .int p0, .int p1] : List Value).toArray s 0 0 A) (F0 m 62 ls []) := by
  intro n
  induction n with
  | zero => intro st k3 k4 k5 b6 H locs ls hok; exact hok.elim
  | succ n ih =>
    intro st k3 k4 k5 b6 H locs ls hok hP hD hS hl
    rw [kl_M_passWhole_s] at hok
    refine lv_iload hx hb d_M_passWhole_62 (lv_at hl 6 rfl) ?_
    refine lv_if_eq (tgt := 125) hx hb d_M_passWhole_64 (by decide) (fun c1 => ?_) (fun c1 => ?_)
    · replace hok := hok.1 c1
      refine lv_iload hx hb d_M_passWhole_125 (lv_at hl 5 rfl) ?_
      refine lv_iconst (v := 5) hx hb d_M_passWhole_127 (by decide) ?_
      refine lv_icmp_ne (tgt := 136) hx hb d_M_passWhole_128 (by decide) (fun c2 => ?_) (fun c2 => ?_)
      · replace hok := hok.2 c2
        refine lv_iload hx hb d_M_passWhole_136 (lv_at hl 5 rfl) ?_
        refine lv_iconst (v := 4) hx hb d_M_passWhole_138 (by decide) ?_
        refine lv_icmp_ne (tgt := 147) hx hb d_M_passWhole_139 (by decide) (fun c3 => ?_) (fun c3 => ?_)
        · replace hok := hok.2 c3
          refine lv_iconst (v := 2) hx hb d_M_passWhole_147 (by decide) ?_
          refine lv_iconst (v := 2) hx hb d_M_passWhole_148 (by decide) ?_
          refine lv_iload hx hb d_M_passWhole_149 (lv_at hl 5 rfl) ?_
          refine lv_imul hx hb d_M_passWhole_151 ?_
          refine lv_iadd hx hb d_M_passWhole_152 ?_
          refine lv_topi (fun x4 ex4 => ?_)
          replace hok := hok x4 ex4
          refine lv_istore (lv' := [(7, .int x4), (0, .ref mo), (1, .int p0), (2, .int p1), (3, .int k3), (4, .int k4), (5, .int k5), (6, .int (bI b6))]) hx hb d_M_passWhole_153 hl (by decide) rfl (fun ls hl => ?_)
          refine lv_iload hx hb d_M_passWhole_155 (lv_at hl 6 rfl) ?_
          refine ar_usei (wr := [(mo, .inr (5, [.ref s1, .ref s2, .ref s3, .int st.1.1, .int (nI nx), .ref mc, .int st.1.2.1, .ref sv, .int st.1.2.2.1, .ref sa, .ref wr, .int st.1.2.2.2.1, .ref bt, .int (bI st.1.2.2.2.2.1), .int st.1.2.2.2.2.2.1, .int st.1.2.2.2.2.2.2.1, .int st.1.2.2.2.2.2.2.2.1, .int st.1.2.2.2.2.2.2.2.2.1, .int st.1.2.2.2.2.2.2.2.2.2.1, .int st.1.2.2.2.2.2.2.2.2.2.2.1, .int st.1.2.2.2.2.2.2.2.2.2.2.2.1, .int st.1.2.2.2.2.2.2.2.2.2.2.2.2.1, .long st.1.2.2.2.2.2.2.2.2.2.2.2.2.2.1, .int st.1.2.2.2.2.2.2.2.2.2.2.2.2.2.2.1, .int st.1.2.2.2.2.2.2.2.2.2.2.2.2.2.2.2.1, .int st.1.2.2.2.2.2.2.2.2.2.2.2.2.2.2.2.2.1, .int (bI st.1.2.2.2.2.2.2.2.2.2.2.2.2.2.2.2.2.2.1), .int st.1.2.2.2.2.2.2.2.2.2.2.2.2.2.2.2.2.2.2.1, .int st.1.2.2.2.2.2.2.2.2.2.2.2.2.2.2.2.2.2.2.2])), (mc, .inl (E.2.1 0, 139264, .inl st.2.1)), (sv, .inl (E.2.1 0, 393216, .inl st.2.2.1)), (sa, .inl (E.2.1 0, 1100, .inl st.2.2.2.1)), (wr, .inl (E.2.1 1, 1100, .inl st.2.2.2.2.1)), (bt, .inl (E.2.1 0, 120000, .inl st.2.2.2.2.2)), (s1, .inl (E.2.1 0, 47, .inl (zF 0))), (s2, .inl (E.2.1 0, 47, .inl (zF 1))), (s3, .inl (E.2.1 0, 47, .inl (zF 2)))]) hP hD hS hA [] [0, 1, 2, 3, 4, 5, 6, 7, 8] rfl rfl rfl (by decide) (ar_runS (n := 1) (As := [.int k5]) (rest := []) hx hb hml hown hts hP hD hS hA hK hZ (c_M_leastOf l E _   k5 ) m_826 m_827 m_7 m_828 (by decide +kernel) ⟨Nat.le_of_ble_eq_true rfl, Nat.le_of_ble_eq_true rfl⟩ [] rfl rfl rfl rfl hl.1 rfl (Nat.le_of_ble_eq_true rfl) d_M_passWhole_157 ⟨Nat.le_of_ble_eq_true rfl, Nat.le_of_ble_eq_true rfl⟩) (fun r5 _ Hn locsn hw5 hPn hDn hSn => ?_)
          replace hok := hok r5 hw5
          clear hP hD hS
          have hP : va_P E.1 classes [(mo, .inr (5, [.ref s1, .ref s2, .ref s3, .int st.1.1, .int (nI nx), .ref mc, .int st.1.2.1, .ref sv, .int st.1.2.2.1, .ref sa, .ref wr, .int st.1.2.2.2.1, .ref bt, .int (bI st.1.2.2.2.2.1), .int st.1.2.2.2.2.2.1, .int st.1.2.2.2.2.2.2.1, .int st.1.2.2.2.2.2.2.2.1, .int st.1.2.2.2.2.2.2.2.2.1, .int st.1.2.2.2.2.2.2.2.2.2.1, .int st.1.2.2.2.2.2.2.2.2.2.2.1, .int st.1.2.2.2.2.2.2.2.2.2.2.2.1, .int st.1.2.2.2.2.2.2.2.2.2.2.2.2.1, .long st.1.2.2.2.2.2.2.2.2.2.2.2.2.2.1, .int st.1.2.2.2.2.2.2.2.2.2.2.2.2.2.2.1, .int st.1.2.2.2.2.2.2.2.2.2.2.2.2.2.2.2.1, .int st.1.2.2.2.2.2.2.2.2.2.2.2.2.2.2.2.2.1, .int (bI st.1.2.2.2.2.2.2.2.2.2.2.2.2.2.2.2.2.2.1), .int st.1.2.2.2.2.2.2.2.2.2.2.2.2.2.2.2.2.2.2.1, .int st.1.2.2.2.2.2.2.2.2.2.2.2.2.2.2.2.2.2.2.2])), (mc, .inl (E.2.1 0, 139264, .inl st.2.1)), (sv, .inl (E.2.1 0, 393216, .inl st.2.2.1)), (sa, .inl (E.2.1 0, 1100, .inl st.2.2.2.1)), (wr, .inl (E.2.1 1, 1100, .inl st.2.2.2.2.1)), (bt, .inl (E.2.1 0, 120000, .inl st.2.2.2.2.2)), (s1, .inl (E.2.1 0, 47, .inl (zF 0))), (s2, .inl (E.2.1 0, 47, .inl (zF 1))), (s3, .inl (E.2.1 0, 47, .inl (zF 2)))] Hn := hPn
          have hD : va_D A [(mo, .inr (5, [.ref s1, .ref s2, .ref s3, .int st.1.1, .int (nI nx), .ref mc, .int st.1.2.1, .ref sv, .int st.1.2.2.1, .ref sa, .ref wr, .int st.1.2.2.2.1, .ref bt, .int (bI st.1.2.2.2.2.1), .int st.1.2.2.2.2.2.1, .int st.1.2.2.2.2.2.2.1, .int st.1.2.2.2.2.2.2.2.1, .int st.1.2.2.2.2.2.2.2.2.1, .int st.1.2.2.2.2.2.2.2.2.2.1, .int st.1.2.2.2.2.2.2.2.2.2.2.1, .int st.1.2.2.2.2.2.2.2.2.2.2.2.1, .int st.1.2.2.2.2.2.2.2.2.2.2.2.2.1, .long st.1.2.2.2.2.2.2.2.2.2.2.2.2.2.1, .int st.1.2.2.2.2.2.2.2.2.2.2.2.2.2.2.1, .int st.1.2.2.2.2.2.2.2.2.2.2.2.2.2.2.2.1, .int st.1.2.2.2.2.2.2.2.2.2.2.2.2.2.2.2.2.1, .int (bI st.1.2.2.2.2.2.2.2.2.2.2.2.2.2.2.2.2.2.1), .int st.1.2.2.2.2.2.2.2.2.2.2.2.2.2.2.2.2.2.2.1, .int st.1.2.2.2.2.2.2.2.2.2.2.2.2.2.2.2.2.2.2.2])), (mc, .inl (E.2.1 0, 139264, .inl st.2.1)), (sv, .inl (E.2.1 0, 393216, .inl st.2.2.1)), (sa, .inl (E.2.1 0, 1100, .inl st.2.2.2.1)), (wr, .inl (E.2.1 1, 1100, .inl st.2.2.2.2.1)), (bt, .inl (E.2.1 0, 120000, .inl st.2.2.2.2.2)), (s1, .inl (E.2.1 0, 47, .inl (zF 0))), (s2, .inl (E.2.1 0, 47, .inl (zF 1))), (s3, .inl (E.2.1 0, 47, .inl (zF 2)))] := hDn
          have hS := hSn
          clear hPn hDn hSn
          refine lv_aload_n hx hb d_M_passWhole_160 rfl (lv_at hl 1 rfl) ?_
          refine lv_iload_n hx hb d_M_passWhole_161 rfl (lv_at hl 2 rfl) ?_
          refine lv_iload hx hb d_M_passWhole_162 (lv_at hl 5 rfl) ?_
          refine lv_iload hx hb d_M_passWhole_164 (lv_at hl 6 rfl) ?_
          refine ar_usei (wr := [(mo, .inr (5, [.ref s1, .ref s2, .ref s3, .int st.1.1, .int (nI nx), .ref mc, .int st.1.2.1, .ref sv, .int st.1.2.2.1, .ref sa, .ref wr, .int st.1.2.2.2.1, .ref bt, .int (bI st.1.2.2.2.2.1), .int st.1.2.2.2.2.2.1, .int st.1.2.2.2.2.2.2.1, .int st.1.2.2.2.2.2.2.2.1, .int st.1.2.2.2.2.2.2.2.2.1, .int st.1.2.2.2.2.2.2.2.2.2.1, .int st.1.2.2.2.2.2.2.2.2.2.2.1, .int st.1.2.2.2.2.2.2.2.2.2.2.2.1, .int st.1.2.2.2.2.2.2.2.2.2.2.2.2.1, .long st.1.2.2.2.2.2.2.2.2.2.2.2.2.2.1, .int st.1.2.2.2.2.2.2.2.2.2.2.2.2.2.2.1, .int st.1.2.2.2.2.2.2.2.2.2.2.2.2.2.2.2.1, .int st.1.2.2.2.2.2.2.2.2.2.2.2.2.2.2.2.2.1, .int (bI st.1.2.2.2.2.2.2.2.2.2.2.2.2.2.2.2.2.2.1), .int st.1.2.2.2.2.2.2.2.2.2.2.2.2.2.2.2.2.2.2.1, .int st.1.2.2.2.2.2.2.2.2.2.2.2.2.2.2.2.2.2.2.2])), (mc, .inl (E.2.1 0, 139264, .inl st.2.1)), (sv, .inl (E.2.1 0, 393216, .inl st.2.2.1)), (sa, .inl (E.2.1 0, 1100, .inl st.2.2.2.1)), (wr, .inl (E.2.1 1, 1100, .inl st.2.2.2.2.1)), (bt, .inl (E.2.1 0, 120000, .inl st.2.2.2.2.2)), (s1, .inl (E.2.1 0, 47, .inl (zF 0))), (s2, .inl (E.2.1 0, 47, .inl (zF 1))), (s3, .inl (E.2.1 0, 47, .inl (zF 2)))]) hP hD hS hA [] [0, 1, 2, 3, 4, 5, 6, 7, 8] rfl rfl rfl (by decide) (ar_runS (n := 1) (As := [.int k5]) (rest := [.int k4, .int p0, .ref mo, .int r5]) hx hb hml hown hts hP hD hS hA hK hZ (c_M_leastOf l E _   k5 ) m_826 m_827 m_7 m_828 (by decide +kernel) ⟨Nat.le_of_ble_eq_true rfl, Nat.le_of_ble_eq_true rfl⟩ [] rfl rfl rfl rfl hl.1 rfl (Nat.le_of_ble_eq_true rfl) d_M_passWhole_166 ⟨Nat.le_of_ble_eq_true rfl, Nat.le_of_ble_eq_true rfl⟩) (fun r6 _ Hn locsn hw6 hPn hDn hSn => ?_)
          rw [← hw5] at hw6
          subst r6
          clear hP hD hS
          have hP : va_P E.1 classes [(mo, .inr (5, [.ref s1, .ref s2, .ref s3, .int st.1.1, .int (nI nx), .ref mc, .int st.1.2.1, .ref sv, .int st.1.2.2.1, .ref sa, .ref wr, .int st.1.2.2.2.1, .ref bt, .int (bI st.1.2.2.2.2.1), .int st.1.2.2.2.2.2.1, .int st.1.2.2.2.2.2.2.1, .int st.1.2.2.2.2.2.2.2.1, .int st.1.2.2.2.2.2.2.2.2.1, .int st.1.2.2.2.2.2.2.2.2.2.1, .int st.1.2.2.2.2.2.2.2.2.2.2.1, .int st.1.2.2.2.2.2.2.2.2.2.2.2.1, .int st.1.2.2.2.2.2.2.2.2.2.2.2.2.1, .long st.1.2.2.2.2.2.2.2.2.2.2.2.2.2.1, .int st.1.2.2.2.2.2.2.2.2.2.2.2.2.2.2.1, .int st.1.2.2.2.2.2.2.2.2.2.2.2.2.2.2.2.1, .int st.1.2.2.2.2.2.2.2.2.2.2.2.2.2.2.2.2.1, .int (bI st.1.2.2.2.2.2.2.2.2.2.2.2.2.2.2.2.2.2.1), .int st.1.2.2.2.2.2.2.2.2.2.2.2.2.2.2.2.2.2.2.1, .int st.1.2.2.2.2.2.2.2.2.2.2.2.2.2.2.2.2.2.2.2])), (mc, .inl (E.2.1 0, 139264, .inl st.2.1)), (sv, .inl (E.2.1 0, 393216, .inl st.2.2.1)), (sa, .inl (E.2.1 0, 1100, .inl st.2.2.2.1)), (wr, .inl (E.2.1 1, 1100, .inl st.2.2.2.2.1)), (bt, .inl (E.2.1 0, 120000, .inl st.2.2.2.2.2)), (s1, .inl (E.2.1 0, 47, .inl (zF 0))), (s2, .inl (E.2.1 0, 47, .inl (zF 1))), (s3, .inl (E.2.1 0, 47, .inl (zF 2)))] Hn := hPn
          have hD : va_D A [(mo, .inr (5, [.ref s1, .ref s2, .ref s3, .int st.1.1, .int (nI nx), .ref mc, .int st.1.2.1, .ref sv, .int st.1.2.2.1, .ref sa, .ref wr, .int st.1.2.2.2.1, .ref bt, .int (bI st.1.2.2.2.2.1), .int st.1.2.2.2.2.2.1, .int st.1.2.2.2.2.2.2.1, .int st.1.2.2.2.2.2.2.2.1, .int st.1.2.2.2.2.2.2.2.2.1, .int st.1.2.2.2.2.2.2.2.2.2.1, .int st.1.2.2.2.2.2.2.2.2.2.2.1, .int st.1.2.2.2.2.2.2.2.2.2.2.2.1, .int st.1.2.2.2.2.2.2.2.2.2.2.2.2.1, .long st.1.2.2.2.2.2.2.2.2.2.2.2.2.2.1, .int st.1.2.2.2.2.2.2.2.2.2.2.2.2.2.2.1, .int st.1.2.2.2.2.2.2.2.2.2.2.2.2.2.2.2.1, .int st.1.2.2.2.2.2.2.2.2.2.2.2.2.2.2.2.2.1, .int (bI st.1.2.2.2.2.2.2.2.2.2.2.2.2.2.2.2.2.2.1), .int st.1.2.2.2.2.2.2.2.2.2.2.2.2.2.2.2.2.2.2.1, .int st.1.2.2.2.2.2.2.2.2.2.2.2.2.2.2.2.2.2.2.2])), (mc, .inl (E.2.1 0, 139264, .inl st.2.1)), (sv, .inl (E.2.1 0, 393216, .inl st.2.2.1)), (sa, .inl (E.2.1 0, 1100, .inl st.2.2.2.1)), (wr, .inl (E.2.1 1, 1100, .inl st.2.2.2.2.1)), (bt, .inl (E.2.1 0, 120000, .inl st.2.2.2.2.2)), (s1, .inl (E.2.1 0, 47, .inl (zF 0))), (s2, .inl (E.2.1 0, 47, .inl (zF 1))), (s3, .inl (E.2.1 0, 47, .inl (zF 2)))] := hDn
          have hS := hSn
          clear hPn hDn hSn
          refine lv_isub hx hb d_M_passWhole_169 ?_
          refine lv_iload hx hb d_M_passWhole_170 (lv_at hl 0 rfl) ?_
          obtain ⟨hk7, hok⟩ := hok
          refine ar_usei (wr := []) hP hD hS hA [0, 1, 2, 3, 4, 5, 6, 7, 8] [] rfl rfl rfl (by decide) (ar_runV (n := 3) (As := [.int p0, .int (k4 - r5), .int x4]) (rest := [.int r5]) (ci := 5) (q0 := 0) hx hb hml hown hts hP hD hS hA hK hZ (c_M_passNumber l E _ mo mc sv sa wr bt s1 s2 s3 nx st p0 (k4 - r5) x4 hk7) m_829 m_831 ms_41 m_7 m_832 (by decide +kernel) ⟨Nat.le_of_ble_eq_true rfl, Nat.le_of_ble_eq_true rfl⟩ [0, 1, 2, 3, 4, 5, 6, 7, 8] rfl rfl rfl rfl rfl rfl rfl hl.1 rfl (Nat.le_of_ble_eq_true rfl) d_M_passWhole_172 ⟨Nat.le_of_ble_eq_true rfl, Nat.le_of_ble_eq_true rfl⟩) (fun r8 u8 Hn locsn hw8 hPn hDn hSn => ?_)
          obtain ⟨hw8a, hw8b⟩ := hw8
          replace hok := hok r8 hw8a
          replace hok := hok u8 hw8b
          clear hP hD hS
          have hP : va_P E.1 classes [(mo, .inr (5, [.ref s1, .ref s2, .ref s3, .int u8.1.1, .int (nI nx), .ref mc, .int u8.1.2.1, .ref sv, .int u8.1.2.2.1, .ref sa, .ref wr, .int u8.1.2.2.2.1, .ref bt, .int (bI u8.1.2.2.2.2.1), .int u8.1.2.2.2.2.2.1, .int u8.1.2.2.2.2.2.2.1, .int u8.1.2.2.2.2.2.2.2.1, .int u8.1.2.2.2.2.2.2.2.2.1, .int u8.1.2.2.2.2.2.2.2.2.2.1, .int u8.1.2.2.2.2.2.2.2.2.2.2.1, .int u8.1.2.2.2.2.2.2.2.2.2.2.2.1, .int u8.1.2.2.2.2.2.2.2.2.2.2.2.2.1, .long u8.1.2.2.2.2.2.2.2.2.2.2.2.2.2.1, .int u8.1.2.2.2.2.2.2.2.2.2.2.2.2.2.2.1, .int u8.1.2.2.2.2.2.2.2.2.2.2.2.2.2.2.2.1, .int u8.1.2.2.2.2.2.2.2.2.2.2.2.2.2.2.2.2.1, .int (bI u8.1.2.2.2.2.2.2.2.2.2.2.2.2.2.2.2.2.2.1), .int u8.1.2.2.2.2.2.2.2.2.2.2.2.2.2.2.2.2.2.2.1, .int u8.1.2.2.2.2.2.2.2.2.2.2.2.2.2.2.2.2.2.2.2])), (mc, .inl (E.2.1 0, 139264, .inl u8.2.1)), (sv, .inl (E.2.1 0, 393216, .inl u8.2.2.1)), (sa, .inl (E.2.1 0, 1100, .inl u8.2.2.2.1)), (wr, .inl (E.2.1 1, 1100, .inl u8.2.2.2.2.1)), (bt, .inl (E.2.1 0, 120000, .inl u8.2.2.2.2.2)), (s1, .inl (E.2.1 0, 47, .inl (zF 0))), (s2, .inl (E.2.1 0, 47, .inl (zF 1))), (s3, .inl (E.2.1 0, 47, .inl (zF 2)))] Hn := hPn
          have hD : va_D A [(mo, .inr (5, [.ref s1, .ref s2, .ref s3, .int u8.1.1, .int (nI nx), .ref mc, .int u8.1.2.1, .ref sv, .int u8.1.2.2.1, .ref sa, .ref wr, .int u8.1.2.2.2.1, .ref bt, .int (bI u8.1.2.2.2.2.1), .int u8.1.2.2.2.2.2.1, .int u8.1.2.2.2.2.2.2.1, .int u8.1.2.2.2.2.2.2.2.1, .int u8.1.2.2.2.2.2.2.2.2.1, .int u8.1.2.2.2.2.2.2.2.2.2.1, .int u8.1.2.2.2.2.2.2.2.2.2.2.1, .int u8.1.2.2.2.2.2.2.2.2.2.2.2.1, .int u8.1.2.2.2.2.2.2.2.2.2.2.2.2.1, .long u8.1.2.2.2.2.2.2.2.2.2.2.2.2.2.1, .int u8.1.2.2.2.2.2.2.2.2.2.2.2.2.2.2.1, .int u8.1.2.2.2.2.2.2.2.2.2.2.2.2.2.2.2.1, .int u8.1.2.2.2.2.2.2.2.2.2.2.2.2.2.2.2.2.1, .int (bI u8.1.2.2.2.2.2.2.2.2.2.2.2.2.2.2.2.2.2.1), .int u8.1.2.2.2.2.2.2.2.2.2.2.2.2.2.2.2.2.2.2.1, .int u8.1.2.2.2.2.2.2.2.2.2.2.2.2.2.2.2.2.2.2.2])), (mc, .inl (E.2.1 0, 139264, .inl u8.2.1)), (sv, .inl (E.2.1 0, 393216, .inl u8.2.2.1)), (sa, .inl (E.2.1 0, 1100, .inl u8.2.2.2.1)), (wr, .inl (E.2.1 1, 1100, .inl u8.2.2.2.2.1)), (bt, .inl (E.2.1 0, 120000, .inl u8.2.2.2.2.2)), (s1, .inl (E.2.1 0, 47, .inl (zF 0))), (s2, .inl (E.2.1 0, 47, .inl (zF 1))), (s3, .inl (E.2.1 0, 47, .inl (zF 2)))] := hDn
          have hS := hSn
          clear hPn hDn hSn
          refine lv_iadd hx hb d_M_passWhole_175 ?_
          refine lv_topi (fun x9 ex9 => ?_)
          replace hok := hok x9 ex9
          refine lv_istore (lv' := [(8, .int x9), (7, .int x4), (0, .ref mo), (1, .int p0), (2, .int p1), (3, .int k3), (4, .int k4), (5, .int k5), (6, .int (bI b6))]) hx hb d_M_passWhole_176 hl (by decide) rfl (fun ls hl => ?_)
          refine lv_iload_n hx hb d_M_passWhole_178 rfl (lv_at hl 5 rfl) ?_
          refine lv_if_ne (tgt := 187) hx hb d_M_passWhole_179 (by decide) (fun c10 => ?_) (fun c10 => ?_)
          · replace hok := hok.2 c10
            refine lv_iload hx hb d_M_passWhole_187 (lv_at hl 0 rfl) ?_
            refine lv_if_ne (tgt := 197) hx hb d_M_passWhole_189 (by decide) (fun c11 => ?_) (fun c11 => ?_)
            · replace hok := hok.2 c11
              refine lv_iload hx hb d_M_passWhole_197 (lv_at hl 0 rfl) ?_
              refine ar_ineg hx hb d_M_passWhole_199 ?_
              exact ar_iret hx hb hr hlocks hK hS u8 (by subst ex9; subst hw8b; subst hw8a; subst hw5; subst ex4; exact pr_of (Eq.trans (g_M_passWhole_s nx p0 p1 n st k3 k4 k5 b6) (Eq.trans (if_pos c1) (Eq.trans (if_neg c2) (Eq.trans (if_neg c3) (Eq.trans (if_neg c10) (Eq.trans (if_neg c11) rfl))))))) hP hD d_M_passWhole_200
            · replace hok := hok.1 c11
              refine lv_ldc (v := (-2147483648)) hx hb hown (hts _ m_825) d_M_passWhole_192 ?_
              refine lv_goto (tgt := 200) hx hb d_M_passWhole_194 (by decide) ?_
              exact ar_iret hx hb hr hlocks hK hS u8 (by subst ex9; subst hw8b; subst hw8a; subst hw5; subst ex4; exact pr_of (Eq.trans (g_M_passWhole_s nx p0 p1 n st k3 k4 k5 b6) (Eq.trans (if_pos c1) (Eq.trans (if_neg c2) (Eq.trans (if_neg c3) (Eq.trans (if_neg c10) (Eq.trans (if_pos c11) rfl))))))) hP hD d_M_passWhole_200
          · replace hok := hok.1 c10
            refine lv_iload hx hb d_M_passWhole_182 (lv_at hl 0 rfl) ?_
            refine lv_goto (tgt := 200) hx hb d_M_passWhole_184 (by decide) ?_
            exact ar_iret hx hb hr hlocks hK hS u8 (by subst ex9; subst hw8b; subst hw8a; subst hw5; subst ex4; exact pr_of (Eq.trans (g_M_passWhole_s nx p0 p1 n st k3 k4 k5 b6) (Eq.trans (if_pos c1) (Eq.trans (if_neg c2) (Eq.trans (if_neg c3) (Eq.trans (if_pos c10) rfl)))))) hP hD d_M_passWhole_200
        · replace hok := hok.1 c3
          refine lv_bipush (v := 12) hx hb d_M_passWhole_142 (by decide) ?_
          refine lv_goto (tgt := 153) hx hb d_M_passWhole_144 (by decide) ?_
          refine lv_istore (lv' := [(7, .int 12), (0, .ref mo), (1, .int p0), (2, .int p1), (3, .int k3), (4, .int k4), (5, .int k5), (6, .int (bI b6))]) hx hb d_M_passWhole_153 hl (by decide) rfl (fun ls hl => ?_)
          refine lv_iload hx hb d_M_passWhole_155 (lv_at hl 6 rfl) ?_
          refine ar_usei (wr := [(mo, .inr (5, [.ref s1, .ref s2, .ref s3, .int st.1.1, .int (nI nx), .ref mc, .int st.1.2.1, .ref sv, .int st.1.2.2.1, .ref sa, .ref wr, .int st.1.2.2.2.1, .ref bt, .int (bI st.1.2.2.2.2.1), .int st.1.2.2.2.2.2.1, .int st.1.2.2.2.2.2.2.1, .int st.1.2.2.2.2.2.2.2.1, .int st.1.2.2.2.2.2.2.2.2.1, .int st.1.2.2.2.2.2.2.2.2.2.1, .int st.1.2.2.2.2.2.2.2.2.2.2.1, .int st.1.2.2.2.2.2.2.2.2.2.2.2.1, .int st.1.2.2.2.2.2.2.2.2.2.2.2.2.1, .long st.1.2.2.2.2.2.2.2.2.2.2.2.2.2.1, .int st.1.2.2.2.2.2.2.2.2.2.2.2.2.2.2.1, .int st.1.2.2.2.2.2.2.2.2.2.2.2.2.2.2.2.1, .int st.1.2.2.2.2.2.2.2.2.2.2.2.2.2.2.2.2.1, .int (bI st.1.2.2.2.2.2.2.2.2.2.2.2.2.2.2.2.2.2.1), .int st.1.2.2.2.2.2.2.2.2.2.2.2.2.2.2.2.2.2.2.1, .int st.1.2.2.2.2.2.2.2.2.2.2.2.2.2.2.2.2.2.2.2])), (mc, .inl (E.2.1 0, 139264, .inl st.2.1)), (sv, .inl (E.2.1 0, 393216, .inl st.2.2.1)), (sa, .inl (E.2.1 0, 1100, .inl st.2.2.2.1)), (wr, .inl (E.2.1 1, 1100, .inl st.2.2.2.2.1)), (bt, .inl (E.2.1 0, 120000, .inl st.2.2.2.2.2)), (s1, .inl (E.2.1 0, 47, .inl (zF 0))), (s2, .inl (E.2.1 0, 47, .inl (zF 1))), (s3, .inl (E.2.1 0, 47, .inl (zF 2)))]) hP hD hS hA [] [0, 1, 2, 3, 4, 5, 6, 7, 8] rfl rfl rfl (by decide) (ar_runS (n := 1) (As := [.int k5]) (rest := []) hx hb hml hown hts hP hD hS hA hK hZ (c_M_leastOf l E _   k5 ) m_826 m_827 m_7 m_828 (by decide +kernel) ⟨Nat.le_of_ble_eq_true rfl, Nat.le_of_ble_eq_true rfl⟩ [] rfl rfl rfl rfl hl.1 rfl (Nat.le_of_ble_eq_true rfl) d_M_passWhole_157 ⟨Nat.le_of_ble_eq_true rfl, Nat.le_of_ble_eq_true rfl⟩) (fun r12 _ Hn locsn hw12 hPn hDn hSn => ?_)
          replace hok := hok r12 hw12
          clear hP hD hS
          have hP : va_P E.1 classes [(mo, .inr (5, [.ref s1, .ref s2, .ref s3, .int st.1.1, .int (nI nx), .ref mc, .int st.1.2.1, .ref sv, .int st.1.2.2.1, .ref sa, .ref wr, .int st.1.2.2.2.1, .ref bt, .int (bI st.1.2.2.2.2.1), .int st.1.2.2.2.2.2.1, .int st.1.2.2.2.2.2.2.1, .int st.1.2.2.2.2.2.2.2.1, .int st.1.2.2.2.2.2.2.2.2.1, .int st.1.2.2.2.2.2.2.2.2.2.1, .int st.1.2.2.2.2.2.2.2.2.2.2.1, .int st.1.2.2.2.2.2.2.2.2.2.2.2.1, .int st.1.2.2.2.2.2.2.2.2.2.2.2.2.1, .long st.1.2.2.2.2.2.2.2.2.2.2.2.2.2.1, .int st.1.2.2.2.2.2.2.2.2.2.2.2.2.2.2.1, .int st.1.2.2.2.2.2.2.2.2.2.2.2.2.2.2.2.1, .int st.1.2.2.2.2.2.2.2.2.2.2.2.2.2.2.2.2.1, .int (bI st.1.2.2.2.2.2.2.2.2.2.2.2.2.2.2.2.2.2.1), .int st.1.2.2.2.2.2.2.2.2.2.2.2.2.2.2.2.2.2.2.1, .int st.1.2.2.2.2.2.2.2.2.2.2.2.2.2.2.2.2.2.2.2])), (mc, .inl (E.2.1 0, 139264, .inl st.2.1)), (sv, .inl (E.2.1 0, 393216, .inl st.2.2.1)), (sa, .inl (E.2.1 0, 1100, .inl st.2.2.2.1)), (wr, .inl (E.2.1 1, 1100, .inl st.2.2.2.2.1)), (bt, .inl (E.2.1 0, 120000, .inl st.2.2.2.2.2)), (s1, .inl (E.2.1 0, 47, .inl (zF 0))), (s2, .inl (E.2.1 0, 47, .inl (zF 1))), (s3, .inl (E.2.1 0, 47, .inl (zF 2)))] Hn := hPn
          have hD : va_D A [(mo, .inr (5, [.ref s1, .ref s2, .ref s3, .int st.1.1, .int (nI nx), .ref mc, .int st.1.2.1, .ref sv, .int st.1.2.2.1, .ref sa, .ref wr, .int st.1.2.2.2.1, .ref bt, .int (bI st.1.2.2.2.2.1), .int st.1.2.2.2.2.2.1, .int st.1.2.2.2.2.2.2.1, .int st.1.2.2.2.2.2.2.2.1, .int st.1.2.2.2.2.2.2.2.2.1, .int st.1.2.2.2.2.2.2.2.2.2.1, .int st.1.2.2.2.2.2.2.2.2.2.2.1, .int st.1.2.2.2.2.2.2.2.2.2.2.2.1, .int st.1.2.2.2.2.2.2.2.2.2.2.2.2.1, .long st.1.2.2.2.2.2.2.2.2.2.2.2.2.2.1, .int st.1.2.2.2.2.2.2.2.2.2.2.2.2.2.2.1, .int st.1.2.2.2.2.2.2.2.2.2.2.2.2.2.2.2.1, .int st.1.2.2.2.2.2.2.2.2.2.2.2.2.2.2.2.2.1, .int (bI st.1.2.2.2.2.2.2.2.2.2.2.2.2.2.2.2.2.2.1), .int st.1.2.2.2.2.2.2.2.2.2.2.2.2.2.2.2.2.2.2.1, .int st.1.2.2.2.2.2.2.2.2.2.2.2.2.2.2.2.2.2.2.2])), (mc, .inl (E.2.1 0, 139264, .inl st.2.1)), (sv, .inl (E.2.1 0, 393216, .inl st.2.2.1)), (sa, .inl (E.2.1 0, 1100, .inl st.2.2.2.1)), (wr, .inl (E.2.1 1, 1100, .inl st.2.2.2.2.1)), (bt, .inl (E.2.1 0, 120000, .inl st.2.2.2.2.2)), (s1, .inl (E.2.1 0, 47, .inl (zF 0))), (s2, .inl (E.2.1 0, 47, .inl (zF 1))), (s3, .inl (E.2.1 0, 47, .inl (zF 2)))] := hDn
          have hS := hSn
          clear hPn hDn hSn
          refine lv_aload_n hx hb d_M_passWhole_160 rfl (lv_at hl 1 rfl) ?_
          refine lv_iload_n hx hb d_M_passWhole_161 rfl (lv_at hl 2 rfl) ?_
          refine lv_iload hx hb d_M_passWhole_162 (lv_at hl 5 rfl) ?_
          refine lv_iload hx hb d_M_passWhole_164 (lv_at hl 6 rfl) ?_
          refine ar_usei (wr := [(mo, .inr (5, [.ref s1, .ref s2, .ref s3, .int st.1.1, .int (nI nx), .ref mc, .int st.1.2.1, .ref sv, .int st.1.2.2.1, .ref sa, .ref wr, .int st.1.2.2.2.1, .ref bt, .int (bI st.1.2.2.2.2.1), .int st.1.2.2.2.2.2.1, .int st.1.2.2.2.2.2.2.1, .int st.1.2.2.2.2.2.2.2.1, .int st.1.2.2.2.2.2.2.2.2.1, .int st.1.2.2.2.2.2.2.2.2.2.1, .int st.1.2.2.2.2.2.2.2.2.2.2.1, .int st.1.2.2.2.2.2.2.2.2.2.2.2.1, .int st.1.2.2.2.2.2.2.2.2.2.2.2.2.1, .long st.1.2.2.2.2.2.2.2.2.2.2.2.2.2.1, .int st.1.2.2.2.2.2.2.2.2.2.2.2.2.2.2.1, .int st.1.2.2.2.2.2.2.2.2.2.2.2.2.2.2.2.1, .int st.1.2.2.2.2.2.2.2.2.2.2.2.2.2.2.2.2.1, .int (bI st.1.2.2.2.2.2.2.2.2.2.2.2.2.2.2.2.2.2.1), .int st.1.2.2.2.2.2.2.2.2.2.2.2.2.2.2.2.2.2.2.1, .int st.1.2.2.2.2.2.2.2.2.2.2.2.2.2.2.2.2.2.2.2])), (mc, .inl (E.2.1 0, 139264, .inl st.2.1)), (sv, .inl (E.2.1 0, 393216, .inl st.2.2.1)), (sa, .inl (E.2.1 0, 1100, .inl st.2.2.2.1)), (wr, .inl (E.2.1 1, 1100, .inl st.2.2.2.2.1)), (bt, .inl (E.2.1 0, 120000, .inl st.2.2.2.2.2)), (s1, .inl (E.2.1 0, 47, .inl (zF 0))), (s2, .inl (E.2.1 0, 47, .inl (zF 1))), (s3, .inl (E.2.1 0, 47, .inl (zF 2)))]) hP hD hS hA [] [0, 1, 2, 3, 4, 5, 6, 7, 8] rfl rfl rfl (by decide) (ar_runS (n := 1) (As := [.int k5]) (rest := [.int k4, .int p0, .ref mo, .int r12]) hx hb hml hown hts hP hD hS hA hK hZ (c_M_leastOf l E _   k5 ) m_826 m_827 m_7 m_828 (by decide +kernel) ⟨Nat.le_of_ble_eq_true rfl, Nat.le_of_ble_eq_true rfl⟩ [] rfl rfl rfl rfl hl.1 rfl (Nat.le_of_ble_eq_true rfl) d_M_passWhole_166 ⟨Nat.le_of_ble_eq_true rfl, Nat.le_of_ble_eq_true rfl⟩) (fun r13 _ Hn locsn hw13 hPn hDn hSn => ?_)
          rw [← hw12] at hw13
          subst r13
          clear hP hD hS
          have hP : va_P E.1 classes [(mo, .inr (5, [.ref s1, .ref s2, .ref s3, .int st.1.1, .int (nI nx), .ref mc, .int st.1.2.1, .ref sv, .int st.1.2.2.1, .ref sa, .ref wr, .int st.1.2.2.2.1, .ref bt, .int (bI st.1.2.2.2.2.1), .int st.1.2.2.2.2.2.1, .int st.1.2.2.2.2.2.2.1, .int st.1.2.2.2.2.2.2.2.1, .int st.1.2.2.2.2.2.2.2.2.1, .int st.1.2.2.2.2.2.2.2.2.2.1, .int st.1.2.2.2.2.2.2.2.2.2.2.1, .int st.1.2.2.2.2.2.2.2.2.2.2.2.1, .int st.1.2.2.2.2.2.2.2.2.2.2.2.2.1, .long st.1.2.2.2.2.2.2.2.2.2.2.2.2.2.1, .int st.1.2.2.2.2.2.2.2.2.2.2.2.2.2.2.1, .int st.1.2.2.2.2.2.2.2.2.2.2.2.2.2.2.2.1, .int st.1.2.2.2.2.2.2.2.2.2.2.2.2.2.2.2.2.1, .int (bI st.1.2.2.2.2.2.2.2.2.2.2.2.2.2.2.2.2.2.1), .int st.1.2.2.2.2.2.2.2.2.2.2.2.2.2.2.2.2.2.2.1, .int st.1.2.2.2.2.2.2.2.2.2.2.2.2.2.2.2.2.2.2.2])), (mc, .inl (E.2.1 0, 139264, .inl st.2.1)), (sv, .inl (E.2.1 0, 393216, .inl st.2.2.1)), (sa, .inl (E.2.1 0, 1100, .inl st.2.2.2.1)), (wr, .inl (E.2.1 1, 1100, .inl st.2.2.2.2.1)), (bt, .inl (E.2.1 0, 120000, .inl st.2.2.2.2.2)), (s1, .inl (E.2.1 0, 47, .inl (zF 0))), (s2, .inl (E.2.1 0, 47, .inl (zF 1))), (s3, .inl (E.2.1 0, 47, .inl (zF 2)))] Hn := hPn
          have hD : va_D A [(mo, .inr (5, [.ref s1, .ref s2, .ref s3, .int st.1.1, .int (nI nx), .ref mc, .int st.1.2.1, .ref sv, .int st.1.2.2.1, .ref sa, .ref wr, .int st.1.2.2.2.1, .ref bt, .int (bI st.1.2.2.2.2.1), .int st.1.2.2.2.2.2.1, .int st.1.2.2.2.2.2.2.1, .int st.1.2.2.2.2.2.2.2.1, .int st.1.2.2.2.2.2.2.2.2.1, .int st.1.2.2.2.2.2.2.2.2.2.1, .int st.1.2.2.2.2.2.2.2.2.2.2.1, .int st.1.2.2.2.2.2.2.2.2.2.2.2.1, .int st.1.2.2.2.2.2.2.2.2.2.2.2.2.1, .long st.1.2.2.2.2.2.2.2.2.2.2.2.2.2.1, .int st.1.2.2.2.2.2.2.2.2.2.2.2.2.2.2.1, .int st.1.2.2.2.2.2.2.2.2.2.2.2.2.2.2.2.1, .int st.1.2.2.2.2.2.2.2.2.2.2.2.2.2.2.2.2.1, .int (bI st.1.2.2.2.2.2.2.2.2.2.2.2.2.2.2.2.2.2.1), .int st.1.2.2.2.2.2.2.2.2.2.2.2.2.2.2.2.2.2.2.1, .int st.1.2.2.2.2.2.2.2.2.2.2.2.2.2.2.2.2.2.2.2])), (mc, .inl (E.2.1 0, 139264, .inl st.2.1)), (sv, .inl (E.2.1 0, 393216, .inl st.2.2.1)), (sa, .inl (E.2.1 0, 1100, .inl st.2.2.2.1)), (wr, .inl (E.2.1 1, 1100, .inl st.2.2.2.2.1)), (bt, .inl (E.2.1 0, 120000, .inl st.2.2.2.2.2)), (s1, .inl (E.2.1 0, 47, .inl (zF 0))), (s2, .inl (E.2.1 0, 47, .inl (zF 1))), (s3, .inl (E.2.1 0, 47, .inl (zF 2)))] := hDn
          have hS := hSn
          clear hPn hDn hSn
          refine lv_isub hx hb d_M_passWhole_169 ?_
          refine lv_iload hx hb d_M_passWhole_170 (lv_at hl 0 rfl) ?_
          obtain ⟨hk14, hok⟩ := hok
          refine ar_usei (wr := []) hP hD hS hA [0, 1, 2, 3, 4, 5, 6, 7, 8] [] rfl rfl rfl (by decide) (ar_runV (n := 3) (As := [.int p0, .int (k4 - r12), .int 12]) (rest := [.int r12]) (ci := 5) (q0 := 0) hx hb hml hown hts hP hD hS hA hK hZ (c_M_passNumber l E _ mo mc sv sa wr bt s1 s2 s3 nx st p0 (k4 - r12) 12 hk14) m_829 m_831 ms_41 m_7 m_832 (by decide +kernel) ⟨Nat.le_of_ble_eq_true rfl, Nat.le_of_ble_eq_true rfl⟩ [0, 1, 2, 3, 4, 5, 6, 7, 8] rfl rfl rfl rfl rfl rfl rfl hl.1 rfl (Nat.le_of_ble_eq_true rfl) d_M_passWhole_172 ⟨Nat.le_of_ble_eq_true rfl, Nat.le_of_ble_eq_true rfl⟩) (fun r15 u15 Hn locsn hw15 hPn hDn hSn => ?_)
          obtain ⟨hw15a, hw15b⟩ := hw15
          replace hok := hok r15 hw15a
          replace hok := hok u15 hw15b
          clear hP hD hS
          have hP : va_P E.1 classes [(mo, .inr (5, [.ref s1, .ref s2, .ref s3, .int u15.1.1, .int (nI nx), .ref mc, .int u15.1.2.1, .ref sv, .int u15.1.2.2.1, .ref sa, .ref wr, .int u15.1.2.2.2.1, .ref bt, .int (bI u15.1.2.2.2.2.1), .int u15.1.2.2.2.2.2.1, .int u15.1.2.2.2.2.2.2.1, .int u15.1.2.2.2.2.2.2.2.1, .int u15.1.2.2.2.2.2.2.2.2.1, .int u15.1.2.2.2.2.2.2.2.2.2.1, .int u15.1.2.2.2.2.2.2.2.2.2.2.1, .int u15.1.2.2.2.2.2.2.2.2.2.2.2.1, .int u15.1.2.2.2.2.2.2.2.2.2.2.2.2.1, .long u15.1.2.2.2.2.2.2.2.2.2.2.2.2.2.1, .int u15.1.2.2.2.2.2.2.2.2.2.2.2.2.2.2.1, .int u15.1.2.2.2.2.2.2.2.2.2.2.2.2.2.2.2.1, .int u15.1.2.2.2.2.2.2.2.2.2.2.2.2.2.2.2.2.1, .int (bI u15.1.2.2.2.2.2.2.2.2.2.2.2.2.2.2.2.2.2.1), .int u15.1.2.2.2.2.2.2.2.2.2.2.2.2.2.2.2.2.2.2.1, .int u15.1.2.2.2.2.2.2.2.2.2.2.2.2.2.2.2.2.2.2.2])), (mc, .inl (E.2.1 0, 139264, .inl u15.2.1)), (sv, .inl (E.2.1 0, 393216, .inl u15.2.2.1)), (sa, .inl (E.2.1 0, 1100, .inl u15.2.2.2.1)), (wr, .inl (E.2.1 1, 1100, .inl u15.2.2.2.2.1)), (bt, .inl (E.2.1 0, 120000, .inl u15.2.2.2.2.2)), (s1, .inl (E.2.1 0, 47, .inl (zF 0))), (s2, .inl (E.2.1 0, 47, .inl (zF 1))), (s3, .inl (E.2.1 0, 47, .inl (zF 2)))] Hn := hPn
          have hD : va_D A [(mo, .inr (5, [.ref s1, .ref s2, .ref s3, .int u15.1.1, .int (nI nx), .ref mc, .int u15.1.2.1, .ref sv, .int u15.1.2.2.1, .ref sa, .ref wr, .int u15.1.2.2.2.1, .ref bt, .int (bI u15.1.2.2.2.2.1), .int u15.1.2.2.2.2.2.1, .int u15.1.2.2.2.2.2.2.1, .int u15.1.2.2.2.2.2.2.2.1, .int u15.1.2.2.2.2.2.2.2.2.1, .int u15.1.2.2.2.2.2.2.2.2.2.1, .int u15.1.2.2.2.2.2.2.2.2.2.2.1, .int u15.1.2.2.2.2.2.2.2.2.2.2.2.1, .int u15.1.2.2.2.2.2.2.2.2.2.2.2.2.1, .long u15.1.2.2.2.2.2.2.2.2.2.2.2.2.2.1, .int u15.1.2.2.2.2.2.2.2.2.2.2.2.2.2.2.1, .int u15.1.2.2.2.2.2.2.2.2.2.2.2.2.2.2.2.1, .int u15.1.2.2.2.2.2.2.2.2.2.2.2.2.2.2.2.2.1, .int (bI u15.1.2.2.2.2.2.2.2.2.2.2.2.2.2.2.2.2.2.1), .int u15.1.2.2.2.2.2.2.2.2.2.2.2.2.2.2.2.2.2.2.1, .int u15.1.2.2.2.2.2.2.2.2.2.2.2.2.2.2.2.2.2.2.2])), (mc, .inl (E.2.1 0, 139264, .inl u15.2.1)), (sv, .inl (E.2.1 0, 393216, .inl u15.2.2.1)), (sa, .inl (E.2.1 0, 1100, .inl u15.2.2.2.1)), (wr, .inl (E.2.1 1, 1100, .inl u15.2.2.2.2.1)), (bt, .inl (E.2.1 0, 120000, .inl u15.2.2.2.2.2)), (s1, .inl (E.2.1 0, 47, .inl (zF 0))), (s2, .inl (E.2.1 0, 47, .inl (zF 1))), (s3, .inl (E.2.1 0, 47, .inl (zF 2)))] := hDn
          have hS := hSn
          clear hPn hDn hSn
          refine lv_iadd hx hb d_M_passWhole_175 ?_
          refine lv_topi (fun x16 ex16 => ?_)
          replace hok := hok x16 ex16
          refine lv_istore (lv' := [(8, .int x16), (7, .int 12), (0, .ref mo), (1, .int p0), (2, .int p1), (3, .int k3), (4, .int k4), (5, .int k5), (6, .int (bI b6))]) hx hb d_M_passWhole_176 hl (by decide) rfl (fun ls hl => ?_)
          refine lv_iload_n hx hb d_M_passWhole_178 rfl (lv_at hl 5 rfl) ?_
          refine lv_if_ne (tgt := 187) hx hb d_M_passWhole_179 (by decide) (fun c17 => ?_) (fun c17 => ?_)
          · replace hok := hok.2 c17
            refine lv_iload hx hb d_M_passWhole_187 (lv_at hl 0 rfl) ?_
            refine lv_if_ne (tgt := 197) hx hb d_M_passWhole_189 (by decide) (fun c18 => ?_) (fun c18 => ?_)
            · replace hok := hok.2 c18
              refine lv_iload hx hb d_M_passWhole_197 (lv_at hl 0 rfl) ?_
              refine ar_ineg hx hb d_M_passWhole_199 ?_
              exact ar_iret hx hb hr hlocks hK hS u15 (by subst ex16; subst hw15b; subst hw15a; subst hw12; exact pr_of (Eq.trans (g_M_passWhole_s nx p0 p1 n st k3 k4 k5 b6) (Eq.trans (if_pos c1) (Eq.trans (if_neg c2) (Eq.trans (if_pos c3) (Eq.trans (if_neg c17) (Eq.trans (if_neg c18) rfl))))))) hP hD d_M_passWhole_200
            · replace hok := hok.1 c18
              refine lv_ldc (v := (-2147483648)) hx hb hown (hts _ m_825) d_M_passWhole_192 ?_
              refine lv_goto (tgt := 200) hx hb d_M_passWhole_194 (by decide) ?_
              exact ar_iret hx hb hr hlocks hK hS u15 (by subst ex16; subst hw15b; subst hw15a; subst hw12; exact pr_of (Eq.trans (g_M_passWhole_s nx p0 p1 n st k3 k4 k5 b6) (Eq.trans (if_pos c1) (Eq.trans (if_neg c2) (Eq.trans (if_pos c3) (Eq.trans (if_neg c17) (Eq.trans (if_pos c18) rfl))))))) hP hD d_M_passWhole_200
          · replace hok := hok.1 c17
            refine lv_iload hx hb d_M_passWhole_182 (lv_at hl 0 rfl) ?_
            refine lv_goto (tgt := 200) hx hb d_M_passWhole_184 (by decide) ?_
            exact ar_iret hx hb hr hlocks hK hS u15 (by subst ex16; subst hw15b; subst hw15a; subst hw12; exact pr_of (Eq.trans (g_M_passWhole_s nx p0 p1 n st k3 k4 k5 b6) (Eq.trans (if_pos c1) (Eq.trans (if_neg c2) (Eq.trans (if_pos c3) (Eq.trans (if_pos c17) rfl)))))) hP hD d_M_passWhole_200
      · replace hok := hok.1 c2
        refine lv_bipush (v := 32) hx hb d_M_passWhole_131 (by decide) ?_
        refine lv_goto (tgt := 153) hx hb d_M_passWhole_133 (by decide) ?_
        refine lv_istore (lv' := [(7, .int 32), (0, .ref mo), (1, .int p0), (2, .int p1), (3, .int k3), (4, .int k4), (5, .int k5), (6, .int (bI b6))]) hx hb d_M_passWhole_153 hl (by decide) rfl (fun ls hl => ?_)
        refine lv_iload hx hb d_M_passWhole_155 (lv_at hl 6 rfl) ?_
        refine ar_usei (wr := [(mo, .inr (5, [.ref s1, .ref s2, .ref s3, .int st.1.1, .int (nI nx), .ref mc, .int st.1.2.1, .ref sv, .int st.1.2.2.1, .ref sa, .ref wr, .int st.1.2.2.2.1, .ref bt, .int (bI st.1.2.2.2.2.1), .int st.1.2.2.2.2.2.1, .int st.1.2.2.2.2.2.2.1, .int st.1.2.2.2.2.2.2.2.1, .int st.1.2.2.2.2.2.2.2.2.1, .int st.1.2.2.2.2.2.2.2.2.2.1, .int st.1.2.2.2.2.2.2.2.2.2.2.1, .int st.1.2.2.2.2.2.2.2.2.2.2.2.1, .int st.1.2.2.2.2.2.2.2.2.2.2.2.2.1, .long st.1.2.2.2.2.2.2.2.2.2.2.2.2.2.1, .int st.1.2.2.2.2.2.2.2.2.2.2.2.2.2.2.1, .int st.1.2.2.2.2.2.2.2.2.2.2.2.2.2.2.2.1, .int st.1.2.2.2.2.2.2.2.2.2.2.2.2.2.2.2.2.1, .int (bI st.1.2.2.2.2.2.2.2.2.2.2.2.2.2.2.2.2.2.1), .int st.1.2.2.2.2.2.2.2.2.2.2.2.2.2.2.2.2.2.2.1, .int st.1.2.2.2.2.2.2.2.2.2.2.2.2.2.2.2.2.2.2.2])), (mc, .inl (E.2.1 0, 139264, .inl st.2.1)), (sv, .inl (E.2.1 0, 393216, .inl st.2.2.1)), (sa, .inl (E.2.1 0, 1100, .inl st.2.2.2.1)), (wr, .inl (E.2.1 1, 1100, .inl st.2.2.2.2.1)), (bt, .inl (E.2.1 0, 120000, .inl st.2.2.2.2.2)), (s1, .inl (E.2.1 0, 47, .inl (zF 0))), (s2, .inl (E.2.1 0, 47, .inl (zF 1))), (s3, .inl (E.2.1 0, 47, .inl (zF 2)))]) hP hD hS hA [] [0, 1, 2, 3, 4, 5, 6, 7, 8] rfl rfl rfl (by decide) (ar_runS (n := 1) (As := [.int k5]) (rest := []) hx hb hml hown hts hP hD hS hA hK hZ (c_M_leastOf l E _   k5 ) m_826 m_827 m_7 m_828 (by decide +kernel) ⟨Nat.le_of_ble_eq_true rfl, Nat.le_of_ble_eq_true rfl⟩ [] rfl rfl rfl rfl hl.1 rfl (Nat.le_of_ble_eq_true rfl) d_M_passWhole_157 ⟨Nat.le_of_ble_eq_true rfl, Nat.le_of_ble_eq_true rfl⟩) (fun r19 _ Hn locsn hw19 hPn hDn hSn => ?_)
        replace hok := hok r19 hw19
        clear hP hD hS
        have hP : va_P E.1 classes [(mo, .inr (5, [.ref s1, .ref s2, .ref s3, .int st.1.1, .int (nI nx), .ref mc, .int st.1.2.1, .ref sv, .int st.1.2.2.1, .ref sa, .ref wr, .int st.1.2.2.2.1, .ref bt, .int (bI st.1.2.2.2.2.1), .int st.1.2.2.2.2.2.1, .int st.1.2.2.2.2.2.2.1, .int st.1.2.2.2.2.2.2.2.1, .int st.1.2.2.2.2.2.2.2.2.1, .int st.1.2.2.2.2.2.2.2.2.2.1, .int st.1.2.2.2.2.2.2.2.2.2.2.1, .int st.1.2.2.2.2.2.2.2.2.2.2.2.1, .int st.1.2.2.2.2.2.2.2.2.2.2.2.2.1, .long st.1.2.2.2.2.2.2.2.2.2.2.2.2.2.1, .int st.1.2.2.2.2.2.2.2.2.2.2.2.2.2.2.1, .int st.1.2.2.2.2.2.2.2.2.2.2.2.2.2.2.2.1, .int st.1.2.2.2.2.2.2.2.2.2.2.2.2.2.2.2.2.1, .int (bI st.1.2.2.2.2.2.2.2.2.2.2.2.2.2.2.2.2.2.1), .int st.1.2.2.2.2.2.2.2.2.2.2.2.2.2.2.2.2.2.2.1, .int st.1.2.2.2.2.2.2.2.2.2.2.2.2.2.2.2.2.2.2.2])), (mc, .inl (E.2.1 0, 139264, .inl st.2.1)), (sv, .inl (E.2.1 0, 393216, .inl st.2.2.1)), (sa, .inl (E.2.1 0, 1100, .inl st.2.2.2.1)), (wr, .inl (E.2.1 1, 1100, .inl st.2.2.2.2.1)), (bt, .inl (E.2.1 0, 120000, .inl st.2.2.2.2.2)), (s1, .inl (E.2.1 0, 47, .inl (zF 0))), (s2, .inl (E.2.1 0, 47, .inl (zF 1))), (s3, .inl (E.2.1 0, 47, .inl (zF 2)))] Hn := hPn
        have hD : va_D A [(mo, .inr (5, [.ref s1, .ref s2, .ref s3, .int st.1.1, .int (nI nx), .ref mc, .int st.1.2.1, .ref sv, .int st.1.2.2.1, .ref sa, .ref wr, .int st.1.2.2.2.1, .ref bt, .int (bI st.1.2.2.2.2.1), .int st.1.2.2.2.2.2.1, .int st.1.2.2.2.2.2.2.1, .int st.1.2.2.2.2.2.2.2.1, .int st.1.2.2.2.2.2.2.2.2.1, .int st.1.2.2.2.2.2.2.2.2.2.1, .int st.1.2.2.2.2.2.2.2.2.2.2.1, .int st.1.2.2.2.2.2.2.2.2.2.2.2.1, .int st.1.2.2.2.2.2.2.2.2.2.2.2.2.1, .long st.1.2.2.2.2.2.2.2.2.2.2.2.2.2.1, .int st.1.2.2.2.2.2.2.2.2.2.2.2.2.2.2.1, .int st.1.2.2.2.2.2.2.2.2.2.2.2.2.2.2.2.1, .int st.1.2.2.2.2.2.2.2.2.2.2.2.2.2.2.2.2.1, .int (bI st.1.2.2.2.2.2.2.2.2.2.2.2.2.2.2.2.2.2.1), .int st.1.2.2.2.2.2.2.2.2.2.2.2.2.2.2.2.2.2.2.1, .int st.1.2.2.2.2.2.2.2.2.2.2.2.2.2.2.2.2.2.2.2])), (mc, .inl (E.2.1 0, 139264, .inl st.2.1)), (sv, .inl (E.2.1 0, 393216, .inl st.2.2.1)), (sa, .inl (E.2.1 0, 1100, .inl st.2.2.2.1)), (wr, .inl (E.2.1 1, 1100, .inl st.2.2.2.2.1)), (bt, .inl (E.2.1 0, 120000, .inl st.2.2.2.2.2)), (s1, .inl (E.2.1 0, 47, .inl (zF 0))), (s2, .inl (E.2.1 0, 47, .inl (zF 1))), (s3, .inl (E.2.1 0, 47, .inl (zF 2)))] := hDn
        have hS := hSn
        clear hPn hDn hSn
        refine lv_aload_n hx hb d_M_passWhole_160 rfl (lv_at hl 1 rfl) ?_
        refine lv_iload_n hx hb d_M_passWhole_161 rfl (lv_at hl 2 rfl) ?_
        refine lv_iload hx hb d_M_passWhole_162 (lv_at hl 5 rfl) ?_
        refine lv_iload hx hb d_M_passWhole_164 (lv_at hl 6 rfl) ?_
        refine ar_usei (wr := [(mo, .inr (5, [.ref s1, .ref s2, .ref s3, .int st.1.1, .int (nI nx), .ref mc, .int st.1.2.1, .ref sv, .int st.1.2.2.1, .ref sa, .ref wr, .int st.1.2.2.2.1, .ref bt, .int (bI st.1.2.2.2.2.1), .int st.1.2.2.2.2.2.1, .int st.1.2.2.2.2.2.2.1, .int st.1.2.2.2.2.2.2.2.1, .int st.1.2.2.2.2.2.2.2.2.1, .int st.1.2.2.2.2.2.2.2.2.2.1, .int st.1.2.2.2.2.2.2.2.2.2.2.1, .int st.1.2.2.2.2.2.2.2.2.2.2.2.1, .int st.1.2.2.2.2.2.2.2.2.2.2.2.2.1, .long st.1.2.2.2.2.2.2.2.2.2.2.2.2.2.1, .int st.1.2.2.2.2.2.2.2.2.2.2.2.2.2.2.1, .int st.1.2.2.2.2.2.2.2.2.2.2.2.2.2.2.2.1, .int st.1.2.2.2.2.2.2.2.2.2.2.2.2.2.2.2.2.1, .int (bI st.1.2.2.2.2.2.2.2.2.2.2.2.2.2.2.2.2.2.1), .int st.1.2.2.2.2.2.2.2.2.2.2.2.2.2.2.2.2.2.2.1, .int st.1.2.2.2.2.2.2.2.2.2.2.2.2.2.2.2.2.2.2.2])), (mc, .inl (E.2.1 0, 139264, .inl st.2.1)), (sv, .inl (E.2.1 0, 393216, .inl st.2.2.1)), (sa, .inl (E.2.1 0, 1100, .inl st.2.2.2.1)), (wr, .inl (E.2.1 1, 1100, .inl st.2.2.2.2.1)), (bt, .inl (E.2.1 0, 120000, .inl st.2.2.2.2.2)), (s1, .inl (E.2.1 0, 47, .inl (zF 0))), (s2, .inl (E.2.1 0, 47, .inl (zF 1))), (s3, .inl (E.2.1 0, 47, .inl (zF 2)))]) hP hD hS hA [] [0, 1, 2, 3, 4, 5, 6, 7, 8] rfl rfl rfl (by decide) (ar_runS (n := 1) (As := [.int k5]) (rest := [.int k4, .int p0, .ref mo, .int r19]) hx hb hml hown hts hP hD hS hA hK hZ (c_M_leastOf l E _   k5 ) m_826 m_827 m_7 m_828 (by decide +kernel) ⟨Nat.le_of_ble_eq_true rfl, Nat.le_of_ble_eq_true rfl⟩ [] rfl rfl rfl rfl hl.1 rfl (Nat.le_of_ble_eq_true rfl) d_M_passWhole_166 ⟨Nat.le_of_ble_eq_true rfl, Nat.le_of_ble_eq_true rfl⟩) (fun r20 _ Hn locsn hw20 hPn hDn hSn => ?_)
        rw [← hw19] at hw20
        subst r20
        clear hP hD hS
        have hP : va_P E.1 classes [(mo, .inr (5, [.ref s1, .ref s2, .ref s3, .int st.1.1, .int (nI nx), .ref mc, .int st.1.2.1, .ref sv, .int st.1.2.2.1, .ref sa, .ref wr, .int st.1.2.2.2.1, .ref bt, .int (bI st.1.2.2.2.2.1), .int st.1.2.2.2.2.2.1, .int st.1.2.2.2.2.2.2.1, .int st.1.2.2.2.2.2.2.2.1, .int st.1.2.2.2.2.2.2.2.2.1, .int st.1.2.2.2.2.2.2.2.2.2.1, .int st.1.2.2.2.2.2.2.2.2.2.2.1, .int st.1.2.2.2.2.2.2.2.2.2.2.2.1, .int st.1.2.2.2.2.2.2.2.2.2.2.2.2.1, .long st.1.2.2.2.2.2.2.2.2.2.2.2.2.2.1, .int st.1.2.2.2.2.2.2.2.2.2.2.2.2.2.2.1, .int st.1.2.2.2.2.2.2.2.2.2.2.2.2.2.2.2.1, .int st.1.2.2.2.2.2.2.2.2.2.2.2.2.2.2.2.2.1, .int (bI st.1.2.2.2.2.2.2.2.2.2.2.2.2.2.2.2.2.2.1), .int st.1.2.2.2.2.2.2.2.2.2.2.2.2.2.2.2.2.2.2.1, .int st.1.2.2.2.2.2.2.2.2.2.2.2.2.2.2.2.2.2.2.2])), (mc, .inl (E.2.1 0, 139264, .inl st.2.1)), (sv, .inl (E.2.1 0, 393216, .inl st.2.2.1)), (sa, .inl (E.2.1 0, 1100, .inl st.2.2.2.1)), (wr, .inl (E.2.1 1, 1100, .inl st.2.2.2.2.1)), (bt, .inl (E.2.1 0, 120000, .inl st.2.2.2.2.2)), (s1, .inl (E.2.1 0, 47, .inl (zF 0))), (s2, .inl (E.2.1 0, 47, .inl (zF 1))), (s3, .inl (E.2.1 0, 47, .inl (zF 2)))] Hn := hPn
        have hD : va_D A [(mo, .inr (5, [.ref s1, .ref s2, .ref s3, .int st.1.1, .int (nI nx), .ref mc, .int st.1.2.1, .ref sv, .int st.1.2.2.1, .ref sa, .ref wr, .int st.1.2.2.2.1, .ref bt, .int (bI st.1.2.2.2.2.1), .int st.1.2.2.2.2.2.1, .int st.1.2.2.2.2.2.2.1, .int st.1.2.2.2.2.2.2.2.1, .int st.1.2.2.2.2.2.2.2.2.1, .int st.1.2.2.2.2.2.2.2.2.2.1, .int st.1.2.2.2.2.2.2.2.2.2.2.1, .int st.1.2.2.2.2.2.2.2.2.2.2.2.1, .int st.1.2.2.2.2.2.2.2.2.2.2.2.2.1, .long st.1.2.2.2.2.2.2.2.2.2.2.2.2.2.1, .int st.1.2.2.2.2.2.2.2.2.2.2.2.2.2.2.1, .int st.1.2.2.2.2.2.2.2.2.2.2.2.2.2.2.2.1, .int st.1.2.2.2.2.2.2.2.2.2.2.2.2.2.2.2.2.1, .int (bI st.1.2.2.2.2.2.2.2.2.2.2.2.2.2.2.2.2.2.1), .int st.1.2.2.2.2.2.2.2.2.2.2.2.2.2.2.2.2.2.2.1, .int st.1.2.2.2.2.2.2.2.2.2.2.2.2.2.2.2.2.2.2.2])), (mc, .inl (E.2.1 0, 139264, .inl st.2.1)), (sv, .inl (E.2.1 0, 393216, .inl st.2.2.1)), (sa, .inl (E.2.1 0, 1100, .inl st.2.2.2.1)), (wr, .inl (E.2.1 1, 1100, .inl st.2.2.2.2.1)), (bt, .inl (E.2.1 0, 120000, .inl st.2.2.2.2.2)), (s1, .inl (E.2.1 0, 47, .inl (zF 0))), (s2, .inl (E.2.1 0, 47, .inl (zF 1))), (s3, .inl (E.2.1 0, 47, .inl (zF 2)))] := hDn
        have hS := hSn
        clear hPn hDn hSn
        refine lv_isub hx hb d_M_passWhole_169 ?_
        refine lv_iload hx hb d_M_passWhole_170 (lv_at hl 0 rfl) ?_
        obtain ⟨hk21, hok⟩ := hok
        refine ar_usei (wr := []) hP hD hS hA [0, 1, 2, 3, 4, 5, 6, 7, 8] [] rfl rfl rfl (by decide) (ar_runV (n := 3) (As := [.int p0, .int (k4 - r19), .int 32]) (rest := [.int r19]) (ci := 5) (q0 := 0) hx hb hml hown hts hP hD hS hA hK hZ (c_M_passNumber l E _ mo mc sv sa wr bt s1 s2 s3 nx st p0 (k4 - r19) 32 hk21) m_829 m_831 ms_41 m_7 m_832 (by decide +kernel) ⟨Nat.le_of_ble_eq_true rfl, Nat.le_of_ble_eq_true rfl⟩ [0, 1, 2, 3, 4, 5, 6, 7, 8] rfl rfl rfl rfl rfl rfl rfl hl.1 rfl (Nat.le_of_ble_eq_true rfl) d_M_passWhole_172 ⟨Nat.le_of_ble_eq_true rfl, Nat.le_of_ble_eq_true rfl⟩) (fun r22 u22 Hn locsn hw22 hPn hDn hSn => ?_)
        obtain ⟨hw22a, hw22b⟩ := hw22
        replace hok := hok r22 hw22a
        replace hok := hok u22 hw22b
        clear hP hD hS
        have hP : va_P E.1 classes [(mo, .inr (5, [.ref s1, .ref s2, .ref s3, .int u22.1.1, .int (nI nx), .ref mc, .int u22.1.2.1, .ref sv, .int u22.1.2.2.1, .ref sa, .ref wr, .int u22.1.2.2.2.1, .ref bt, .int (bI u22.1.2.2.2.2.1), .int u22.1.2.2.2.2.2.1, .int u22.1.2.2.2.2.2.2.1, .int u22.1.2.2.2.2.2.2.2.1, .int u22.1.2.2.2.2.2.2.2.2.1, .int u22.1.2.2.2.2.2.2.2.2.2.1, .int u22.1.2.2.2.2.2.2.2.2.2.2.1, .int u22.1.2.2.2.2.2.2.2.2.2.2.2.1, .int u22.1.2.2.2.2.2.2.2.2.2.2.2.2.1, .long u22.1.2.2.2.2.2.2.2.2.2.2.2.2.2.1, .int u22.1.2.2.2.2.2.2.2.2.2.2.2.2.2.2.1, .int u22.1.2.2.2.2.2.2.2.2.2.2.2.2.2.2.2.1, .int u22.1.2.2.2.2.2.2.2.2.2.2.2.2.2.2.2.2.1, .int (bI u22.1.2.2.2.2.2.2.2.2.2.2.2.2.2.2.2.2.2.1), .int u22.1.2.2.2.2.2.2.2.2.2.2.2.2.2.2.2.2.2.2.1, .int u22.1.2.2.2.2.2.2.2.2.2.2.2.2.2.2.2.2.2.2.2])), (mc, .inl (E.2.1 0, 139264, .inl u22.2.1)), (sv, .inl (E.2.1 0, 393216, .inl u22.2.2.1)), (sa, .inl (E.2.1 0, 1100, .inl u22.2.2.2.1)), (wr, .inl (E.2.1 1, 1100, .inl u22.2.2.2.2.1)), (bt, .inl (E.2.1 0, 120000, .inl u22.2.2.2.2.2)), (s1, .inl (E.2.1 0, 47, .inl (zF 0))), (s2, .inl (E.2.1 0, 47, .inl (zF 1))), (s3, .inl (E.2.1 0, 47, .inl (zF 2)))] Hn := hPn
        have hD : va_D A [(mo, .inr (5, [.ref s1, .ref s2, .ref s3, .int u22.1.1, .int (nI nx), .ref mc, .int u22.1.2.1, .ref sv, .int u22.1.2.2.1, .ref sa, .ref wr, .int u22.1.2.2.2.1, .ref bt, .int (bI u22.1.2.2.2.2.1), .int u22.1.2.2.2.2.2.1, .int u22.1.2.2.2.2.2.2.1, .int u22.1.2.2.2.2.2.2.2.1, .int u22.1.2.2.2.2.2.2.2.2.1, .int u22.1.2.2.2.2.2.2.2.2.2.1, .int u22.1.2.2.2.2.2.2.2.2.2.2.1, .int u22.1.2.2.2.2.2.2.2.2.2.2.2.1, .int u22.1.2.2.2.2.2.2.2.2.2.2.2.2.1, .long u22.1.2.2.2.2.2.2.2.2.2.2.2.2.2.1, .int u22.1.2.2.2.2.2.2.2.2.2.2.2.2.2.2.1, .int u22.1.2.2.2.2.2.2.2.2.2.2.2.2.2.2.2.1, .int u22.1.2.2.2.2.2.2.2.2.2.2.2.2.2.2.2.2.1, .int (bI u22.1.2.2.2.2.2.2.2.2.2.2.2.2.2.2.2.2.2.1), .int u22.1.2.2.2.2.2.2.2.2.2.2.2.2.2.2.2.2.2.2.1, .int u22.1.2.2.2.2.2.2.2.2.2.2.2.2.2.2.2.2.2.2.2])), (mc, .inl (E.2.1 0, 139264, .inl u22.2.1)), (sv, .inl (E.2.1 0, 393216, .inl u22.2.2.1)), (sa, .inl (E.2.1 0, 1100, .inl u22.2.2.2.1)), (wr, .inl (E.2.1 1, 1100, .inl u22.2.2.2.2.1)), (bt, .inl (E.2.1 0, 120000, .inl u22.2.2.2.2.2)), (s1, .inl (E.2.1 0, 47, .inl (zF 0))), (s2, .inl (E.2.1 0, 47, .inl (zF 1))), (s3, .inl (E.2.1 0, 47, .inl (zF 2)))] := hDn
        have hS := hSn
        clear hPn hDn hSn
        refine lv_iadd hx hb d_M_passWhole_175 ?_
        refine lv_topi (fun x23 ex23 => ?_)
        replace hok := hok x23 ex23
        refine lv_istore (lv' := [(8, .int x23), (7, .int 32), (0, .ref mo), (1, .int p0), (2, .int p1), (3, .int k3), (4, .int k4), (5, .int k5), (6, .int (bI b6))]) hx hb d_M_passWhole_176 hl (by decide) rfl (fun ls hl => ?_)
        refine lv_iload_n hx hb d_M_passWhole_178 rfl (lv_at hl 5 rfl) ?_
        refine lv_if_ne (tgt := 187) hx hb d_M_passWhole_179 (by decide) (fun c24 => ?_) (fun c24 => ?_)
        · replace hok := hok.2 c24
          refine lv_iload hx hb d_M_passWhole_187 (lv_at hl 0 rfl) ?_
          refine lv_if_ne (tgt := 197) hx hb d_M_passWhole_189 (by decide) (fun c25 => ?_) (fun c25 => ?_)
          · replace hok := hok.2 c25
            refine lv_iload hx hb d_M_passWhole_197 (lv_at hl 0 rfl) ?_
            refine ar_ineg hx hb d_M_passWhole_199 ?_
            exact ar_iret hx hb hr hlocks hK hS u22 (by subst ex23; subst hw22b; subst hw22a; subst hw19; exact pr_of (Eq.trans (g_M_passWhole_s nx p0 p1 n st k3 k4 k5 b6) (Eq.trans (if_pos c1) (Eq.trans (if_pos c2) (Eq.trans (if_neg c24) (Eq.trans (if_neg c25) rfl)))))) hP hD d_M_passWhole_200
          · replace hok := hok.1 c25
            refine lv_ldc (v := (-2147483648)) hx hb hown (hts _ m_825) d_M_passWhole_192 ?_
            refine lv_goto (tgt := 200) hx hb d_M_passWhole_194 (by decide) ?_
            exact ar_iret hx hb hr hlocks hK hS u22 (by subst ex23; subst hw22b; subst hw22a; subst hw19; exact pr_of (Eq.trans (g_M_passWhole_s nx p0 p1 n st k3 k4 k5 b6) (Eq.trans (if_pos c1) (Eq.trans (if_pos c2) (Eq.trans (if_neg c24) (Eq.trans (if_pos c25) rfl)))))) hP hD d_M_passWhole_200
        · replace hok := hok.1 c24
          refine lv_iload hx hb d_M_passWhole_182 (lv_at hl 0 rfl) ?_
          refine lv_goto (tgt := 200) hx hb d_M_passWhole_184 (by decide) ?_
          exact ar_iret hx hb hr hlocks hK hS u22 (by subst ex23; subst hw22b; subst hw22a; subst hw19; exact pr_of (Eq.trans (g_M_passWhole_s nx p0 p1 n st k3 k4 k5 b6) (Eq.trans (if_pos c1) (Eq.trans (if_pos c2) (Eq.trans (if_pos c24) rfl))))) hP hD d_M_passWhole_200
    · replace hok := hok.2 c1
      refine lv_iload hx hb d_M_passWhole_67 (lv_at hl 5 rfl) ?_
      refine lv_iconst (v := 5) hx hb d_M_passWhole_69 (by decide) ?_
      refine lv_icmp_ge (tgt := 125) hx hb d_M_passWhole_70 (by decide) (fun c26 => ?_) (fun c26 => ?_)
      · replace hok := hok.1 c26
        refine lv_iload hx hb d_M_passWhole_125 (lv_at hl 5 rfl) ?_
        refine lv_iconst (v := 5) hx hb d_M_passWhole_127 (by decide) ?_
        refine lv_icmp_ne (tgt := 136) hx hb d_M_passWhole_128 (by decide) (fun c27 => ?_) (fun c27 => ?_)
        · replace hok := hok.2 c27
          refine lv_iload hx hb d_M_passWhole_136 (lv_at hl 5 rfl) ?_
          refine lv_iconst (v := 4) hx hb d_M_passWhole_138 (by decide) ?_
          refine lv_icmp_ne (tgt := 147) hx hb d_M_passWhole_139 (by decide) (fun c28 => ?_) (fun c28 => ?_)
          · replace hok := hok.2 c28
            refine lv_iconst (v := 2) hx hb d_M_passWhole_147 (by decide) ?_
            refine lv_iconst (v := 2) hx hb d_M_passWhole_148 (by decide) ?_
            refine lv_iload hx hb d_M_passWhole_149 (lv_at hl 5 rfl) ?_
            refine lv_imul hx hb d_M_passWhole_151 ?_
            refine lv_iadd hx hb d_M_passWhole_152 ?_
            refine lv_topi (fun x29 ex29 => ?_)
            replace hok := hok x29 ex29
            refine lv_istore (lv' := [(7, .int x29), (0, .ref mo), (1, .int p0), (2, .int p1), (3, .int k3), (4, .int k4), (5, .int k5), (6, .int (bI b6))]) hx hb d_M_passWhole_153 hl (by decide) rfl (fun ls hl => ?_)
            refine lv_iload hx hb d_M_passWhole_155 (lv_at hl 6 rfl) ?_
            refine ar_usei (wr := [(mo, .inr (5, [.ref s1, .ref s2, .ref s3, .int st.1.1, .int (nI nx), .ref mc, .int st.1.2.1, .ref sv, .int st.1.2.2.1, .ref sa, .ref wr, .int st.1.2.2.2.1, .ref bt, .int (bI st.1.2.2.2.2.1), .int st.1.2.2.2.2.2.1, .int st.1.2.2.2.2.2.2.1, .int st.1.2.2.2.2.2.2.2.1, .int st.1.2.2.2.2.2.2.2.2.1, .int st.1.2.2.2.2.2.2.2.2.2.1, .int st.1.2.2.2.2.2.2.2.2.2.2.1, .int st.1.2.2.2.2.2.2.2.2.2.2.2.1, .int st.1.2.2.2.2.2.2.2.2.2.2.2.2.1, .long st.1.2.2.2.2.2.2.2.2.2.2.2.2.2.1, .int st.1.2.2.2.2.2.2.2.2.2.2.2.2.2.2.1, .int st.1.2.2.2.2.2.2.2.2.2.2.2.2.2.2.2.1, .int st.1.2.2.2.2.2.2.2.2.2.2.2.2.2.2.2.2.1, .int (bI st.1.2.2.2.2.2.2.2.2.2.2.2.2.2.2.2.2.2.1), .int st.1.2.2.2.2.2.2.2.2.2.2.2.2.2.2.2.2.2.2.1, .int st.1.2.2.2.2.2.2.2.2.2.2.2.2.2.2.2.2.2.2.2])), (mc, .inl (E.2.1 0, 139264, .inl st.2.1)), (sv, .inl (E.2.1 0, 393216, .inl st.2.2.1)), (sa, .inl (E.2.1 0, 1100, .inl st.2.2.2.1)), (wr, .inl (E.2.1 1, 1100, .inl st.2.2.2.2.1)), (bt, .inl (E.2.1 0, 120000, .inl st.2.2.2.2.2)), (s1, .inl (E.2.1 0, 47, .inl (zF 0))), (s2, .inl (E.2.1 0, 47, .inl (zF 1))), (s3, .inl (E.2.1 0, 47, .inl (zF 2)))]) hP hD hS hA [] [0, 1, 2, 3, 4, 5, 6, 7, 8] rfl rfl rfl (by decide) (ar_runS (n := 1) (As := [.int k5]) (rest := []) hx hb hml hown hts hP hD hS hA hK hZ (c_M_leastOf l E _   k5 ) m_826 m_827 m_7 m_828 (by decide +kernel) ⟨Nat.le_of_ble_eq_true rfl, Nat.le_of_ble_eq_true rfl⟩ [] rfl rfl rfl rfl hl.1 rfl (Nat.le_of_ble_eq_true rfl) d_M_passWhole_157 ⟨Nat.le_of_ble_eq_true rfl, Nat.le_of_ble_eq_true rfl⟩) (fun r30 _ Hn locsn hw30 hPn hDn hSn => ?_)
            replace hok := hok r30 hw30
            clear hP hD hS
            have hP : va_P E.1 classes [(mo, .inr (5, [.ref s1, .ref s2, .ref s3, .int st.1.1, .int (nI nx), .ref mc, .int st.1.2.1, .ref sv, .int st.1.2.2.1, .ref sa, .ref wr, .int st.1.2.2.2.1, .ref bt, .int (bI st.1.2.2.2.2.1), .int st.1.2.2.2.2.2.1, .int st.1.2.2.2.2.2.2.1, .int st.1.2.2.2.2.2.2.2.1, .int st.1.2.2.2.2.2.2.2.2.1, .int st.1.2.2.2.2.2.2.2.2.2.1, .int st.1.2.2.2.2.2.2.2.2.2.2.1, .int st.1.2.2.2.2.2.2.2.2.2.2.2.1, .int st.1.2.2.2.2.2.2.2.2.2.2.2.2.1, .long st.1.2.2.2.2.2.2.2.2.2.2.2.2.2.1, .int st.1.2.2.2.2.2.2.2.2.2.2.2.2.2.2.1, .int st.1.2.2.2.2.2.2.2.2.2.2.2.2.2.2.2.1, .int st.1.2.2.2.2.2.2.2.2.2.2.2.2.2.2.2.2.1, .int (bI st.1.2.2.2.2.2.2.2.2.2.2.2.2.2.2.2.2.2.1), .int st.1.2.2.2.2.2.2.2.2.2.2.2.2.2.2.2.2.2.2.1, .int st.1.2.2.2.2.2.2.2.2.2.2.2.2.2.2.2.2.2.2.2])), (mc, .inl (E.2.1 0, 139264, .inl st.2.1)), (sv, .inl (E.2.1 0, 393216, .inl st.2.2.1)), (sa, .inl (E.2.1 0, 1100, .inl st.2.2.2.1)), (wr, .inl (E.2.1 1, 1100, .inl st.2.2.2.2.1)), (bt, .inl (E.2.1 0, 120000, .inl st.2.2.2.2.2)), (s1, .inl (E.2.1 0, 47, .inl (zF 0))), (s2, .inl (E.2.1 0, 47, .inl (zF 1))), (s3, .inl (E.2.1 0, 47, .inl (zF 2)))] Hn := hPn
            have hD : va_D A [(mo, .inr (5, [.ref s1, .ref s2, .ref s3, .int st.1.1, .int (nI nx), .ref mc, .int st.1.2.1, .ref sv, .int st.1.2.2.1, .ref sa, .ref wr, .int st.1.2.2.2.1, .ref bt, .int (bI st.1.2.2.2.2.1), .int st.1.2.2.2.2.2.1, .int st.1.2.2.2.2.2.2.1, .int st.1.2.2.2.2.2.2.2.1, .int st.1.2.2.2.2.2.2.2.2.1, .int st.1.2.2.2.2.2.2.2.2.2.1, .int st.1.2.2.2.2.2.2.2.2.2.2.1, .int st.1.2.2.2.2.2.2.2.2.2.2.2.1, .int st.1.2.2.2.2.2.2.2.2.2.2.2.2.1, .long st.1.2.2.2.2.2.2.2.2.2.2.2.2.2.1, .int st.1.2.2.2.2.2.2.2.2.2.2.2.2.2.2.1, .int st.1.2.2.2.2.2.2.2.2.2.2.2.2.2.2.2.1, .int st.1.2.2.2.2.2.2.2.2.2.2.2.2.2.2.2.2.1, .int (bI st.1.2.2.2.2.2.2.2.2.2.2.2.2.2.2.2.2.2.1), .int st.1.2.2.2.2.2.2.2.2.2.2.2.2.2.2.2.2.2.2.1, .int st.1.2.2.2.2.2.2.2.2.2.2.2.2.2.2.2.2.2.2.2])), (mc, .inl (E.2.1 0, 139264, .inl st.2.1)), (sv, .inl (E.2.1 0, 393216, .inl st.2.2.1)), (sa, .inl (E.2.1 0, 1100, .inl st.2.2.2.1)), (wr, .inl (E.2.1 1, 1100, .inl st.2.2.2.2.1)), (bt, .inl (E.2.1 0, 120000, .inl st.2.2.2.2.2)), (s1, .inl (E.2.1 0, 47, .inl (zF 0))), (s2, .inl (E.2.1 0, 47, .inl (zF 1))), (s3, .inl (E.2.1 0, 47, .inl (zF 2)))] := hDn
            have hS := hSn
            clear hPn hDn hSn
            refine lv_aload_n hx hb d_M_passWhole_160 rfl (lv_at hl 1 rfl) ?_
            refine lv_iload_n hx hb d_M_passWhole_161 rfl (lv_at hl 2 rfl) ?_
            refine lv_iload hx hb d_M_passWhole_162 (lv_at hl 5 rfl) ?_
            refine lv_iload hx hb d_M_passWhole_164 (lv_at hl 6 rfl) ?_
            refine ar_usei (wr := [(mo, .inr (5, [.ref s1, .ref s2, .ref s3, .int st.1.1, .int (nI nx), .ref mc, .int st.1.2.1, .ref sv, .int st.1.2.2.1, .ref sa, .ref wr, .int st.1.2.2.2.1, .ref bt, .int (bI st.1.2.2.2.2.1), .int st.1.2.2.2.2.2.1, .int st.1.2.2.2.2.2.2.1, .int st.1.2.2.2.2.2.2.2.1, .int st.1.2.2.2.2.2.2.2.2.1, .int st.1.2.2.2.2.2.2.2.2.2.1, .int st.1.2.2.2.2.2.2.2.2.2.2.1, .int st.1.2.2.2.2.2.2.2.2.2.2.2.1, .int st.1.2.2.2.2.2.2.2.2.2.2.2.2.1, .long st.1.2.2.2.2.2.2.2.2.2.2.2.2.2.1, .int st.1.2.2.2.2.2.2.2.2.2.2.2.2.2.2.1, .int st.1.2.2.2.2.2.2.2.2.2.2.2.2.2.2.2.1, .int st.1.2.2.2.2.2.2.2.2.2.2.2.2.2.2.2.2.1, .int (bI st.1.2.2.2.2.2.2.2.2.2.2.2.2.2.2.2.2.2.1), .int st.1.2.2.2.2.2.2.2.2.2.2.2.2.2.2.2.2.2.2.1, .int st.1.2.2.2.2.2.2.2.2.2.2.2.2.2.2.2.2.2.2.2])), (mc, .inl (E.2.1 0, 139264, .inl st.2.1)), (sv, .inl (E.2.1 0, 393216, .inl st.2.2.1)), (sa, .inl (E.2.1 0, 1100, .inl st.2.2.2.1)), (wr, .inl (E.2.1 1, 1100, .inl st.2.2.2.2.1)), (bt, .inl (E.2.1 0, 120000, .inl st.2.2.2.2.2)), (s1, .inl (E.2.1 0, 47, .inl (zF 0))), (s2, .inl (E.2.1 0, 47, .inl (zF 1))), (s3, .inl (E.2.1 0, 47, .inl (zF 2)))]) hP hD hS hA [] [0, 1, 2, 3, 4, 5, 6, 7, 8] rfl rfl rfl (by decide) (ar_runS (n := 1) (As := [.int k5]) (rest := [.int k4, .int p0, .ref mo, .int r30]) hx hb hml hown hts hP hD hS hA hK hZ (c_M_leastOf l E _   k5 ) m_826 m_827 m_7 m_828 (by decide +kernel) ⟨Nat.le_of_ble_eq_true rfl, Nat.le_of_ble_eq_true rfl⟩ [] rfl rfl rfl rfl hl.1 rfl (Nat.le_of_ble_eq_true rfl) d_M_passWhole_166 ⟨Nat.le_of_ble_eq_true rfl, Nat.le_of_ble_eq_true rfl⟩) (fun r31 _ Hn locsn hw31 hPn hDn hSn => ?_)
            rw [← hw30] at hw31
            subst r31
            clear hP hD hS
            have hP : va_P E.1 classes [(mo, .inr (5, [.ref s1, .ref s2, .ref s3, .int st.1.1, .int (nI nx), .ref mc, .int st.1.2.1, .ref sv, .int st.1.2.2.1, .ref sa, .ref wr, .int st.1.2.2.2.1, .ref bt, .int (bI st.1.2.2.2.2.1), .int st.1.2.2.2.2.2.1, .int st.1.2.2.2.2.2.2.1, .int st.1.2.2.2.2.2.2.2.1, .int st.1.2.2.2.2.2.2.2.2.1, .int st.1.2.2.2.2.2.2.2.2.2.1, .int st.1.2.2.2.2.2.2.2.2.2.2.1, .int st.1.2.2.2.2.2.2.2.2.2.2.2.1, .int st.1.2.2.2.2.2.2.2.2.2.2.2.2.1, .long st.1.2.2.2.2.2.2.2.2.2.2.2.2.2.1, .int st.1.2.2.2.2.2.2.2.2.2.2.2.2.2.2.1, .int st.1.2.2.2.2.2.2.2.2.2.2.2.2.2.2.2.1, .int st.1.2.2.2.2.2.2.2.2.2.2.2.2.2.2.2.2.1, .int (bI st.1.2.2.2.2.2.2.2.2.2.2.2.2.2.2.2.2.2.1), .int st.1.2.2.2.2.2.2.2.2.2.2.2.2.2.2.2.2.2.2.1, .int st.1.2.2.2.2.2.2.2.2.2.2.2.2.2.2.2.2.2.2.2])), (mc, .inl (E.2.1 0, 139264, .inl st.2.1)), (sv, .inl (E.2.1 0, 393216, .inl st.2.2.1)), (sa, .inl (E.2.1 0, 1100, .inl st.2.2.2.1)), (wr, .inl (E.2.1 1, 1100, .inl st.2.2.2.2.1)), (bt, .inl (E.2.1 0, 120000, .inl st.2.2.2.2.2)), (s1, .inl (E.2.1 0, 47, .inl (zF 0))), (s2, .inl (E.2.1 0, 47, .inl (zF 1))), (s3, .inl (E.2.1 0, 47, .inl (zF 2)))] Hn := hPn
            have hD : va_D A [(mo, .inr (5, [.ref s1, .ref s2, .ref s3, .int st.1.1, .int (nI nx), .ref mc, .int st.1.2.1, .ref sv, .int st.1.2.2.1, .ref sa, .ref wr, .int st.1.2.2.2.1, .ref bt, .int (bI st.1.2.2.2.2.1), .int st.1.2.2.2.2.2.1, .int st.1.2.2.2.2.2.2.1, .int st.1.2.2.2.2.2.2.2.1, .int st.1.2.2.2.2.2.2.2.2.1, .int st.1.2.2.2.2.2.2.2.2.2.1, .int st.1.2.2.2.2.2.2.2.2.2.2.1, .int st.1.2.2.2.2.2.2.2.2.2.2.2.1, .int st.1.2.2.2.2.2.2.2.2.2.2.2.2.1, .long st.1.2.2.2.2.2.2.2.2.2.2.2.2.2.1, .int st.1.2.2.2.2.2.2.2.2.2.2.2.2.2.2.1, .int st.1.2.2.2.2.2.2.2.2.2.2.2.2.2.2.2.1, .int st.1.2.2.2.2.2.2.2.2.2.2.2.2.2.2.2.2.1, .int (bI st.1.2.2.2.2.2.2.2.2.2.2.2.2.2.2.2.2.2.1), .int st.1.2.2.2.2.2.2.2.2.2.2.2.2.2.2.2.2.2.2.1, .int st.1.2.2.2.2.2.2.2.2.2.2.2.2.2.2.2.2.2.2.2])), (mc, .inl (E.2.1 0, 139264, .inl st.2.1)), (sv, .inl (E.2.1 0, 393216, .inl st.2.2.1)), (sa, .inl (E.2.1 0, 1100, .inl st.2.2.2.1)), (wr, .inl (E.2.1 1, 1100, .inl st.2.2.2.2.1)), (bt, .inl (E.2.1 0, 120000, .inl st.2.2.2.2.2)), (s1, .inl (E.2.1 0, 47, .inl (zF 0))), (s2, .inl (E.2.1 0, 47, .inl (zF 1))), (s3, .inl (E.2.1 0, 47, .inl (zF 2)))] := hDn
            have hS := hSn
            clear hPn hDn hSn
            refine lv_isub hx hb d_M_passWhole_169 ?_
            refine lv_iload hx hb d_M_passWhole_170 (lv_at hl 0 rfl) ?_
            obtain ⟨hk32, hok⟩ := hok
            refine ar_usei (wr := []) hP hD hS hA [0, 1, 2, 3, 4, 5, 6, 7, 8] [] rfl rfl rfl (by decide) (ar_runV (n := 3) (As := [.int p0, .int (k4 - r30), .int x29]) (rest := [.int r30]) (ci := 5) (q0 := 0) hx hb hml hown hts hP hD hS hA hK hZ (c_M_passNumber l E _ mo mc sv sa wr bt s1 s2 s3 nx st p0 (k4 - r30) x29 hk32) m_829 m_831 ms_41 m_7 m_832 (by decide +kernel) ⟨Nat.le_of_ble_eq_true rfl, Nat.le_of_ble_eq_true rfl⟩ [0, 1, 2, 3, 4, 5, 6, 7, 8] rfl rfl rfl rfl rfl rfl rfl hl.1 rfl (Nat.le_of_ble_eq_true rfl) d_M_passWhole_172 ⟨Nat.le_of_ble_eq_true rfl, Nat.le_of_ble_eq_true rfl⟩) (fun r33 u33 Hn locsn hw33 hPn hDn hSn => ?_)
            obtain ⟨hw33a, hw33b⟩ := hw33
            replace hok := hok r33 hw33a
            replace hok := hok u33 hw33b
            clear hP hD hS
            have hP : va_P E.1 classes [(mo, .inr (5, [.ref s1, .ref s2, .ref s3, .int u33.1.1, .int (nI nx), .ref mc, .int u33.1.2.1, .ref sv, .int u33.1.2.2.1, .ref sa, .ref wr, .int u33.1.2.2.2.1, .ref bt, .int (bI u33.1.2.2.2.2.1), .int u33.1.2.2.2.2.2.1, .int u33.1.2.2.2.2.2.2.1, .int u33.1.2.2.2.2.2.2.2.1, .int u33.1.2.2.2.2.2.2.2.2.1, .int u33.1.2.2.2.2.2.2.2.2.2.1, .int u33.1.2.2.2.2.2.2.2.2.2.2.1, .int u33.1.2.2.2.2.2.2.2.2.2.2.2.1, .int u33.1.2.2.2.2.2.2.2.2.2.2.2.2.1, .long u33.1.2.2.2.2.2.2.2.2.2.2.2.2.2.1, .int u33.1.2.2.2.2.2.2.2.2.2.2.2.2.2.2.1, .int u33.1.2.2.2.2.2.2.2.2.2.2.2.2.2.2.2.1, .int u33.1.2.2.2.2.2.2.2.2.2.2.2.2.2.2.2.2.1, .int (bI u33.1.2.2.2.2.2.2.2.2.2.2.2.2.2.2.2.2.2.1), .int u33.1.2.2.2.2.2.2.2.2.2.2.2.2.2.2.2.2.2.2.1, .int u33.1.2.2.2.2.2.2.2.2.2.2.2.2.2.2.2.2.2.2.2])), (mc, .inl (E.2.1 0, 139264, .inl u33.2.1)), (sv, .inl (E.2.1 0, 393216, .inl u33.2.2.1)), (sa, .inl (E.2.1 0, 1100, .inl u33.2.2.2.1)), (wr, .inl (E.2.1 1, 1100, .inl u33.2.2.2.2.1)), (bt, .inl (E.2.1 0, 120000, .inl u33.2.2.2.2.2)), (s1, .inl (E.2.1 0, 47, .inl (zF 0))), (s2, .inl (E.2.1 0, 47, .inl (zF 1))), (s3, .inl (E.2.1 0, 47, .inl (zF 2)))] Hn := hPn
            have hD : va_D A [(mo, .inr (5, [.ref s1, .ref s2, .ref s3, .int u33.1.1, .int (nI nx), .ref mc, .int u33.1.2.1, .ref sv, .int u33.1.2.2.1, .ref sa, .ref wr, .int u33.1.2.2.2.1, .ref bt, .int (bI u33.1.2.2.2.2.1), .int u33.1.2.2.2.2.2.1, .int u33.1.2.2.2.2.2.2.1, .int u33.1.2.2.2.2.2.2.2.1, .int u33.1.2.2.2.2.2.2.2.2.1, .int u33.1.2.2.2.2.2.2.2.2.2.1, .int u33.1.2.2.2.2.2.2.2.2.2.2.1, .int u33.1.2.2.2.2.2.2.2.2.2.2.2.1, .int u33.1.2.2.2.2.2.2.2.2.2.2.2.2.1, .long u33.1.2.2.2.2.2.2.2.2.2.2.2.2.2.1, .int u33.1.2.2.2.2.2.2.2.2.2.2.2.2.2.2.1, .int u33.1.2.2.2.2.2.2.2.2.2.2.2.2.2.2.2.1, .int u33.1.2.2.2.2.2.2.2.2.2.2.2.2.2.2.2.2.1, .int (bI u33.1.2.2.2.2.2.2.2.2.2.2.2.2.2.2.2.2.2.1), .int u33.1.2.2.2.2.2.2.2.2.2.2.2.2.2.2.2.2.2.2.1, .int u33.1.2.2.2.2.2.2.2.2.2.2.2.2.2.2.2.2.2.2.2])), (mc, .inl (E.2.1 0, 139264, .inl u33.2.1)), (sv, .inl (E.2.1 0, 393216, .inl u33.2.2.1)), (sa, .inl (E.2.1 0, 1100, .inl u33.2.2.2.1)), (wr, .inl (E.2.1 1, 1100, .inl u33.2.2.2.2.1)), (bt, .inl (E.2.1 0, 120000, .inl u33.2.2.2.2.2)), (s1, .inl (E.2.1 0, 47, .inl (zF 0))), (s2, .inl (E.2.1 0, 47, .inl (zF 1))), (s3, .inl (E.2.1 0, 47, .inl (zF 2)))] := hDn
            have hS := hSn
            clear hPn hDn hSn
            refine lv_iadd hx hb d_M_passWhole_175 ?_
            refine lv_topi (fun x34 ex34 => ?_)
            replace hok := hok x34 ex34
            refine lv_istore (lv' := [(8, .int x34), (7, .int x29), (0, .ref mo), (1, .int p0), (2, .int p1), (3, .int k3), (4, .int k4), (5, .int k5), (6, .int (bI b6))]) hx hb d_M_passWhole_176 hl (by decide) rfl (fun ls hl => ?_)
            refine lv_iload_n hx hb d_M_passWhole_178 rfl (lv_at hl 5 rfl) ?_
            refine lv_if_ne (tgt := 187) hx hb d_M_passWhole_179 (by decide) (fun c35 => ?_) (fun c35 => ?_)
            · replace hok := hok.2 c35
              refine lv_iload hx hb d_M_passWhole_187 (lv_at hl 0 rfl) ?_
              refine lv_if_ne (tgt := 197) hx hb d_M_passWhole_189 (by decide) (fun c36 => ?_) (fun c36 => ?_)
              · replace hok := hok.2 c36
                refine lv_iload hx hb d_M_passWhole_197 (lv_at hl 0 rfl) ?_
                refine ar_ineg hx hb d_M_passWhole_199 ?_
                exact ar_iret hx hb hr hlocks hK hS u33 (by subst ex34; subst hw33b; subst hw33a; subst hw30; subst ex29; exact pr_of (Eq.trans (g_M_passWhole_s nx p0 p1 n st k3 k4 k5 b6) (Eq.trans (if_neg c1) (Eq.trans (if_pos c26) (Eq.trans (if_neg c27) (Eq.trans (if_neg c28) (Eq.trans (if_neg c35) (Eq.trans (if_neg c36) rfl)))))))) hP hD d_M_passWhole_200
              · replace hok := hok.1 c36
                refine lv_ldc (v := (-2147483648)) hx hb hown (hts _ m_825) d_M_passWhole_192 ?_
                refine lv_goto (tgt := 200) hx hb d_M_passWhole_194 (by decide) ?_
                exact ar_iret hx hb hr hlocks hK hS u33 (by subst ex34; subst hw33b; subst hw33a; subst hw30; subst ex29; exact pr_of (Eq.trans (g_M_passWhole_s nx p0 p1 n st k3 k4 k5 b6) (Eq.trans (if_neg c1) (Eq.trans (if_pos c26) (Eq.trans (if_neg c27) (Eq.trans (if_neg c28) (Eq.trans (if_neg c35) (Eq.trans (if_pos c36) rfl)))))))) hP hD d_M_passWhole_200
            · replace hok := hok.1 c35
              refine lv_iload hx hb d_M_passWhole_182 (lv_at hl 0 rfl) ?_
              refine lv_goto (tgt := 200) hx hb d_M_passWhole_184 (by decide) ?_
              exact ar_iret hx hb hr hlocks hK hS u33 (by subst ex34; subst hw33b; subst hw33a; subst hw30; subst ex29; exact pr_of (Eq.trans (g_M_passWhole_s nx p0 p1 n st k3 k4 k5 b6) (Eq.trans (if_neg c1) (Eq.trans (if_pos c26) (Eq.trans (if_neg c27) (Eq.trans (if_neg c28) (Eq.trans (if_pos c35) rfl))))))) hP hD d_M_passWhole_200
          · replace hok := hok.1 c28
            refine lv_bipush (v := 12) hx hb d_M_passWhole_142 (by decide) ?_
            refine lv_goto (tgt := 153) hx hb d_M_passWhole_144 (by decide) ?_
            refine lv_istore (lv' := [(7, .int 12), (0, .ref mo), (1, .int p0), (2, .int p1), (3, .int k3), (4, .int k4), (5, .int k5), (6, .int (bI b6))]) hx hb d_M_passWhole_153 hl (by decide) rfl (fun ls hl => ?_)
            refine lv_iload hx hb d_M_passWhole_155 (lv_at hl 6 rfl) ?_
            refine ar_usei (wr := [(mo, .inr (5, [.ref s1, .ref s2, .ref s3, .int st.1.1, .int (nI nx), .ref mc, .int st.1.2.1, .ref sv, .int st.1.2.2.1, .ref sa, .ref wr, .int st.1.2.2.2.1, .ref bt, .int (bI st.1.2.2.2.2.1), .int st.1.2.2.2.2.2.1, .int st.1.2.2.2.2.2.2.1, .int st.1.2.2.2.2.2.2.2.1, .int st.1.2.2.2.2.2.2.2.2.1, .int st.1.2.2.2.2.2.2.2.2.2.1, .int st.1.2.2.2.2.2.2.2.2.2.2.1, .int st.1.2.2.2.2.2.2.2.2.2.2.2.1, .int st.1.2.2.2.2.2.2.2.2.2.2.2.2.1, .long st.1.2.2.2.2.2.2.2.2.2.2.2.2.2.1, .int st.1.2.2.2.2.2.2.2.2.2.2.2.2.2.2.1, .int st.1.2.2.2.2.2.2.2.2.2.2.2.2.2.2.2.1, .int st.1.2.2.2.2.2.2.2.2.2.2.2.2.2.2.2.2.1, .int (bI st.1.2.2.2.2.2.2.2.2.2.2.2.2.2.2.2.2.2.1), .int st.1.2.2.2.2.2.2.2.2.2.2.2.2.2.2.2.2.2.2.1, .int st.1.2.2.2.2.2.2.2.2.2.2.2.2.2.2.2.2.2.2.2])), (mc, .inl (E.2.1 0, 139264, .inl st.2.1)), (sv, .inl (E.2.1 0, 393216, .inl st.2.2.1)), (sa, .inl (E.2.1 0, 1100, .inl st.2.2.2.1)), (wr, .inl (E.2.1 1, 1100, .inl st.2.2.2.2.1)), (bt, .inl (E.2.1 0, 120000, .inl st.2.2.2.2.2)), (s1, .inl (E.2.1 0, 47, .inl (zF 0))), (s2, .inl (E.2.1 0, 47, .inl (zF 1))), (s3, .inl (E.2.1 0, 47, .inl (zF 2)))]) hP hD hS hA [] [0, 1, 2, 3, 4, 5, 6, 7, 8] rfl rfl rfl (by decide) (ar_runS (n := 1) (As := [.int k5]) (rest := []) hx hb hml hown hts hP hD hS hA hK hZ (c_M_leastOf l E _   k5 ) m_826 m_827 m_7 m_828 (by decide +kernel) ⟨Nat.le_of_ble_eq_true rfl, Nat.le_of_ble_eq_true rfl⟩ [] rfl rfl rfl rfl hl.1 rfl (Nat.le_of_ble_eq_true rfl) d_M_passWhole_157 ⟨Nat.le_of_ble_eq_true rfl, Nat.le_of_ble_eq_true rfl⟩) (fun r37 _ Hn locsn hw37 hPn hDn hSn => ?_)
            replace hok := hok r37 hw37
            clear hP hD hS
            have hP : va_P E.1 classes [(mo, .inr (5, [.ref s1, .ref s2, .ref s3, .int st.1.1, .int (nI nx), .ref mc, .int st.1.2.1, .ref sv, .int st.1.2.2.1, .ref sa, .ref wr, .int st.1.2.2.2.1, .ref bt, .int (bI st.1.2.2.2.2.1), .int st.1.2.2.2.2.2.1, .int st.1.2.2.2.2.2.2.1, .int st.1.2.2.2.2.2.2.2.1, .int st.1.2.2.2.2.2.2.2.2.1, .int st.1.2.2.2.2.2.2.2.2.2.1, .int st.1.2.2.2.2.2.2.2.2.2.2.1, .int st.1.2.2.2.2.2.2.2.2.2.2.2.1, .int st.1.2.2.2.2.2.2.2.2.2.2.2.2.1, .long st.1.2.2.2.2.2.2.2.2.2.2.2.2.2.1, .int st.1.2.2.2.2.2.2.2.2.2.2.2.2.2.2.1, .int st.1.2.2.2.2.2.2.2.2.2.2.2.2.2.2.2.1, .int st.1.2.2.2.2.2.2.2.2.2.2.2.2.2.2.2.2.1, .int (bI st.1.2.2.2.2.2.2.2.2.2.2.2.2.2.2.2.2.2.1), .int st.1.2.2.2.2.2.2.2.2.2.2.2.2.2.2.2.2.2.2.1, .int st.1.2.2.2.2.2.2.2.2.2.2.2.2.2.2.2.2.2.2.2])), (mc, .inl (E.2.1 0, 139264, .inl st.2.1)), (sv, .inl (E.2.1 0, 393216, .inl st.2.2.1)), (sa, .inl (E.2.1 0, 1100, .inl st.2.2.2.1)), (wr, .inl (E.2.1 1, 1100, .inl st.2.2.2.2.1)), (bt, .inl (E.2.1 0, 120000, .inl st.2.2.2.2.2)), (s1, .inl (E.2.1 0, 47, .inl (zF 0))), (s2, .inl (E.2.1 0, 47, .inl (zF 1))), (s3, .inl (E.2.1 0, 47, .inl (zF 2)))] Hn := hPn
            have hD : va_D A [(mo, .inr (5, [.ref s1, .ref s2, .ref s3, .int st.1.1, .int (nI nx), .ref mc, .int st.1.2.1, .ref sv, .int st.1.2.2.1, .ref sa, .ref wr, .int st.1.2.2.2.1, .ref bt, .int (bI st.1.2.2.2.2.1), .int st.1.2.2.2.2.2.1, .int st.1.2.2.2.2.2.2.1, .int st.1.2.2.2.2.2.2.2.1, .int st.1.2.2.2.2.2.2.2.2.1, .int st.1.2.2.2.2.2.2.2.2.2.1, .int st.1.2.2.2.2.2.2.2.2.2.2.1, .int st.1.2.2.2.2.2.2.2.2.2.2.2.1, .int st.1.2.2.2.2.2.2.2.2.2.2.2.2.1, .long st.1.2.2.2.2.2.2.2.2.2.2.2.2.2.1, .int st.1.2.2.2.2.2.2.2.2.2.2.2.2.2.2.1, .int st.1.2.2.2.2.2.2.2.2.2.2.2.2.2.2.2.1, .int st.1.2.2.2.2.2.2.2.2.2.2.2.2.2.2.2.2.1, .int (bI st.1.2.2.2.2.2.2.2.2.2.2.2.2.2.2.2.2.2.1), .int st.1.2.2.2.2.2.2.2.2.2.2.2.2.2.2.2.2.2.2.1, .int st.1.2.2.2.2.2.2.2.2.2.2.2.2.2.2.2.2.2.2.2])), (mc, .inl (E.2.1 0, 139264, .inl st.2.1)), (sv, .inl (E.2.1 0, 393216, .inl st.2.2.1)), (sa, .inl (E.2.1 0, 1100, .inl st.2.2.2.1)), (wr, .inl (E.2.1 1, 1100, .inl st.2.2.2.2.1)), (bt, .inl (E.2.1 0, 120000, .inl st.2.2.2.2.2)), (s1, .inl (E.2.1 0, 47, .inl (zF 0))), (s2, .inl (E.2.1 0, 47, .inl (zF 1))), (s3, .inl (E.2.1 0, 47, .inl (zF 2)))] := hDn
            have hS := hSn
            clear hPn hDn hSn
            refine lv_aload_n hx hb d_M_passWhole_160 rfl (lv_at hl 1 rfl) ?_
            refine lv_iload_n hx hb d_M_passWhole_161 rfl (lv_at hl 2 rfl) ?_
            refine lv_iload hx hb d_M_passWhole_162 (lv_at hl 5 rfl) ?_
            refine lv_iload hx hb d_M_passWhole_164 (lv_at hl 6 rfl) ?_
            refine ar_usei (wr := [(mo, .inr (5, [.ref s1, .ref s2, .ref s3, .int st.1.1, .int (nI nx), .ref mc, .int st.1.2.1, .ref sv, .int st.1.2.2.1, .ref sa, .ref wr, .int st.1.2.2.2.1, .ref bt, .int (bI st.1.2.2.2.2.1), .int st.1.2.2.2.2.2.1, .int st.1.2.2.2.2.2.2.1, .int st.1.2.2.2.2.2.2.2.1, .int st.1.2.2.2.2.2.2.2.2.1, .int st.1.2.2.2.2.2.2.2.2.2.1, .int st.1.2.2.2.2.2.2.2.2.2.2.1, .int st.1.2.2.2.2.2.2.2.2.2.2.2.1, .int st.1.2.2.2.2.2.2.2.2.2.2.2.2.1, .long st.1.2.2.2.2.2.2.2.2.2.2.2.2.2.1, .int st.1.2.2.2.2.2.2.2.2.2.2.2.2.2.2.1, .int st.1.2.2.2.2.2.2.2.2.2.2.2.2.2.2.2.1, .int st.1.2.2.2.2.2.2.2.2.2.2.2.2.2.2.2.2.1, .int (bI st.1.2.2.2.2.2.2.2.2.2.2.2.2.2.2.2.2.2.1), .int st.1.2.2.2.2.2.2.2.2.2.2.2.2.2.2.2.2.2.2.1, .int st.1.2.2.2.2.2.2.2.2.2.2.2.2.2.2.2.2.2.2.2])), (mc, .inl (E.2.1 0, 139264, .inl st.2.1)), (sv, .inl (E.2.1 0, 393216, .inl st.2.2.1)), (sa, .inl (E.2.1 0, 1100, .inl st.2.2.2.1)), (wr, .inl (E.2.1 1, 1100, .inl st.2.2.2.2.1)), (bt, .inl (E.2.1 0, 120000, .inl st.2.2.2.2.2)), (s1, .inl (E.2.1 0, 47, .inl (zF 0))), (s2, .inl (E.2.1 0, 47, .inl (zF 1))), (s3, .inl (E.2.1 0, 47, .inl (zF 2)))]) hP hD hS hA [] [0, 1, 2, 3, 4, 5, 6, 7, 8] rfl rfl rfl (by decide) (ar_runS (n := 1) (As := [.int k5]) (rest := [.int k4, .int p0, .ref mo, .int r37]) hx hb hml hown hts hP hD hS hA hK hZ (c_M_leastOf l E _   k5 ) m_826 m_827 m_7 m_828 (by decide +kernel) ⟨Nat.le_of_ble_eq_true rfl, Nat.le_of_ble_eq_true rfl⟩ [] rfl rfl rfl rfl hl.1 rfl (Nat.le_of_ble_eq_true rfl) d_M_passWhole_166 ⟨Nat.le_of_ble_eq_true rfl, Nat.le_of_ble_eq_true rfl⟩) (fun r38 _ Hn locsn hw38 hPn hDn hSn => ?_)
            rw [← hw37] at hw38
            subst r38
            clear hP hD hS
            have hP : va_P E.1 classes [(mo, .inr (5, [.ref s1, .ref s2, .ref s3, .int st.1.1, .int (nI nx), .ref mc, .int st.1.2.1, .ref sv, .int st.1.2.2.1, .ref sa, .ref wr, .int st.1.2.2.2.1, .ref bt, .int (bI st.1.2.2.2.2.1), .int st.1.2.2.2.2.2.1, .int st.1.2.2.2.2.2.2.1, .int st.1.2.2.2.2.2.2.2.1, .int st.1.2.2.2.2.2.2.2.2.1, .int st.1.2.2.2.2.2.2.2.2.2.1, .int st.1.2.2.2.2.2.2.2.2.2.2.1, .int st.1.2.2.2.2.2.2.2.2.2.2.2.1, .int st.1.2.2.2.2.2.2.2.2.2.2.2.2.1, .long st.1.2.2.2.2.2.2.2.2.2.2.2.2.2.1, .int st.1.2.2.2.2.2.2.2.2.2.2.2.2.2.2.1, .int st.1.2.2.2.2.2.2.2.2.2.2.2.2.2.2.2.1, .int st.1.2.2.2.2.2.2.2.2.2.2.2.2.2.2.2.2.1, .int (bI st.1.2.2.2.2.2.2.2.2.2.2.2.2.2.2.2.2.2.1), .int st.1.2.2.2.2.2.2.2.2.2.2.2.2.2.2.2.2.2.2.1, .int st.1.2.2.2.2.2.2.2.2.2.2.2.2.2.2.2.2.2.2.2])), (mc, .inl (E.2.1 0, 139264, .inl st.2.1)), (sv, .inl (E.2.1 0, 393216, .inl st.2.2.1)), (sa, .inl (E.2.1 0, 1100, .inl st.2.2.2.1)), (wr, .inl (E.2.1 1, 1100, .inl st.2.2.2.2.1)), (bt, .inl (E.2.1 0, 120000, .inl st.2.2.2.2.2)), (s1, .inl (E.2.1 0, 47, .inl (zF 0))), (s2, .inl (E.2.1 0, 47, .inl (zF 1))), (s3, .inl (E.2.1 0, 47, .inl (zF 2)))] Hn := hPn
            have hD : va_D A [(mo, .inr (5, [.ref s1, .ref s2, .ref s3, .int st.1.1, .int (nI nx), .ref mc, .int st.1.2.1, .ref sv, .int st.1.2.2.1, .ref sa, .ref wr, .int st.1.2.2.2.1, .ref bt, .int (bI st.1.2.2.2.2.1), .int st.1.2.2.2.2.2.1, .int st.1.2.2.2.2.2.2.1, .int st.1.2.2.2.2.2.2.2.1, .int st.1.2.2.2.2.2.2.2.2.1, .int st.1.2.2.2.2.2.2.2.2.2.1, .int st.1.2.2.2.2.2.2.2.2.2.2.1, .int st.1.2.2.2.2.2.2.2.2.2.2.2.1, .int st.1.2.2.2.2.2.2.2.2.2.2.2.2.1, .long st.1.2.2.2.2.2.2.2.2.2.2.2.2.2.1, .int st.1.2.2.2.2.2.2.2.2.2.2.2.2.2.2.1, .int st.1.2.2.2.2.2.2.2.2.2.2.2.2.2.2.2.1, .int st.1.2.2.2.2.2.2.2.2.2.2.2.2.2.2.2.2.1, .int (bI st.1.2.2.2.2.2.2.2.2.2.2.2.2.2.2.2.2.2.1), .int st.1.2.2.2.2.2.2.2.2.2.2.2.2.2.2.2.2.2.2.1, .int st.1.2.2.2.2.2.2.2.2.2.2.2.2.2.2.2.2.2.2.2])), (mc, .inl (E.2.1 0, 139264, .inl st.2.1)), (sv, .inl (E.2.1 0, 393216, .inl st.2.2.1)), (sa, .inl (E.2.1 0, 1100, .inl st.2.2.2.1)), (wr, .inl (E.2.1 1, 1100, .inl st.2.2.2.2.1)), (bt, .inl (E.2.1 0, 120000, .inl st.2.2.2.2.2)), (s1, .inl (E.2.1 0, 47, .inl (zF 0))), (s2, .inl (E.2.1 0, 47, .inl (zF 1))), (s3, .inl (E.2.1 0, 47, .inl (zF 2)))] := hDn
            have hS := hSn
            clear hPn hDn hSn
            refine lv_isub hx hb d_M_passWhole_169 ?_
            refine lv_iload hx hb d_M_passWhole_170 (lv_at hl 0 rfl) ?_
            obtain ⟨hk39, hok⟩ := hok
            refine ar_usei (wr := []) hP hD hS hA [0, 1, 2, 3, 4, 5, 6, 7, 8] [] rfl rfl rfl (by decide) (ar_runV (n := 3) (As := [.int p0, .int (k4 - r37), .int 12]) (rest := [.int r37]) (ci := 5) (q0 := 0) hx hb hml hown hts hP hD hS hA hK hZ (c_M_passNumber l E _ mo mc sv sa wr bt s1 s2 s3 nx st p0 (k4 - r37) 12 hk39) m_829 m_831 ms_41 m_7 m_832 (by decide +kernel) ⟨Nat.le_of_ble_eq_true rfl, Nat.le_of_ble_eq_true rfl⟩ [0, 1, 2, 3, 4, 5, 6, 7, 8] rfl rfl rfl rfl rfl rfl rfl hl.1 rfl (Nat.le_of_ble_eq_true rfl) d_M_passWhole_172 ⟨Nat.le_of_ble_eq_true rfl, Nat.le_of_ble_eq_true rfl⟩) (fun r40 u40 Hn locsn hw40 hPn hDn hSn => ?_)
            obtain ⟨hw40a, hw40b⟩ := hw40
            replace hok := hok r40 hw40a
            replace hok := hok u40 hw40b
            clear hP hD hS
            have hP : va_P E.1 classes [(mo, .inr (5, [.ref s1, .ref s2, .ref s3, .int u40.1.1, .int (nI nx), .ref mc, .int u40.1.2.1, .ref sv, .int u40.1.2.2.1, .ref sa, .ref wr, .int u40.1.2.2.2.1, .ref bt, .int (bI u40.1.2.2.2.2.1), .int u40.1.2.2.2.2.2.1, .int u40.1.2.2.2.2.2.2.1, .int u40.1.2.2.2.2.2.2.2.1, .int u40.1.2.2.2.2.2.2.2.2.1, .int u40.1.2.2.2.2.2.2.2.2.2.1, .int u40.1.2.2.2.2.2.2.2.2.2.2.1, .int u40.1.2.2.2.2.2.2.2.2.2.2.2.1, .int u40.1.2.2.2.2.2.2.2.2.2.2.2.2.1, .long u40.1.2.2.2.2.2.2.2.2.2.2.2.2.2.1, .int u40.1.2.2.2.2.2.2.2.2.2.2.2.2.2.2.1, .int u40.1.2.2.2.2.2.2.2.2.2.2.2.2.2.2.2.1, .int u40.1.2.2.2.2.2.2.2.2.2.2.2.2.2.2.2.2.1, .int (bI u40.1.2.2.2.2.2.2.2.2.2.2.2.2.2.2.2.2.2.1), .int u40.1.2.2.2.2.2.2.2.2.2.2.2.2.2.2.2.2.2.2.1, .int u40.1.2.2.2.2.2.2.2.2.2.2.2.2.2.2.2.2.2.2.2])), (mc, .inl (E.2.1 0, 139264, .inl u40.2.1)), (sv, .inl (E.2.1 0, 393216, .inl u40.2.2.1)), (sa, .inl (E.2.1 0, 1100, .inl u40.2.2.2.1)), (wr, .inl (E.2.1 1, 1100, .inl u40.2.2.2.2.1)), (bt, .inl (E.2.1 0, 120000, .inl u40.2.2.2.2.2)), (s1, .inl (E.2.1 0, 47, .inl (zF 0))), (s2, .inl (E.2.1 0, 47, .inl (zF 1))), (s3, .inl (E.2.1 0, 47, .inl (zF 2)))] Hn := hPn
            have hD : va_D A [(mo, .inr (5, [.ref s1, .ref s2, .ref s3, .int u40.1.1, .int (nI nx), .ref mc, .int u40.1.2.1, .ref sv, .int u40.1.2.2.1, .ref sa, .ref wr, .int u40.1.2.2.2.1, .ref bt, .int (bI u40.1.2.2.2.2.1), .int u40.1.2.2.2.2.2.1, .int u40.1.2.2.2.2.2.2.1, .int u40.1.2.2.2.2.2.2.2.1, .int u40.1.2.2.2.2.2.2.2.2.1, .int u40.1.2.2.2.2.2.2.2.2.2.1, .int u40.1.2.2.2.2.2.2.2.2.2.2.1, .int u40.1.2.2.2.2.2.2.2.2.2.2.2.1, .int u40.1.2.2.2.2.2.2.2.2.2.2.2.2.1, .long u40.1.2.2.2.2.2.2.2.2.2.2.2.2.2.1, .int u40.1.2.2.2.2.2.2.2.2.2.2.2.2.2.2.1, .int u40.1.2.2.2.2.2.2.2.2.2.2.2.2.2.2.2.1, .int u40.1.2.2.2.2.2.2.2.2.2.2.2.2.2.2.2.2.1, .int (bI u40.1.2.2.2.2.2.2.2.2.2.2.2.2.2.2.2.2.2.1), .int u40.1.2.2.2.2.2.2.2.2.2.2.2.2.2.2.2.2.2.2.1, .int u40.1.2.2.2.2.2.2.2.2.2.2.2.2.2.2.2.2.2.2.2])), (mc, .inl (E.2.1 0, 139264, .inl u40.2.1)), (sv, .inl (E.2.1 0, 393216, .inl u40.2.2.1)), (sa, .inl (E.2.1 0, 1100, .inl u40.2.2.2.1)), (wr, .inl (E.2.1 1, 1100, .inl u40.2.2.2.2.1)), (bt, .inl (E.2.1 0, 120000, .inl u40.2.2.2.2.2)), (s1, .inl (E.2.1 0, 47, .inl (zF 0))), (s2, .inl (E.2.1 0, 47, .inl (zF 1))), (s3, .inl (E.2.1 0, 47, .inl (zF 2)))] := hDn
            have hS := hSn
            clear hPn hDn hSn
            refine lv_iadd hx hb d_M_passWhole_175 ?_
            refine lv_topi (fun x41 ex41 => ?_)
            replace hok := hok x41 ex41
            refine lv_istore (lv' := [(8, .int x41), (7, .int 12), (0, .ref mo), (1, .int p0), (2, .int p1), (3, .int k3), (4, .int k4), (5, .int k5), (6, .int (bI b6))]) hx hb d_M_passWhole_176 hl (by decide) rfl (fun ls hl => ?_)
            refine lv_iload_n hx hb d_M_passWhole_178 rfl (lv_at hl 5 rfl) ?_
            refine lv_if_ne (tgt := 187) hx hb d_M_passWhole_179 (by decide) (fun c42 => ?_) (fun c42 => ?_)
            · replace hok := hok.2 c42
              refine lv_iload hx hb d_M_passWhole_187 (lv_at hl 0 rfl) ?_
              refine lv_if_ne (tgt := 197) hx hb d_M_passWhole_189 (by decide) (fun c43 => ?_) (fun c43 => ?_)
              · replace hok := hok.2 c43
                refine lv_iload hx hb d_M_passWhole_197 (lv_at hl 0 rfl) ?_
                refine ar_ineg hx hb d_M_passWhole_199 ?_
                exact ar_iret hx hb hr hlocks hK hS u40 (by subst ex41; subst hw40b; subst hw40a; subst hw37; exact pr_of (Eq.trans (g_M_passWhole_s nx p0 p1 n st k3 k4 k5 b6) (Eq.trans (if_neg c1) (Eq.trans (if_pos c26) (Eq.trans (if_neg c27) (Eq.trans (if_pos c28) (Eq.trans (if_neg c42) (Eq.trans (if_neg c43) rfl)))))))) hP hD d_M_passWhole_200
              · replace hok := hok.1 c43
                refine lv_ldc (v := (-2147483648)) hx hb hown (hts _ m_825) d_M_passWhole_192 ?_
                refine lv_goto (tgt := 200) hx hb d_M_passWhole_194 (by decide) ?_
                exact ar_iret hx hb hr hlocks hK hS u40 (by subst ex41; subst hw40b; subst hw40a; subst hw37; exact pr_of (Eq.trans (g_M_passWhole_s nx p0 p1 n st k3 k4 k5 b6) (Eq.trans (if_neg c1) (Eq.trans (if_pos c26) (Eq.trans (if_neg c27) (Eq.trans (if_pos c28) (Eq.trans (if_neg c42) (Eq.trans (if_pos c43) rfl)))))))) hP hD d_M_passWhole_200
            · replace hok := hok.1 c42
              refine lv_iload hx hb d_M_passWhole_182 (lv_at hl 0 rfl) ?_
              refine lv_goto (tgt := 200) hx hb d_M_passWhole_184 (by decide) ?_
              exact ar_iret hx hb hr hlocks hK hS u40 (by subst ex41; subst hw40b; subst hw40a; subst hw37; exact pr_of (Eq.trans (g_M_passWhole_s nx p0 p1 n st k3 k4 k5 b6) (Eq.trans (if_neg c1) (Eq.trans (if_pos c26) (Eq.trans (if_neg c27) (Eq.trans (if_pos c28) (Eq.trans (if_pos c42) rfl))))))) hP hD d_M_passWhole_200
        · replace hok := hok.1 c27
          refine lv_bipush (v := 32) hx hb d_M_passWhole_131 (by decide) ?_
          refine lv_goto (tgt := 153) hx hb d_M_passWhole_133 (by decide) ?_
          refine lv_istore (lv' := [(7, .int 32), (0, .ref mo), (1, .int p0), (2, .int p1), (3, .int k3), (4, .int k4), (5, .int k5), (6, .int (bI b6))]) hx hb d_M_passWhole_153 hl (by decide) rfl (fun ls hl => ?_)
          refine lv_iload hx hb d_M_passWhole_155 (lv_at hl 6 rfl) ?_
          refine ar_usei (wr := [(mo, .inr (5, [.ref s1, .ref s2, .ref s3, .int st.1.1, .int (nI nx), .ref mc, .int st.1.2.1, .ref sv, .int st.1.2.2.1, .ref sa, .ref wr, .int st.1.2.2.2.1, .ref bt, .int (bI st.1.2.2.2.2.1), .int st.1.2.2.2.2.2.1, .int st.1.2.2.2.2.2.2.1, .int st.1.2.2.2.2.2.2.2.1, .int st.1.2.2.2.2.2.2.2.2.1, .int st.1.2.2.2.2.2.2.2.2.2.1, .int st.1.2.2.2.2.2.2.2.2.2.2.1, .int st.1.2.2.2.2.2.2.2.2.2.2.2.1, .int st.1.2.2.2.2.2.2.2.2.2.2.2.2.1, .long st.1.2.2.2.2.2.2.2.2.2.2.2.2.2.1, .int st.1.2.2.2.2.2.2.2.2.2.2.2.2.2.2.1, .int st.1.2.2.2.2.2.2.2.2.2.2.2.2.2.2.2.1, .int st.1.2.2.2.2.2.2.2.2.2.2.2.2.2.2.2.2.1, .int (bI st.1.2.2.2.2.2.2.2.2.2.2.2.2.2.2.2.2.2.1), .int st.1.2.2.2.2.2.2.2.2.2.2.2.2.2.2.2.2.2.2.1, .int st.1.2.2.2.2.2.2.2.2.2.2.2.2.2.2.2.2.2.2.2])), (mc, .inl (E.2.1 0, 139264, .inl st.2.1)), (sv, .inl (E.2.1 0, 393216, .inl st.2.2.1)), (sa, .inl (E.2.1 0, 1100, .inl st.2.2.2.1)), (wr, .inl (E.2.1 1, 1100, .inl st.2.2.2.2.1)), (bt, .inl (E.2.1 0, 120000, .inl st.2.2.2.2.2)), (s1, .inl (E.2.1 0, 47, .inl (zF 0))), (s2, .inl (E.2.1 0, 47, .inl (zF 1))), (s3, .inl (E.2.1 0, 47, .inl (zF 2)))]) hP hD hS hA [] [0, 1, 2, 3, 4, 5, 6, 7, 8] rfl rfl rfl (by decide) (ar_runS (n := 1) (As := [.int k5]) (rest := []) hx hb hml hown hts hP hD hS hA hK hZ (c_M_leastOf l E _   k5 ) m_826 m_827 m_7 m_828 (by decide +kernel) ⟨Nat.le_of_ble_eq_true rfl, Nat.le_of_ble_eq_true rfl⟩ [] rfl rfl rfl rfl hl.1 rfl (Nat.le_of_ble_eq_true rfl) d_M_passWhole_157 ⟨Nat.le_of_ble_eq_true rfl, Nat.le_of_ble_eq_true rfl⟩) (fun r44 _ Hn locsn hw44 hPn hDn hSn => ?_)
          replace hok := hok r44 hw44
          clear hP hD hS
          have hP : va_P E.1 classes [(mo, .inr (5, [.ref s1, .ref s2, .ref s3, .int st.1.1, .int (nI nx), .ref mc, .int st.1.2.1, .ref sv, .int st.1.2.2.1, .ref sa, .ref wr, .int st.1.2.2.2.1, .ref bt, .int (bI st.1.2.2.2.2.1), .int st.1.2.2.2.2.2.1, .int st.1.2.2.2.2.2.2.1, .int st.1.2.2.2.2.2.2.2.1, .int st.1.2.2.2.2.2.2.2.2.1, .int st.1.2.2.2.2.2.2.2.2.2.1, .int st.1.2.2.2.2.2.2.2.2.2.2.1, .int st.1.2.2.2.2.2.2.2.2.2.2.2.1, .int st.1.2.2.2.2.2.2.2.2.2.2.2.2.1, .long st.1.2.2.2.2.2.2.2.2.2.2.2.2.2.1, .int st.1.2.2.2.2.2.2.2.2.2.2.2.2.2.2.1, .int st.1.2.2.2.2.2.2.2.2.2.2.2.2.2.2.2.1, .int st.1.2.2.2.2.2.2.2.2.2.2.2.2.2.2.2.2.1, .int (bI st.1.2.2.2.2.2.2.2.2.2.2.2.2.2.2.2.2.2.1), .int st.1.2.2.2.2.2.2.2.2.2.2.2.2.2.2.2.2.2.2.1, .int st.1.2.2.2.2.2.2.2.2.2.2.2.2.2.2.2.2.2.2.2])), (mc, .inl (E.2.1 0, 139264, .inl st.2.1)), (sv, .inl (E.2.1 0, 393216, .inl st.2.2.1)), (sa, .inl (E.2.1 0, 1100, .inl st.2.2.2.1)), (wr, .inl (E.2.1 1, 1100, .inl st.2.2.2.2.1)), (bt, .inl (E.2.1 0, 120000, .inl st.2.2.2.2.2)), (s1, .inl (E.2.1 0, 47, .inl (zF 0))), (s2, .inl (E.2.1 0, 47, .inl (zF 1))), (s3, .inl (E.2.1 0, 47, .inl (zF 2)))] Hn := hPn
          have hD : va_D A [(mo, .inr (5, [.ref s1, .ref s2, .ref s3, .int st.1.1, .int (nI nx), .ref mc, .int st.1.2.1, .ref sv, .int st.1.2.2.1, .ref sa, .ref wr, .int st.1.2.2.2.1, .ref bt, .int (bI st.1.2.2.2.2.1), .int st.1.2.2.2.2.2.1, .int st.1.2.2.2.2.2.2.1, .int st.1.2.2.2.2.2.2.2.1, .int st.1.2.2.2.2.2.2.2.2.1, .int st.1.2.2.2.2.2.2.2.2.2.1, .int st.1.2.2.2.2.2.2.2.2.2.2.1, .int st.1.2.2.2.2.2.2.2.2.2.2.2.1, .int st.1.2.2.2.2.2.2.2.2.2.2.2.2.1, .long st.1.2.2.2.2.2.2.2.2.2.2.2.2.2.1, .int st.1.2.2.2.2.2.2.2.2.2.2.2.2.2.2.1, .int st.1.2.2.2.2.2.2.2.2.2.2.2.2.2.2.2.1, .int st.1.2.2.2.2.2.2.2.2.2.2.2.2.2.2.2.2.1, .int (bI st.1.2.2.2.2.2.2.2.2.2.2.2.2.2.2.2.2.2.1), .int st.1.2.2.2.2.2.2.2.2.2.2.2.2.2.2.2.2.2.2.1, .int st.1.2.2.2.2.2.2.2.2.2.2.2.2.2.2.2.2.2.2.2])), (mc, .inl (E.2.1 0, 139264, .inl st.2.1)), (sv, .inl (E.2.1 0, 393216, .inl st.2.2.1)), (sa, .inl (E.2.1 0, 1100, .inl st.2.2.2.1)), (wr, .inl (E.2.1 1, 1100, .inl st.2.2.2.2.1)), (bt, .inl (E.2.1 0, 120000, .inl st.2.2.2.2.2)), (s1, .inl (E.2.1 0, 47, .inl (zF 0))), (s2, .inl (E.2.1 0, 47, .inl (zF 1))), (s3, .inl (E.2.1 0, 47, .inl (zF 2)))] := hDn
          have hS := hSn
          clear hPn hDn hSn
          refine lv_aload_n hx hb d_M_passWhole_160 rfl (lv_at hl 1 rfl) ?_
          refine lv_iload_n hx hb d_M_passWhole_161 rfl (lv_at hl 2 rfl) ?_
          refine lv_iload hx hb d_M_passWhole_162 (lv_at hl 5 rfl) ?_
          refine lv_iload hx hb d_M_passWhole_164 (lv_at hl 6 rfl) ?_
          refine ar_usei (wr := [(mo, .inr (5, [.ref s1, .ref s2, .ref s3, .int st.1.1, .int (nI nx), .ref mc, .int st.1.2.1, .ref sv, .int st.1.2.2.1, .ref sa, .ref wr, .int st.1.2.2.2.1, .ref bt, .int (bI st.1.2.2.2.2.1), .int st.1.2.2.2.2.2.1, .int st.1.2.2.2.2.2.2.1, .int st.1.2.2.2.2.2.2.2.1, .int st.1.2.2.2.2.2.2.2.2.1, .int st.1.2.2.2.2.2.2.2.2.2.1, .int st.1.2.2.2.2.2.2.2.2.2.2.1, .int st.1.2.2.2.2.2.2.2.2.2.2.2.1, .int st.1.2.2.2.2.2.2.2.2.2.2.2.2.1, .long st.1.2.2.2.2.2.2.2.2.2.2.2.2.2.1, .int st.1.2.2.2.2.2.2.2.2.2.2.2.2.2.2.1, .int st.1.2.2.2.2.2.2.2.2.2.2.2.2.2.2.2.1, .int st.1.2.2.2.2.2.2.2.2.2.2.2.2.2.2.2.2.1, .int (bI st.1.2.2.2.2.2.2.2.2.2.2.2.2.2.2.2.2.2.1), .int st.1.2.2.2.2.2.2.2.2.2.2.2.2.2.2.2.2.2.2.1, .int st.1.2.2.2.2.2.2.2.2.2.2.2.2.2.2.2.2.2.2.2])), (mc, .inl (E.2.1 0, 139264, .inl st.2.1)), (sv, .inl (E.2.1 0, 393216, .inl st.2.2.1)), (sa, .inl (E.2.1 0, 1100, .inl st.2.2.2.1)), (wr, .inl (E.2.1 1, 1100, .inl st.2.2.2.2.1)), (bt, .inl (E.2.1 0, 120000, .inl st.2.2.2.2.2)), (s1, .inl (E.2.1 0, 47, .inl (zF 0))), (s2, .inl (E.2.1 0, 47, .inl (zF 1))), (s3, .inl (E.2.1 0, 47, .inl (zF 2)))]) hP hD hS hA [] [0, 1, 2, 3, 4, 5, 6, 7, 8] rfl rfl rfl (by decide) (ar_runS (n := 1) (As := [.int k5]) (rest := [.int k4, .int p0, .ref mo, .int r44]) hx hb hml hown hts hP hD hS hA hK hZ (c_M_leastOf l E _   k5 ) m_826 m_827 m_7 m_828 (by decide +kernel) ⟨Nat.le_of_ble_eq_true rfl, Nat.le_of_ble_eq_true rfl⟩ [] rfl rfl rfl rfl hl.1 rfl (Nat.le_of_ble_eq_true rfl) d_M_passWhole_166 ⟨Nat.le_of_ble_eq_true rfl, Nat.le_of_ble_eq_true rfl⟩) (fun r45 _ Hn locsn hw45 hPn hDn hSn => ?_)
          rw [← hw44] at hw45
          subst r45
          clear hP hD hS
          have hP : va_P E.1 classes [(mo, .inr (5, [.ref s1, .ref s2, .ref s3, .int st.1.1, .int (nI nx), .ref mc, .int st.1.2.1, .ref sv, .int st.1.2.2.1, .ref sa, .ref wr, .int st.1.2.2.2.1, .ref bt, .int (bI st.1.2.2.2.2.1), .int st.1.2.2.2.2.2.1, .int st.1.2.2.2.2.2.2.1, .int st.1.2.2.2.2.2.2.2.1, .int st.1.2.2.2.2.2.2.2.2.1, .int st.1.2.2.2.2.2.2.2.2.2.1, .int st.1.2.2.2.2.2.2.2.2.2.2.1, .int st.1.2.2.2.2.2.2.2.2.2.2.2.1, .int st.1.2.2.2.2.2.2.2.2.2.2.2.2.1, .long st.1.2.2.2.2.2.2.2.2.2.2.2.2.2.1, .int st.1.2.2.2.2.2.2.2.2.2.2.2.2.2.2.1, .int st.1.2.2.2.2.2.2.2.2.2.2.2.2.2.2.2.1, .int st.1.2.2.2.2.2.2.2.2.2.2.2.2.2.2.2.2.1, .int (bI st.1.2.2.2.2.2.2.2.2.2.2.2.2.2.2.2.2.2.1), .int st.1.2.2.2.2.2.2.2.2.2.2.2.2.2.2.2.2.2.2.1, .int st.1.2.2.2.2.2.2.2.2.2.2.2.2.2.2.2.2.2.2.2])), (mc, .inl (E.2.1 0, 139264, .inl st.2.1)), (sv, .inl (E.2.1 0, 393216, .inl st.2.2.1)), (sa, .inl (E.2.1 0, 1100, .inl st.2.2.2.1)), (wr, .inl (E.2.1 1, 1100, .inl st.2.2.2.2.1)), (bt, .inl (E.2.1 0, 120000, .inl st.2.2.2.2.2)), (s1, .inl (E.2.1 0, 47, .inl (zF 0))), (s2, .inl (E.2.1 0, 47, .inl (zF 1))), (s3, .inl (E.2.1 0, 47, .inl (zF 2)))] Hn := hPn
          have hD : va_D A [(mo, .inr (5, [.ref s1, .ref s2, .ref s3, .int st.1.1, .int (nI nx), .ref mc, .int st.1.2.1, .ref sv, .int st.1.2.2.1, .ref sa, .ref wr, .int st.1.2.2.2.1, .ref bt, .int (bI st.1.2.2.2.2.1), .int st.1.2.2.2.2.2.1, .int st.1.2.2.2.2.2.2.1, .int st.1.2.2.2.2.2.2.2.1, .int st.1.2.2.2.2.2.2.2.2.1, .int st.1.2.2.2.2.2.2.2.2.2.1, .int st.1.2.2.2.2.2.2.2.2.2.2.1, .int st.1.2.2.2.2.2.2.2.2.2.2.2.1, .int st.1.2.2.2.2.2.2.2.2.2.2.2.2.1, .long st.1.2.2.2.2.2.2.2.2.2.2.2.2.2.1, .int st.1.2.2.2.2.2.2.2.2.2.2.2.2.2.2.1, .int st.1.2.2.2.2.2.2.2.2.2.2.2.2.2.2.2.1, .int st.1.2.2.2.2.2.2.2.2.2.2.2.2.2.2.2.2.1, .int (bI st.1.2.2.2.2.2.2.2.2.2.2.2.2.2.2.2.2.2.1), .int st.1.2.2.2.2.2.2.2.2.2.2.2.2.2.2.2.2.2.2.1, .int st.1.2.2.2.2.2.2.2.2.2.2.2.2.2.2.2.2.2.2.2])), (mc, .inl (E.2.1 0, 139264, .inl st.2.1)), (sv, .inl (E.2.1 0, 393216, .inl st.2.2.1)), (sa, .inl (E.2.1 0, 1100, .inl st.2.2.2.1)), (wr, .inl (E.2.1 1, 1100, .inl st.2.2.2.2.1)), (bt, .inl (E.2.1 0, 120000, .inl st.2.2.2.2.2)), (s1, .inl (E.2.1 0, 47, .inl (zF 0))), (s2, .inl (E.2.1 0, 47, .inl (zF 1))), (s3, .inl (E.2.1 0, 47, .inl (zF 2)))] := hDn
          have hS := hSn
          clear hPn hDn hSn
          refine lv_isub hx hb d_M_passWhole_169 ?_
          refine lv_iload hx hb d_M_passWhole_170 (lv_at hl 0 rfl) ?_
          obtain ⟨hk46, hok⟩ := hok
          refine ar_usei (wr := []) hP hD hS hA [0, 1, 2, 3, 4, 5, 6, 7, 8] [] rfl rfl rfl (by decide) (ar_runV (n := 3) (As := [.int p0, .int (k4 - r44), .int 32]) (rest := [.int r44]) (ci := 5) (q0 := 0) hx hb hml hown hts hP hD hS hA hK hZ (c_M_passNumber l E _ mo mc sv sa wr bt s1 s2 s3 nx st p0 (k4 - r44) 32 hk46) m_829 m_831 ms_41 m_7 m_832 (by decide +kernel) ⟨Nat.le_of_ble_eq_true rfl, Nat.le_of_ble_eq_true rfl⟩ [0, 1, 2, 3, 4, 5, 6, 7, 8] rfl rfl rfl rfl rfl rfl rfl hl.1 rfl (Nat.le_of_ble_eq_true rfl) d_M_passWhole_172 ⟨Nat.le_of_ble_eq_true rfl, Nat.le_of_ble_eq_true rfl⟩) (fun r47 u47 Hn locsn hw47 hPn hDn hSn => ?_)
          obtain ⟨hw47a, hw47b⟩ := hw47
          replace hok := hok r47 hw47a
          replace hok := hok u47 hw47b
          clear hP hD hS
          have hP : va_P E.1 classes [(mo, .inr (5, [.ref s1, .ref s2, .ref s3, .int u47.1.1, .int (nI nx), .ref mc, .int u47.1.2.1, .ref sv, .int u47.1.2.2.1, .ref sa, .ref wr, .int u47.1.2.2.2.1, .ref bt, .int (bI u47.1.2.2.2.2.1), .int u47.1.2.2.2.2.2.1, .int u47.1.2.2.2.2.2.2.1, .int u47.1.2.2.2.2.2.2.2.1, .int u47.1.2.2.2.2.2.2.2.2.1, .int u47.1.2.2.2.2.2.2.2.2.2.1, .int u47.1.2.2.2.2.2.2.2.2.2.2.1, .int u47.1.2.2.2.2.2.2.2.2.2.2.2.1, .int u47.1.2.2.2.2.2.2.2.2.2.2.2.2.1, .long u47.1.2.2.2.2.2.2.2.2.2.2.2.2.2.1, .int u47.1.2.2.2.2.2.2.2.2.2.2.2.2.2.2.1, .int u47.1.2.2.2.2.2.2.2.2.2.2.2.2.2.2.2.1, .int u47.1.2.2.2.2.2.2.2.2.2.2.2.2.2.2.2.2.1, .int (bI u47.1.2.2.2.2.2.2.2.2.2.2.2.2.2.2.2.2.2.1), .int u47.1.2.2.2.2.2.2.2.2.2.2.2.2.2.2.2.2.2.2.1, .int u47.1.2.2.2.2.2.2.2.2.2.2.2.2.2.2.2.2.2.2.2])), (mc, .inl (E.2.1 0, 139264, .inl u47.2.1)), (sv, .inl (E.2.1 0, 393216, .inl u47.2.2.1)), (sa, .inl (E.2.1 0, 1100, .inl u47.2.2.2.1)), (wr, .inl (E.2.1 1, 1100, .inl u47.2.2.2.2.1)), (bt, .inl (E.2.1 0, 120000, .inl u47.2.2.2.2.2)), (s1, .inl (E.2.1 0, 47, .inl (zF 0))), (s2, .inl (E.2.1 0, 47, .inl (zF 1))), (s3, .inl (E.2.1 0, 47, .inl (zF 2)))] Hn := hPn
          have hD : va_D A [(mo, .inr (5, [.ref s1, .ref s2, .ref s3, .int u47.1.1, .int (nI nx), .ref mc, .int u47.1.2.1, .ref sv, .int u47.1.2.2.1, .ref sa, .ref wr, .int u47.1.2.2.2.1, .ref bt, .int (bI u47.1.2.2.2.2.1), .int u47.1.2.2.2.2.2.1, .int u47.1.2.2.2.2.2.2.1, .int u47.1.2.2.2.2.2.2.2.1, .int u47.1.2.2.2.2.2.2.2.2.1, .int u47.1.2.2.2.2.2.2.2.2.2.1, .int u47.1.2.2.2.2.2.2.2.2.2.2.1, .int u47.1.2.2.2.2.2.2.2.2.2.2.2.1, .int u47.1.2.2.2.2.2.2.2.2.2.2.2.2.1, .long u47.1.2.2.2.2.2.2.2.2.2.2.2.2.2.1, .int u47.1.2.2.2.2.2.2.2.2.2.2.2.2.2.2.1, .int u47.1.2.2.2.2.2.2.2.2.2.2.2.2.2.2.2.1, .int u47.1.2.2.2.2.2.2.2.2.2.2.2.2.2.2.2.2.1, .int (bI u47.1.2.2.2.2.2.2.2.2.2.2.2.2.2.2.2.2.2.1), .int u47.1.2.2.2.2.2.2.2.2.2.2.2.2.2.2.2.2.2.2.1, .int u47.1.2.2.2.2.2.2.2.2.2.2.2.2.2.2.2.2.2.2.2])), (mc, .inl (E.2.1 0, 139264, .inl u47.2.1)), (sv, .inl (E.2.1 0, 393216, .inl u47.2.2.1)), (sa, .inl (E.2.1 0, 1100, .inl u47.2.2.2.1)), (wr, .inl (E.2.1 1, 1100, .inl u47.2.2.2.2.1)), (bt, .inl (E.2.1 0, 120000, .inl u47.2.2.2.2.2)), (s1, .inl (E.2.1 0, 47, .inl (zF 0))), (s2, .inl (E.2.1 0, 47, .inl (zF 1))), (s3, .inl (E.2.1 0, 47, .inl (zF 2)))] := hDn
          have hS := hSn
          clear hPn hDn hSn
          refine lv_iadd hx hb d_M_passWhole_175 ?_
          refine lv_topi (fun x48 ex48 => ?_)
          replace hok := hok x48 ex48
          refine lv_istore (lv' := [(8, .int x48), (7, .int 32), (0, .ref mo), (1, .int p0), (2, .int p1), (3, .int k3), (4, .int k4), (5, .int k5), (6, .int (bI b6))]) hx hb d_M_passWhole_176 hl (by decide) rfl (fun ls hl => ?_)
          refine lv_iload_n hx hb d_M_passWhole_178 rfl (lv_at hl 5 rfl) ?_
          refine lv_if_ne (tgt := 187) hx hb d_M_passWhole_179 (by decide) (fun c49 => ?_) (fun c49 => ?_)
          · replace hok := hok.2 c49
            refine lv_iload hx hb d_M_passWhole_187 (lv_at hl 0 rfl) ?_
            refine lv_if_ne (tgt := 197) hx hb d_M_passWhole_189 (by decide) (fun c50 => ?_) (fun c50 => ?_)
            · replace hok := hok.2 c50
              refine lv_iload hx hb d_M_passWhole_197 (lv_at hl 0 rfl) ?_
              refine ar_ineg hx hb d_M_passWhole_199 ?_
              exact ar_iret hx hb hr hlocks hK hS u47 (by subst ex48; subst hw47b; subst hw47a; subst hw44; exact pr_of (Eq.trans (g_M_passWhole_s nx p0 p1 n st k3 k4 k5 b6) (Eq.trans (if_neg c1) (Eq.trans (if_pos c26) (Eq.trans (if_pos c27) (Eq.trans (if_neg c49) (Eq.trans (if_neg c50) rfl))))))) hP hD d_M_passWhole_200
            · replace hok := hok.1 c50
              refine lv_ldc (v := (-2147483648)) hx hb hown (hts _ m_825) d_M_passWhole_192 ?_
              refine lv_goto (tgt := 200) hx hb d_M_passWhole_194 (by decide) ?_
              exact ar_iret hx hb hr hlocks hK hS u47 (by subst ex48; subst hw47b; subst hw47a; subst hw44; exact pr_of (Eq.trans (g_M_passWhole_s nx p0 p1 n st k3 k4 k5 b6) (Eq.trans (if_neg c1) (Eq.trans (if_pos c26) (Eq.trans (if_pos c27) (Eq.trans (if_neg c49) (Eq.trans (if_pos c50) rfl))))))) hP hD d_M_passWhole_200
          · replace hok := hok.1 c49
            refine lv_iload hx hb d_M_passWhole_182 (lv_at hl 0 rfl) ?_
            refine lv_goto (tgt := 200) hx hb d_M_passWhole_184 (by decide) ?_
            exact ar_iret hx hb hr hlocks hK hS u47 (by subst ex48; subst hw47b; subst hw47a; subst hw44; exact pr_of (Eq.trans (g_M_passWhole_s nx p0 p1 n st k3 k4 k5 b6) (Eq.trans (if_neg c1) (Eq.trans (if_pos c26) (Eq.trans (if_pos c27) (Eq.trans (if_pos c49) rfl)))))) hP hD d_M_passWhole_200
      · replace hok := hok.2 c26
        refine lv_aload_n hx hb d_M_passWhole_73 rfl (lv_at hl 0 rfl) ?_
        refine lv_iload_n hx hb d_M_passWhole_74 rfl (lv_at hl 1 rfl) ?_
        refine lv_iload hx hb d_M_passWhole_75 (lv_at hl 4 rfl) ?_
        refine lv_iload hx hb d_M_passWhole_77 (lv_at hl 5 rfl) ?_
        refine lv_iconst (v := 1) hx hb d_M_passWhole_79 (by decide) ?_
        refine lv_iadd hx hb d_M_passWhole_80 ?_
        refine ar_usei (wr := [(mo, .inr (5, [.ref s1, .ref s2, .ref s3, .int st.1.1, .int (nI nx), .ref mc, .int st.1.2.1, .ref sv, .int st.1.2.2.1, .ref sa, .ref wr, .int st.1.2.2.2.1, .ref bt, .int (bI st.1.2.2.2.2.1), .int st.1.2.2.2.2.2.1, .int st.1.2.2.2.2.2.2.1, .int st.1.2.2.2.2.2.2.2.1, .int st.1.2.2.2.2.2.2.2.2.1, .int st.1.2.2.2.2.2.2.2.2.2.1, .int st.1.2.2.2.2.2.2.2.2.2.2.1, .int st.1.2.2.2.2.2.2.2.2.2.2.2.1, .int st.1.2.2.2.2.2.2.2.2.2.2.2.2.1, .long st.1.2.2.2.2.2.2.2.2.2.2.2.2.2.1, .int st.1.2.2.2.2.2.2.2.2.2.2.2.2.2.2.1, .int st.1.2.2.2.2.2.2.2.2.2.2.2.2.2.2.2.1, .int st.1.2.2.2.2.2.2.2.2.2.2.2.2.2.2.2.2.1, .int (bI st.1.2.2.2.2.2.2.2.2.2.2.2.2.2.2.2.2.2.1), .int st.1.2.2.2.2.2.2.2.2.2.2.2.2.2.2.2.2.2.2.1, .int st.1.2.2.2.2.2.2.2.2.2.2.2.2.2.2.2.2.2.2.2])), (mc, .inl (E.2.1 0, 139264, .inl st.2.1)), (sv, .inl (E.2.1 0, 393216, .inl st.2.2.1)), (sa, .inl (E.2.1 0, 1100, .inl st.2.2.2.1)), (wr, .inl (E.2.1 1, 1100, .inl st.2.2.2.2.1)), (bt, .inl (E.2.1 0, 120000, .inl st.2.2.2.2.2)), (s1, .inl (E.2.1 0, 47, .inl (zF 0))), (s2, .inl (E.2.1 0, 47, .inl (zF 1))), (s3, .inl (E.2.1 0, 47, .inl (zF 2)))]) hP hD hS hA [] [0, 1, 2, 3, 4, 5, 6, 7, 8] rfl rfl rfl (by decide) (ar_runS (n := 1) (As := [.int (k5 + 1)]) (rest := [.int k4, .int p0, .ref mo]) hx hb hml hown hts hP hD hS hA hK hZ (c_M_leastOf l E _   (k5 + 1) ) m_826 m_827 m_7 m_828 (by decide +kernel) ⟨Nat.le_of_ble_eq_true rfl, Nat.le_of_ble_eq_true rfl⟩ [] rfl rfl rfl rfl hl.1 rfl (Nat.le_of_ble_eq_true rfl) d_M_passWhole_81 ⟨Nat.le_of_ble_eq_true rfl, Nat.le_of_ble_eq_true rfl⟩) (fun r51 _ Hn locsn hw51 hPn hDn hSn => ?_)
        replace hok := hok r51 hw51
        clear hP hD hS
        have hP : va_P E.1 classes [(mo, .inr (5, [.ref s1, .ref s2, .ref s3, .int st.1.1, .int (nI nx), .ref mc, .int st.1.2.1, .ref sv, .int st.1.2.2.1, .ref sa, .ref wr, .int st.1.2.2.2.1, .ref bt, .int (bI st.1.2.2.2.2.1), .int st.1.2.2.2.2.2.1, .int st.1.2.2.2.2.2.2.1, .int st.1.2.2.2.2.2.2.2.1, .int st.1.2.2.2.2.2.2.2.2.1, .int st.1.2.2.2.2.2.2.2.2.2.1, .int st.1.2.2.2.2.2.2.2.2.2.2.1, .int st.1.2.2.2.2.2.2.2.2.2.2.2.1, .int st.1.2.2.2.2.2.2.2.2.2.2.2.2.1, .long st.1.2.2.2.2.2.2.2.2.2.2.2.2.2.1, .int st.1.2.2.2.2.2.2.2.2.2.2.2.2.2.2.1, .int st.1.2.2.2.2.2.2.2.2.2.2.2.2.2.2.2.1, .int st.1.2.2.2.2.2.2.2.2.2.2.2.2.2.2.2.2.1, .int (bI st.1.2.2.2.2.2.2.2.2.2.2.2.2.2.2.2.2.2.1), .int st.1.2.2.2.2.2.2.2.2.2.2.2.2.2.2.2.2.2.2.1, .int st.1.2.2.2.2.2.2.2.2.2.2.2.2.2.2.2.2.2.2.2])), (mc, .inl (E.2.1 0, 139264, .inl st.2.1)), (sv, .inl (E.2.1 0, 393216, .inl st.2.2.1)), (sa, .inl (E.2.1 0, 1100, .inl st.2.2.2.1)), (wr, .inl (E.2.1 1, 1100, .inl st.2.2.2.2.1)), (bt, .inl (E.2.1 0, 120000, .inl st.2.2.2.2.2)), (s1, .inl (E.2.1 0, 47, .inl (zF 0))), (s2, .inl (E.2.1 0, 47, .inl (zF 1))), (s3, .inl (E.2.1 0, 47, .inl (zF 2)))] Hn := hPn
        have hD : va_D A [(mo, .inr (5, [.ref s1, .ref s2, .ref s3, .int st.1.1, .int (nI nx), .ref mc, .int st.1.2.1, .ref sv, .int st.1.2.2.1, .ref sa, .ref wr, .int st.1.2.2.2.1, .ref bt, .int (bI st.1.2.2.2.2.1), .int st.1.2.2.2.2.2.1, .int st.1.2.2.2.2.2.2.1, .int st.1.2.2.2.2.2.2.2.1, .int st.1.2.2.2.2.2.2.2.2.1, .int st.1.2.2.2.2.2.2.2.2.2.1, .int st.1.2.2.2.2.2.2.2.2.2.2.1, .int st.1.2.2.2.2.2.2.2.2.2.2.2.1, .int st.1.2.2.2.2.2.2.2.2.2.2.2.2.1, .long st.1.2.2.2.2.2.2.2.2.2.2.2.2.2.1, .int st.1.2.2.2.2.2.2.2.2.2.2.2.2.2.2.1, .int st.1.2.2.2.2.2.2.2.2.2.2.2.2.2.2.2.1, .int st.1.2.2.2.2.2.2.2.2.2.2.2.2.2.2.2.2.1, .int (bI st.1.2.2.2.2.2.2.2.2.2.2.2.2.2.2.2.2.2.1), .int st.1.2.2.2.2.2.2.2.2.2.2.2.2.2.2.2.2.2.2.1, .int st.1.2.2.2.2.2.2.2.2.2.2.2.2.2.2.2.2.2.2.2])), (mc, .inl (E.2.1 0, 139264, .inl st.2.1)), (sv, .inl (E.2.1 0, 393216, .inl st.2.2.1)), (sa, .inl (E.2.1 0, 1100, .inl st.2.2.2.1)), (wr, .inl (E.2.1 1, 1100, .inl st.2.2.2.2.1)), (bt, .inl (E.2.1 0, 120000, .inl st.2.2.2.2.2)), (s1, .inl (E.2.1 0, 47, .inl (zF 0))), (s2, .inl (E.2.1 0, 47, .inl (zF 1))), (s3, .inl (E.2.1 0, 47, .inl (zF 2)))] := hDn
        have hS := hSn
        clear hPn hDn hSn
        refine lv_icmp_lt (tgt := 91) hx hb d_M_passWhole_84 (by decide) (fun c52 => ?_) (fun c52 => ?_)
        · replace hok := hok.1 c52
          refine lv_iconst (v := 0) hx hb d_M_passWhole_91 (by decide) ?_
          obtain ⟨hk53, hok⟩ := hok
          refine ar_usei (wr := []) hP hD hS hA [0, 1, 2, 3, 4, 5, 6, 7, 8] [] rfl rfl rfl (by decide) (ar_runV (n := 2) (As := [.int p0, .int 0]) (rest := []) (ci := 5) (q0 := 0) hx hb hml hown hts hP hD hS hA hK hZ (c_M_pass l E _ mo mc sv sa wr bt s1 s2 s3 nx st p0 0 hk53) m_816 m_818 ms_39 m_7 m_819 (by decide +kernel) ⟨Nat.le_of_ble_eq_true rfl, Nat.le_of_ble_eq_true rfl⟩ [0, 1, 2, 3, 4, 5, 6, 7, 8] rfl rfl rfl rfl rfl rfl rfl hl.1 rfl (Nat.le_of_ble_eq_true rfl) d_M_passWhole_92 ⟨Nat.le_of_ble_eq_true rfl, Nat.le_of_ble_eq_true rfl⟩) (fun r54 u54 Hn locsn hw54 hPn hDn hSn => ?_)
          obtain ⟨hw54a, hw54b⟩ := hw54
          replace hok := hok r54 hw54a
          replace hok := hok u54 hw54b
          clear hP hD hS
          have hP : va_P E.1 classes [(mo, .inr (5, [.ref s1, .ref s2, .ref s3, .int u54.1.1, .int (nI nx), .ref mc, .int u54.1.2.1, .ref sv, .int u54.1.2.2.1, .ref sa, .ref wr, .int u54.1.2.2.2.1, .ref bt, .int (bI u54.1.2.2.2.2.1), .int u54.1.2.2.2.2.2.1, .int u54.1.2.2.2.2.2.2.1, .int u54.1.2.2.2.2.2.2.2.1, .int u54.1.2.2.2.2.2.2.2.2.1, .int u54.1.2.2.2.2.2.2.2.2.2.1, .int u54.1.2.2.2.2.2.2.2.2.2.2.1, .int u54.1.2.2.2.2.2.2.2.2.2.2.2.1, .int u54.1.2.2.2.2.2.2.2.2.2.2.2.2.1, .long u54.1.2.2.2.2.2.2.2.2.2.2.2.2.2.1, .int u54.1.2.2.2.2.2.2.2.2.2.2.2.2.2.2.1, .int u54.1.2.2.2.2.2.2.2.2.2.2.2.2.2.2.2.1, .int u54.1.2.2.2.2.2.2.2.2.2.2.2.2.2.2.2.2.1, .int (bI u54.1.2.2.2.2.2.2.2.2.2.2.2.2.2.2.2.2.2.1), .int u54.1.2.2.2.2.2.2.2.2.2.2.2.2.2.2.2.2.2.2.1, .int u54.1.2.2.2.2.2.2.2.2.2.2.2.2.2.2.2.2.2.2.2])), (mc, .inl (E.2.1 0, 139264, .inl u54.2.1)), (sv, .inl (E.2.1 0, 393216, .inl u54.2.2.1)), (sa, .inl (E.2.1 0, 1100, .inl u54.2.2.2.1)), (wr, .inl (E.2.1 1, 1100, .inl u54.2.2.2.2.1)), (bt, .inl (E.2.1 0, 120000, .inl u54.2.2.2.2.2)), (s1, .inl (E.2.1 0, 47, .inl (zF 0))), (s2, .inl (E.2.1 0, 47, .inl (zF 1))), (s3, .inl (E.2.1 0, 47, .inl (zF 2)))] Hn := hPn
          have hD : va_D A [(mo, .inr (5, [.ref s1, .ref s2, .ref s3, .int u54.1.1, .int (nI nx), .ref mc, .int u54.1.2.1, .ref sv, .int u54.1.2.2.1, .ref sa, .ref wr, .int u54.1.2.2.2.1, .ref bt, .int (bI u54.1.2.2.2.2.1), .int u54.1.2.2.2.2.2.1, .int u54.1.2.2.2.2.2.2.1, .int u54.1.2.2.2.2.2.2.2.1, .int u54.1.2.2.2.2.2.2.2.2.1, .int u54.1.2.2.2.2.2.2.2.2.2.1, .int u54.1.2.2.2.2.2.2.2.2.2.2.1, .int u54.1.2.2.2.2.2.2.2.2.2.2.2.1, .int u54.1.2.2.2.2.2.2.2.2.2.2.2.2.1, .long u54.1.2.2.2.2.2.2.2.2.2.2.2.2.2.1, .int u54.1.2.2.2.2.2.2.2.2.2.2.2.2.2.2.1, .int u54.1.2.2.2.2.2.2.2.2.2.2.2.2.2.2.2.1, .int u54.1.2.2.2.2.2.2.2.2.2.2.2.2.2.2.2.2.1, .int (bI u54.1.2.2.2.2.2.2.2.2.2.2.2.2.2.2.2.2.2.1), .int u54.1.2.2.2.2.2.2.2.2.2.2.2.2.2.2.2.2.2.2.1, .int u54.1.2.2.2.2.2.2.2.2.2.2.2.2.2.2.2.2.2.2.2])), (mc, .inl (E.2.1 0, 139264, .inl u54.2.1)), (sv, .inl (E.2.1 0, 393216, .inl u54.2.2.1)), (sa, .inl (E.2.1 0, 1100, .inl u54.2.2.2.1)), (wr, .inl (E.2.1 1, 1100, .inl u54.2.2.2.2.1)), (bt, .inl (E.2.1 0, 120000, .inl u54.2.2.2.2.2)), (s1, .inl (E.2.1 0, 47, .inl (zF 0))), (s2, .inl (E.2.1 0, 47, .inl (zF 1))), (s3, .inl (E.2.1 0, 47, .inl (zF 2)))] := hDn
          have hS := hSn
          clear hPn hDn hSn
          refine lv_iconst (v := 1) hx hb d_M_passWhole_95 (by decide) ?_
          refine lv_icmp_ne (tgt := 103) hx hb d_M_passWhole_96 (by decide) (fun c55 => ?_) (fun c55 => ?_)
          · replace hok := hok.2 c55
            refine lv_iconst (v := 0) hx hb d_M_passWhole_103 (by decide) ?_
            refine lv_istore (lv' := [(6, .int 0), (0, .ref mo), (1, .int p0), (2, .int p1), (3, .int k3), (4, .int k4), (5, .int k5)]) hx hb d_M_passWhole_104 hl (by decide) rfl (fun ls hl => ?_)
            refine lv_iload hx hb d_M_passWhole_106 (lv_at hl 0 rfl) ?_
            refine lv_if_eq (tgt := 118) hx hb d_M_passWhole_108 (by decide) (fun cz => ?_) (fun cz => absurd cz (by decide))
            refine lv_iload hx hb d_M_passWhole_118 (lv_at hl 6 rfl) ?_
            refine lv_istore (lv' := [(5, .int k5), (6, .int 0), (0, .ref mo), (1, .int p0), (2, .int p1), (3, .int k3), (4, .int k4)]) hx hb d_M_passWhole_120 hl (by decide) rfl (fun ls hl => ?_)
            refine lv_goto (tgt := 62) hx hb d_M_passWhole_122 (by decide) ?_
            have e9 : g_M_passWhole nx p0 p1 (n + 1) st k3 k4 k5 b6 = g_M_passWhole nx p0 p1 n u54 k3 k4 k5 false := by subst hw54b; subst hw54a; subst hw51; exact (Eq.trans (g_M_passWhole_s nx p0 p1 n st k3 k4 k5 b6) (Eq.trans (if_neg c1) (Eq.trans (if_neg c26) (Eq.trans (if_pos c52) (Eq.trans (if_neg c55) rfl)))))
            rw [e9]
            exact ih u54 k3 k4 k5 false _ _ _ hok hP hD hS (lv_sub hl [2, 3, 4, 5, 6, 0, 1] rfl)
          · replace hok := hok.1 c55
            refine lv_iconst (v := 1) hx hb d_M_passWhole_99 (by decide) ?_
            refine lv_goto (tgt := 104) hx hb d_M_passWhole_100 (by decide) ?_
            refine lv_istore (lv' := [(6, .int 1), (0, .ref mo), (1, .int p0), (2, .int p1), (3, .int k3), (4, .int k4), (5, .int k5)]) hx hb d_M_passWhole_104 hl (by decide) rfl (fun ls hl => ?_)
            refine lv_iload hx hb d_M_passWhole_106 (lv_at hl 0 rfl) ?_
            refine lv_if_eq (tgt := 118) hx hb d_M_passWhole_108 (by decide) (fun cz => absurd cz (by decide)) (fun cz => ?_)
            refine lv_iload hx hb d_M_passWhole_111 (lv_at hl 6 rfl) ?_
            refine lv_iconst (v := 1) hx hb d_M_passWhole_113 (by decide) ?_
            refine lv_iadd hx hb d_M_passWhole_114 ?_
            refine lv_goto (tgt := 120) hx hb d_M_passWhole_115 (by decide) ?_
            refine lv_topi (fun x56 ex56 => ?_)
            replace hok := hok x56 ex56
            refine lv_istore (lv' := [(5, .int x56), (6, .int 1), (0, .ref mo), (1, .int p0), (2, .int p1), (3, .int k3), (4, .int k4)]) hx hb d_M_passWhole_120 hl (by decide) rfl (fun ls hl => ?_)
            refine lv_goto (tgt := 62) hx hb d_M_passWhole_122 (by decide) ?_
            have e9 : g_M_passWhole nx p0 p1 (n + 1) st k3 k4 k5 b6 = g_M_passWhole nx p0 p1 n u54 k3 k4 x56 true := by subst ex56; subst hw54b; subst hw54a; subst hw51; exact (Eq.trans (g_M_passWhole_s nx p0 p1 n st k3 k4 k5 b6) (Eq.trans (if_neg c1) (Eq.trans (if_neg c26) (Eq.trans (if_pos c52) (Eq.trans (if_pos c55) rfl)))))
            rw [e9]
            exact ih u54 k3 k4 x56 true _ _ _ hok hP hD hS (lv_sub hl [2, 3, 4, 5, 6, 0, 1] rfl)
        · replace hok := hok.2 c52
          refine lv_iconst (v := 1) hx hb d_M_passWhole_87 (by decide) ?_
          refine lv_goto (tgt := 92) hx hb d_M_passWhole_88 (by decide) ?_
          obtain ⟨hk57, hok⟩ := hok
          refine ar_usei (wr := []) hP hD hS hA [0, 1, 2, 3, 4, 5, 6, 7, 8] [] rfl rfl rfl (by decide) (ar_runV (n := 2) (As := [.int p0, .int 1]) (rest := []) (ci := 5) (q0 := 0) hx hb hml hown hts hP hD hS hA hK hZ (c_M_pass l E _ mo mc sv sa wr bt s1 s2 s3 nx st p0 1 hk57) m_816 m_818 ms_39 m_7 m_819 (by decide +kernel) ⟨Nat.le_of_ble_eq_true rfl, Nat.le_of_ble_eq_true rfl⟩ [0, 1, 2, 3, 4, 5, 6, 7, 8] rfl rfl rfl rfl rfl rfl rfl hl.1 rfl (Nat.le_of_ble_eq_true rfl) d_M_passWhole_92 ⟨Nat.le_of_ble_eq_true rfl, Nat.le_of_ble_eq_true rfl⟩) (fun r58 u58 Hn locsn hw58 hPn hDn hSn => ?_)
          obtain ⟨hw58a, hw58b⟩ := hw58
          replace hok := hok r58 hw58a
          replace hok := hok u58 hw58b
          clear hP hD hS
          have hP : va_P E.1 classes [(mo, .inr (5, [.ref s1, .ref s2, .ref s3, .int u58.1.1, .int (nI nx), .ref mc, .int u58.1.2.1, .ref sv, .int u58.1.2.2.1, .ref sa, .ref wr, .int u58.1.2.2.2.1, .ref bt, .int (bI u58.1.2.2.2.2.1), .int u58.1.2.2.2.2.2.1, .int u58.1.2.2.2.2.2.2.1, .int u58.1.2.2.2.2.2.2.2.1, .int u58.1.2.2.2.2.2.2.2.2.1, .int u58.1.2.2.2.2.2.2.2.2.2.1, .int u58.1.2.2.2.2.2.2.2.2.2.2.1, .int u58.1.2.2.2.2.2.2.2.2.2.2.2.1, .int u58.1.2.2.2.2.2.2.2.2.2.2.2.2.1, .long u58.1.2.2.2.2.2.2.2.2.2.2.2.2.2.1, .int u58.1.2.2.2.2.2.2.2.2.2.2.2.2.2.2.1, .int u58.1.2.2.2.2.2.2.2.2.2.2.2.2.2.2.2.1, .int u58.1.2.2.2.2.2.2.2.2.2.2.2.2.2.2.2.2.1, .int (bI u58.1.2.2.2.2.2.2.2.2.2.2.2.2.2.2.2.2.2.1), .int u58.1.2.2.2.2.2.2.2.2.2.2.2.2.2.2.2.2.2.2.1, .int u58.1.2.2.2.2.2.2.2.2.2.2.2.2.2.2.2.2.2.2.2])), (mc, .inl (E.2.1 0, 139264, .inl u58.2.1)), (sv, .inl (E.2.1 0, 393216, .inl u58.2.2.1)), (sa, .inl (E.2.1 0, 1100, .inl u58.2.2.2.1)), (wr, .inl (E.2.1 1, 1100, .inl u58.2.2.2.2.1)), (bt, .inl (E.2.1 0, 120000, .inl u58.2.2.2.2.2)), (s1, .inl (E.2.1 0, 47, .inl (zF 0))), (s2, .inl (E.2.1 0, 47, .inl (zF 1))), (s3, .inl (E.2.1 0, 47, .inl (zF 2)))] Hn := hPn
          have hD : va_D A [(mo, .inr (5, [.ref s1, .ref s2, .ref s3, .int u58.1.1, .int (nI nx), .ref mc, .int u58.1.2.1, .ref sv, .int u58.1.2.2.1, .ref sa, .ref wr, .int u58.1.2.2.2.1, .ref bt, .int (bI u58.1.2.2.2.2.1), .int u58.1.2.2.2.2.2.1, .int u58.1.2.2.2.2.2.2.1, .int u58.1.2.2.2.2.2.2.2.1, .int u58.1.2.2.2.2.2.2.2.2.1, .int u58.1.2.2.2.2.2.2.2.2.2.1, .int u58.1.2.2.2.2.2.2.2.2.2.2.1, .int u58.1.2.2.2.2.2.2.2.2.2.2.2.1, .int u58.1.2.2.2.2.2.2.2.2.2.2.2.2.1, .long u58.1.2.2.2.2.2.2.2.2.2.2.2.2.2.1, .int u58.1.2.2.2.2.2.2.2.2.2.2.2.2.2.2.1, .int u58.1.2.2.2.2.2.2.2.2.2.2.2.2.2.2.2.1, .int u58.1.2.2.2.2.2.2.2.2.2.2.2.2.2.2.2.2.1, .int (bI u58.1.2.2.2.2.2.2.2.2.2.2.2.2.2.2.2.2.2.1), .int u58.1.2.2.2.2.2.2.2.2.2.2.2.2.2.2.2.2.2.2.1, .int u58.1.2.2.2.2.2.2.2.2.2.2.2.2.2.2.2.2.2.2.2])), (mc, .inl (E.2.1 0, 139264, .inl u58.2.1)), (sv, .inl (E.2.1 0, 393216, .inl u58.2.2.1)), (sa, .inl (E.2.1 0, 1100, .inl u58.2.2.2.1)), (wr, .inl (E.2.1 1, 1100, .inl u58.2.2.2.2.1)), (bt, .inl (E.2.1 0, 120000, .inl u58.2.2.2.2.2)), (s1, .inl (E.2.1 0, 47, .inl (zF 0))), (s2, .inl (E.2.1 0, 47, .inl (zF 1))), (s3, .inl (E.2.1 0, 47, .inl (zF 2)))] := hDn
          have hS := hSn
          clear hPn hDn hSn
          refine lv_iconst (v := 1) hx hb d_M_passWhole_95 (by decide) ?_
          refine lv_icmp_ne (tgt := 103) hx hb d_M_passWhole_96 (by decide) (fun c59 => ?_) (fun c59 => ?_)
          · replace hok := hok.2 c59
            refine lv_iconst (v := 0) hx hb d_M_passWhole_103 (by decide) ?_
            refine lv_istore (lv' := [(6, .int 0), (0, .ref mo), (1, .int p0), (2, .int p1), (3, .int k3), (4, .int k4), (5, .int k5)]) hx hb d_M_passWhole_104 hl (by decide) rfl (fun ls hl => ?_)
            refine lv_iload hx hb d_M_passWhole_106 (lv_at hl 0 rfl) ?_
            refine lv_if_eq (tgt := 118) hx hb d_M_passWhole_108 (by decide) (fun cz => ?_) (fun cz => absurd cz (by decide))
            refine lv_iload hx hb d_M_passWhole_118 (lv_at hl 6 rfl) ?_
            refine lv_istore (lv' := [(5, .int k5), (6, .int 0), (0, .ref mo), (1, .int p0), (2, .int p1), (3, .int k3), (4, .int k4)]) hx hb d_M_passWhole_120 hl (by decide) rfl (fun ls hl => ?_)
            refine lv_goto (tgt := 62) hx hb d_M_passWhole_122 (by decide) ?_
            have e9 : g_M_passWhole nx p0 p1 (n + 1) st k3 k4 k5 b6 = g_M_passWhole nx p0 p1 n u58 k3 k4 k5 false := by subst hw58b; subst hw58a; subst hw51; exact (Eq.trans (g_M_passWhole_s nx p0 p1 n st k3 k4 k5 b6) (Eq.trans (if_neg c1) (Eq.trans (if_neg c26) (Eq.trans (if_neg c52) (Eq.trans (if_neg c59) rfl)))))
            rw [e9]
            exact ih u58 k3 k4 k5 false _ _ _ hok hP hD hS (lv_sub hl [2, 3, 4, 5, 6, 0, 1] rfl)
          · replace hok := hok.1 c59
            refine lv_iconst (v := 1) hx hb d_M_passWhole_99 (by decide) ?_
            refine lv_goto (tgt := 104) hx hb d_M_passWhole_100 (by decide) ?_
            refine lv_istore (lv' := [(6, .int 1), (0, .ref mo), (1, .int p0), (2, .int p1), (3, .int k3), (4, .int k4), (5, .int k5)]) hx hb d_M_passWhole_104 hl (by decide) rfl (fun ls hl => ?_)
            refine lv_iload hx hb d_M_passWhole_106 (lv_at hl 0 rfl) ?_
            refine lv_if_eq (tgt := 118) hx hb d_M_passWhole_108 (by decide) (fun cz => absurd cz (by decide)) (fun cz => ?_)
            refine lv_iload hx hb d_M_passWhole_111 (lv_at hl 6 rfl) ?_
            refine lv_iconst (v := 1) hx hb d_M_passWhole_113 (by decide) ?_
            refine lv_iadd hx hb d_M_passWhole_114 ?_
            refine lv_goto (tgt := 120) hx hb d_M_passWhole_115 (by decide) ?_
            refine lv_topi (fun x60 ex60 => ?_)
            replace hok := hok x60 ex60
            refine lv_istore (lv' := [(5, .int x60), (6, .int 1), (0, .ref mo), (1, .int p0), (2, .int p1), (3, .int k3), (4, .int k4)]) hx hb d_M_passWhole_120 hl (by decide) rfl (fun ls hl => ?_)
            refine lv_goto (tgt := 62) hx hb d_M_passWhole_122 (by decide) ?_
            have e9 : g_M_passWhole nx p0 p1 (n + 1) st k3 k4 k5 b6 = g_M_passWhole nx p0 p1 n u58 k3 k4 x60 true := by subst ex60; subst hw58b; subst hw58a; subst hw51; exact (Eq.trans (g_M_passWhole_s nx p0 p1 n st k3 k4 k5 b6) (Eq.trans (if_neg c1) (Eq.trans (if_neg c26) (Eq.trans (if_neg c52) (Eq.trans (if_pos c59) rfl)))))
            rw [e9]
            exact ih u58 k3 k4 x60 true _ _ _ hok hP hD hS (lv_sub hl [2, 3, 4, 5, 6, 0, 1] rfl)
noncomputable def f_M_passWhole (nx : Nat) (p0 : Int32) (p1 : Int32) (st : MS) : Int32 × (MS) :=
  if 0 ≤ p1 then
    let r3 := (f_M_pass nx p0 0 ((st.1.1, st.1.2.1, st.1.2.2.1, st.1.2.2.2.1, st.1.2.2.2.2.1, st.1.2.2.2.2.2.1, st.1.2.2.2.2.2.2.1, st.1.2.2.2.2.2.2.2.1, st.1.2.2.2.2.2.2.2.2.1, st.1.2.2.2.2.2.2.2.2.2.1, st.1.2.2.2.2.2.2.2.2.2.2.1, st.1.2.2.2.2.2.2.2.2.2.2.2.1, st.1.2.2.2.2.2.2.2.2.2.2.2.2.1, st.1.2.2.2.2.2.2.2.2.2.2.2.2.2.1, st.1.2.2.2.2.2.2.2.2.2.2.2.2.2.2.1, st.1.2.2.2.2.2.2.2.2.2.2.2.2.2.2.2.1, st.1.2.2.2.2.2.2.2.2.2.2.2.2.2.2.2.2.1, st.1.2.2.2.2.2.2.2.2.2.2.2.2.2.2.2.2.2.1, 1, 0), st.2.1, st.2.2.1, st.2.2.2.1, st.2.2.2.2.1, st.2.2.2.2.2)).1
    let u3 := (f_M_pass nx p0 0 ((st.1.1, st.1.2.1, st.1.2.2.1, st.1.2.2.2.1, st.1.2.2.2.2.1, st.1.2.2.2.2.2.1, st.1.2.2.2.2.2.2.1, st.1.2.2.2.2.2.2.2.1, st.1.2.2.2.2.2.2.2.2.1, st.1.2.2.2.2.2.2.2.2.2.1, st.1.2.2.2.2.2.2.2.2.2.2.1, st.1.2.2.2.2.2.2.2.2.2.2.2.1, st.1.2.2.2.2.2.2.2.2.2.2.2.2.1, st.1.2.2.2.2.2.2.2.2.2.2.2.2.2.1, st.1.2.2.2.2.2.2.2.2.2.2.2.2.2.2.1, st.1.2.2.2.2.2.2.2.2.2.2.2.2.2.2.2.1, st.1.2.2.2.2.2.2.2.2.2.2.2.2.2.2.2.2.1, st.1.2.2.2.2.2.2.2.2.2.2.2.2.2.2.2.2.2.1, 1, 0), st.2.1, st.2.2.1, st.2.2.2.1, st.2.2.2.2.1, st.2.2.2.2.2)).2
    if r3 = 1 then
      if p1 = (-2147483648) then
        g_M_passWhole nx p0 p1 (nf 7) u3 1 0 0 true
      else
        g_M_passWhole nx p0 p1 (nf 7) u3 1 p1 0 true
    else
      if p1 = (-2147483648) then
        g_M_passWhole nx p0 p1 (nf 7) u3 0 0 0 true
      else
        g_M_passWhole nx p0 p1 (nf 7) u3 0 p1 0 true
  else
    let r8 := (f_M_pass nx p0 1 ((st.1.1, st.1.2.1, st.1.2.2.1, st.1.2.2.2.1, st.1.2.2.2.2.1, st.1.2.2.2.2.2.1, st.1.2.2.2.2.2.2.1, st.1.2.2.2.2.2.2.2.1, st.1.2.2.2.2.2.2.2.2.1, st.1.2.2.2.2.2.2.2.2.2.1, st.1.2.2.2.2.2.2.2.2.2.2.1, st.1.2.2.2.2.2.2.2.2.2.2.2.1, st.1.2.2.2.2.2.2.2.2.2.2.2.2.1, st.1.2.2.2.2.2.2.2.2.2.2.2.2.2.1, st.1.2.2.2.2.2.2.2.2.2.2.2.2.2.2.1, st.1.2.2.2.2.2.2.2.2.2.2.2.2.2.2.2.1, st.1.2.2.2.2.2.2.2.2.2.2.2.2.2.2.2.2.1, st.1.2.2.2.2.2.2.2.2.2.2.2.2.2.2.2.2.2.1, 1, 0), st.2.1, st.2.2.1, st.2.2.2.1, st.2.2.2.2.1, st.2.2.2.2.2)).1
    let u8 := (f_M_pass nx p0 1 ((st.1.1, st.1.2.1, st.1.2.2.1, st.1.2.2.2.1, st.1.2.2.2.2.1, st.1.2.2.2.2.2.1, st.1.2.2.2.2.2.2.1, st.1.2.2.2.2.2.2.2.1, st.1.2.2.2.2.2.2.2.2.1, st.1.2.2.2.2.2.2.2.2.2.1, st.1.2.2.2.2.2.2.2.2.2.2.1, st.1.2.2.2.2.2.2.2.2.2.2.2.1, st.1.2.2.2.2.2.2.2.2.2.2.2.2.1, st.1.2.2.2.2.2.2.2.2.2.2.2.2.2.1, st.1.2.2.2.2.2.2.2.2.2.2.2.2.2.2.1, st.1.2.2.2.2.2.2.2.2.2.2.2.2.2.2.2.1, st.1.2.2.2.2.2.2.2.2.2.2.2.2.2.2.2.2.1, st.1.2.2.2.2.2.2.2.2.2.2.2.2.2.2.2.2.2.1, 1, 0), st.2.1, st.2.2.1, st.2.2.2.1, st.2.2.2.2.1, st.2.2.2.2.2)).2
    if r8 = 1 then
      if p1 = (-2147483648) then
        g_M_passWhole nx p0 p1 (nf 7) u8 1 0 0 true
      else
        let x13 := (ineg p1)
        g_M_passWhole nx p0 p1 (nf 7) u8 1 x13 0 true
    else
      if p1 = (-2147483648) then
        g_M_passWhole nx p0 p1 (nf 7) u8 0 0 0 true
      else
        let x11 := (ineg p1)
        g_M_passWhole nx p0 p1 (nf 7) u8 0 x11 0 true
theorem f_M_passWhole_s (nx : Nat) (p0 : Int32) (p1 : Int32) (st : MS) : f_M_passWhole nx p0 p1 st = ((
  if 0 ≤ p1 then
    let r3 := (f_M_pass nx p0 0 ((st.1.1, st.1.2.1, st.1.2.2.1, st.1.2.2.2.1, st.1.2.2.2.2.1, st.1.2.2.2.2.2.1, st.1.2.2.2.2.2.2.1, st.1.2.2.2.2.2.2.2.1, st.1.2.2.2.2.2.2.2.2.1, st.1.2.2.2.2.2.2.2.2.2.1, st.1.2.2.2.2.2.2.2.2.2.2.1, st.1.2.2.2.2.2.2.2.2.2.2.2.1, st.1.2.2.2.2.2.2.2.2.2.2.2.2.1, st.1.2.2.2.2.2.2.2.2.2.2.2.2.2.1, st.1.2.2.2.2.2.2.2.2.2.2.2.2.2.2.1, st.1.2.2.2.2.2.2.2.2.2.2.2.2.2.2.2.1, st.1.2.2.2.2.2.2.2.2.2.2.2.2.2.2.2.2.1, st.1.2.2.2.2.2.2.2.2.2.2.2.2.2.2.2.2.2.1, 1, 0), st.2.1, st.2.2.1, st.2.2.2.1, st.2.2.2.2.1, st.2.2.2.2.2)).1
    let u3 := (f_M_pass nx p0 0 ((st.1.1, st.1.2.1, st.1.2.2.1, st.1.2.2.2.1, st.1.2.2.2.2.1, st.1.2.2.2.2.2.1, st.1.2.2.2.2.2.2.1, st.1.2.2.2.2.2.2.2.1, st.1.2.2.2.2.2.2.2.2.1, st.1.2.2.2.2.2.2.2.2.2.1, st.1.2.2.2.2.2.2.2.2.2.2.1, st.1.2.2.2.2.2.2.2.2.2.2.2.1, st.1.2.2.2.2.2.2.2.2.2.2.2.2.1, st.1.2.2.2.2.2.2.2.2.2.2.2.2.2.1, st.1.2.2.2.2.2.2.2.2.2.2.2.2.2.2.1, st.1.2.2.2.2.2.2.2.2.2.2.2.2.2.2.2.1, st.1.2.2.2.2.2.2.2.2.2.2.2.2.2.2.2.2.1, st.1.2.2.2.2.2.2.2.2.2.2.2.2.2.2.2.2.2.1, 1, 0), st.2.1, st.2.2.1, st.2.2.2.1, st.2.2.2.2.1, st.2.2.2.2.2)).2
    if r3 = 1 then
      if p1 = (-2147483648) then
        g_M_passWhole nx p0 p1 (nf 7) u3 1 0 0 true
      else
        g_M_passWhole nx p0 p1 (nf 7) u3 1 p1 0 true
    else
      if p1 = (-2147483648) then
        g_M_passWhole nx p0 p1 (nf 7) u3 0 0 0 true
      else
        g_M_passWhole nx p0 p1 (nf 7) u3 0 p1 0 true
  else
    let r8 := (f_M_pass nx p0 1 ((st.1.1, st.1.2.1, st.1.2.2.1, st.1.2.2.2.1, st.1.2.2.2.2.1, st.1.2.2.2.2.2.1, st.1.2.2.2.2.2.2.1, st.1.2.2.2.2.2.2.2.1, st.1.2.2.2.2.2.2.2.2.1, st.1.2.2.2.2.2.2.2.2.2.1, st.1.2.2.2.2.2.2.2.2.2.2.1, st.1.2.2.2.2.2.2.2.2.2.2.2.1, st.1.2.2.2.2.2.2.2.2.2.2.2.2.1, st.1.2.2.2.2.2.2.2.2.2.2.2.2.2.1, st.1.2.2.2.2.2.2.2.2.2.2.2.2.2.2.1, st.1.2.2.2.2.2.2.2.2.2.2.2.2.2.2.2.1, st.1.2.2.2.2.2.2.2.2.2.2.2.2.2.2.2.2.1, st.1.2.2.2.2.2.2.2.2.2.2.2.2.2.2.2.2.2.1, 1, 0), st.2.1, st.2.2.1, st.2.2.2.1, st.2.2.2.2.1, st.2.2.2.2.2)).1
    let u8 := (f_M_pass nx p0 1 ((st.1.1, st.1.2.1, st.1.2.2.1, st.1.2.2.2.1, st.1.2.2.2.2.1, st.1.2.2.2.2.2.1, st.1.2.2.2.2.2.2.1, st.1.2.2.2.2.2.2.2.1, st.1.2.2.2.2.2.2.2.2.1, st.1.2.2.2.2.2.2.2.2.2.1, st.1.2.2.2.2.2.2.2.2.2.2.1, st.1.2.2.2.2.2.2.2.2.2.2.2.1, st.1.2.2.2.2.2.2.2.2.2.2.2.2.1, st.1.2.2.2.2.2.2.2.2.2.2.2.2.2.1, st.1.2.2.2.2.2.2.2.2.2.2.2.2.2.2.1, st.1.2.2.2.2.2.2.2.2.2.2.2.2.2.2.2.1, st.1.2.2.2.2.2.2.2.2.2.2.2.2.2.2.2.2.1, st.1.2.2.2.2.2.2.2.2.2.2.2.2.2.2.2.2.2.1, 1, 0), st.2.1, st.2.2.1, st.2.2.2.1, st.2.2.2.2.1, st.2.2.2.2.2)).2
    if r8 = 1 then
      if p1 = (-2147483648) then
        g_M_passWhole nx p0 p1 (nf 7) u8 1 0 0 true
      else
        let x13 := (ineg p1)
        g_M_passWhole nx p0 p1 (nf 7) u8 1 x13 0 true
    else
      if p1 = (-2147483648) then
        g_M_passWhole nx p0 p1 (nf 7) u8 0 0 0 true
      else
        let x11 := (ineg p1)
        g_M_passWhole nx p0 p1 (nf 7) u8 0 x11 0 true
  : Int32 × (MS))) := rfl
def k_M_passWhole (nx : Nat) (p0 : Int32) (p1 : Int32) (st : MS) : Prop := ((0 ≤ p1) → (k_M_pass nx p0 0 ((st.1.1, st.1.2.1, st.1.2.2.1, st.1.2.2.2.1, st.1.2.2.2.2.1, st.1.2.2.2.2.2.1, st.1.2.2.2.2.2.2.1, st.1.2.2.2.2.2.2.2.1, st.1.2.2.2.2.2.2.2.2.1, st.1.2.2.2.2.2.2.2.2.2.1, st.1.2.2.2.2.2.2.2.2.2.2.1, st.1.2.2.2.2.2.2.2.2.2.2.2.1, st.1.2.2.2.2.2.2.2.2.2.2.2.2.1, st.1.2.2.2.2.2.2.2.2.2.2.2.2.2.1, st.1.2.2.2.2.2.2.2.2.2.2.2.2.2.2.1, st.1.2.2.2.2.2.2.2.2.2.2.2.2.2.2.2.1, st.1.2.2.2.2.2.2.2.2.2.2.2.2.2.2.2.2.1, st.1.2.2.2.2.2.2.2.2.2.2.2.2.2.2.2.2.2.1, 1, 0), st.2.1, st.2.2.1, st.2.2.2.1, st.2.2.2.2.1, st.2.2.2.2.2)) ∧ ((∀ r3, r3 = (f_M_pass nx p0 0 ((st.1.1, st.1.2.1, st.1.2.2.1, st.1.2.2.2.1, st.1.2.2.2.2.1, st.1.2.2.2.2.2.1, st.1.2.2.2.2.2.2.1, st.1.2.2.2.2.2.2.2.1, st.1.2.2.2.2.2.2.2.2.1, st.1.2.2.2.2.2.2.2.2.2.1, st.1.2.2.2.2.2.2.2.2.2.2.1, st.1.2.2.2.2.2.2.2.2.2.2.2.1, st.1.2.2.2.2.2.2.2.2.2.2.2.2.1, st.1.2.2.2.2.2.2.2.2.2.2.2.2.2.1, st.1.2.2.2.2.2.2.2.2.2.2.2.2.2.2.1, st.1.2.2.2.2.2.2.2.2.2.2.2.2.2.2.2.1, st.1.2.2.2.2.2.2.2.2.2.2.2.2.2.2.2.2.1, st.1.2.2.2.2.2.2.2.2.2.2.2.2.2.2.2.2.2.1, 1, 0), st.2.1, st.2.2.1, st.2.2.2.1, st.2.2.2.2.1, st.2.2.2.2.2)).1 → (∀ u3, u3 = (f_M_pass nx p0 0 ((st.1.1, st.1.2.1, st.1.2.2.1, st.1.2.2.2.1, st.1.2.2.2.2.1, st.1.2.2.2.2.2.1, st.1.2.2.2.2.2.2.1, st.1.2.2.2.2.2.2.2.1, st.1.2.2.2.2.2.2.2.2.1, st.1.2.2.2.2.2.2.2.2.2.1, st.1.2.2.2.2.2.2.2.2.2.2.1, st.1.2.2.2.2.2.2.2.2.2.2.2.1, st.1.2.2.2.2.2.2.2.2.2.2.2.2.1, st.1.2.2.2.2.2.2.2.2.2.2.2.2.2.1, st.1.2.2.2.2.2.2.2.2.2.2.2.2.2.2.1, st.1.2.2.2.2.2.2.2.2.2.2.2.2.2.2.2.1, st.1.2.2.2.2.2.2.2.2.2.2.2.2.2.2.2.2.1, st.1.2.2.2.2.2.2.2.2.2.2.2.2.2.2.2.2.2.1, 1, 0), st.2.1, st.2.2.1, st.2.2.2.1, st.2.2.2.2.1, st.2.2.2.2.2)).2 → ((r3 = 1) → ((p1 = (-2147483648)) → kl_M_passWhole nx p0 p1 (nf 7) u3 1 0 0 true) ∧ (¬ (p1 = (-2147483648)) → kl_M_passWhole nx p0 p1 (nf 7) u3 1 p1 0 true)) ∧ (¬ (r3 = 1) → ((p1 = (-2147483648)) → kl_M_passWhole nx p0 p1 (nf 7) u3 0 0 0 true) ∧ (¬ (p1 = (-2147483648)) → kl_M_passWhole nx p0 p1 (nf 7) u3 0 p1 0 true)))))) ∧ (¬ (0 ≤ p1) → (k_M_pass nx p0 1 ((st.1.1, st.1.2.1, st.1.2.2.1, st.1.2.2.2.1, st.1.2.2.2.2.1, st.1.2.2.2.2.2.1, st.1.2.2.2.2.2.2.1, st.1.2.2.2.2.2.2.2.1, st.1.2.2.2.2.2.2.2.2.1, st.1.2.2.2.2.2.2.2.2.2.1, st.1.2.2.2.2.2.2.2.2.2.2.1, st.1.2.2.2.2.2.2.2.2.2.2.2.1, st.1.2.2.2.2.2.2.2.2.2.2.2.2.1, st.1.2.2.2.2.2.2.2.2.2.2.2.2.2.1, st.1.2.2.2.2.2.2.2.2.2.2.2.2.2.2.1, st.1.2.2.2.2.2.2.2.2.2.2.2.2.2.2.2.1, st.1.2.2.2.2.2.2.2.2.2.2.2.2.2.2.2.2.1, st.1.2.2.2.2.2.2.2.2.2.2.2.2.2.2.2.2.2.1, 1, 0), st.2.1, st.2.2.1, st.2.2.2.1, st.2.2.2.2.1, st.2.2.2.2.2)) ∧ ((∀ r8, r8 = (f_M_pass nx p0 1 ((st.1.1, st.1.2.1, st.1.2.2.1, st.1.2.2.2.1, st.1.2.2.2.2.1, st.1.2.2.2.2.2.1, st.1.2.2.2.2.2.2.1, st.1.2.2.2.2.2.2.2.1, st.1.2.2.2.2.2.2.2.2.1, st.1.2.2.2.2.2.2.2.2.2.1, st.1.2.2.2.2.2.2.2.2.2.2.1, st.1.2.2.2.2.2.2.2.2.2.2.2.1, st.1.2.2.2.2.2.2.2.2.2.2.2.2.1, st.1.2.2.2.2.2.2.2.2.2.2.2.2.2.1, st.1.2.2.2.2.2.2.2.2.2.2.2.2.2.2.1, st.1.2.2.2.2.2.2.2.2.2.2.2.2.2.2.2.1, st.1.2.2.2.2.2.2.2.2.2.2.2.2.2.2.2.2.1, st.1.2.2.2.2.2.2.2.2.2.2.2.2.2.2.2.2.2.1, 1, 0), st.2.1, st.2.2.1, st.2.2.2.1, st.2.2.2.2.1, st.2.2.2.2.2)).1 → (∀ u8, u8 = (f_M_pass nx p0 1 ((st.1.1, st.1.2.1, st.1.2.2.1, st.1.2.2.2.1, st.1.2.2.2.2.1, st.1.2.2.2.2.2.1, st.1.2.2.2.2.2.2.1, st.1.2.2.2.2.2.2.2.1, st.1.2.2.2.2.2.2.2.2.1, st.1.2.2.2.2.2.2.2.2.2.1, st.1.2.2.2.2.2.2.2.2.2.2.1, st.1.2.2.2.2.2.2.2.2.2.2.2.1, st.1.2.2.2.2.2.2.2.2.2.2.2.2.1, st.1.2.2.2.2.2.2.2.2.2.2.2.2.2.1, st.1.2.2.2.2.2.2.2.2.2.2.2.2.2.2.1, st.1.2.2.2.2.2.2.2.2.2.2.2.2.2.2.2.1, st.1.2.2.2.2.2.2.2.2.2.2.2.2.2.2.2.2.1, st.1.2.2.2.2.2.2.2.2.2.2.2.2.2.2.2.2.2.1, 1, 0), st.2.1, st.2.2.1, st.2.2.2.1, st.2.2.2.2.1, st.2.2.2.2.2)).2 → ((r8 = 1) → ((p1 = (-2147483648)) → kl_M_passWhole nx p0 p1 (nf 7) u8 1 0 0 true) ∧ (¬ (p1 = (-2147483648)) → (∀ x13, x13 = (ineg p1) → kl_M_passWhole nx p0 p1 (nf 7) u8 1 x13 0 true))) ∧ (¬ (r8 = 1) → ((p1 = (-2147483648)) → kl_M_passWhole nx p0 p1 (nf 7) u8 0 0 0 true) ∧ (¬ (p1 = (-2147483648)) → (∀ x11, x11 = (ineg p1) → kl_M_passWhole nx p0 p1 (nf 7) u8 0 x11 0 true)))))))
set_option maxHeartbeats 4000000 in
set_option maxRecDepth 100000 in
theorem c_M_passWhole (l : Launch) (E : Ev) (A : Nat → Prop) (mo mc sv sa wr bt s1 s2 s3 nx : Nat) (st : MS) (p0 : Int32) (p1 : Int32)  (hok : k_M_passWhole nx p0 p1 st) :
    Kt l y_M_passWhole b_M_passWhole 9 (some .int) 6 0 0 E A [.ref mo, .int p0, .int p1] [(mo, .inr (5, [.ref s1, .ref s2, .ref s3, .int st.1.1, .int (nI nx), .ref mc, .int st.1.2.1, .ref sv, .int st.1.2.2.1, .ref sa, .ref wr, .int st.1.2.2.2.1, .ref bt, .int (bI st.1.2.2.2.2.1), .int st.1.2.2.2.2.2.1, .int st.1.2.2.2.2.2.2.1, .int st.1.2.2.2.2.2.2.2.1, .int st.1.2.2.2.2.2.2.2.2.1, .int st.1.2.2.2.2.2.2.2.2.2.1, .int st.1.2.2.2.2.2.2.2.2.2.2.1, .int st.1.2.2.2.2.2.2.2.2.2.2.2.1, .int st.1.2.2.2.2.2.2.2.2.2.2.2.2.1, .long st.1.2.2.2.2.2.2.2.2.2.2.2.2.2.1, .int st.1.2.2.2.2.2.2.2.2.2.2.2.2.2.2.1, .int st.1.2.2.2.2.2.2.2.2.2.2.2.2.2.2.2.1, .int st.1.2.2.2.2.2.2.2.2.2.2.2.2.2.2.2.2.1, .int (bI st.1.2.2.2.2.2.2.2.2.2.2.2.2.2.2.2.2.2.1), .int st.1.2.2.2.2.2.2.2.2.2.2.2.2.2.2.2.2.2.2.1, .int st.1.2.2.2.2.2.2.2.2.2.2.2.2.2.2.2.2.2.2.2])), (mc, .inl (E.2.1 0, 139264, .inl st.2.1)), (sv, .inl (E.2.1 0, 393216, .inl st.2.2.1)), (sa, .inl (E.2.1 0, 1100, .inl st.2.2.2.1)), (wr, .inl (E.2.1 1, 1100, .inl st.2.2.2.2.1)), (bt, .inl (E.2.1 0, 120000, .inl st.2.2.2.2.2)), (s1, .inl (E.2.1 0, 47, .inl (zF 0))), (s2, .inl (E.2.1 0, 47, .inl (zF 1))), (s3, .inl (E.2.1 0, 47, .inl (zF 2)))] (va_Qi (fun (r : Int32) (u : MS) => r = (f_M_passWhole nx p0 p1 st).1 ∧ u = (f_M_passWhole nx p0 p1 st).2) (ar_W E A (fun u : MS => [(mo, .inr (5, [.ref s1, .ref s2, .ref s3, .int u.1.1, .int (nI nx), .ref mc, .int u.1.2.1, .ref sv, .int u.1.2.2.1, .ref sa, .ref wr, .int u.1.2.2.2.1, .ref bt, .int (bI u.1.2.2.2.2.1), .int u.1.2.2.2.2.2.1, .int u.1.2.2.2.2.2.2.1, .int u.1.2.2.2.2.2.2.2.1, .int u.1.2.2.2.2.2.2.2.2.1, .int u.1.2.2.2.2.2.2.2.2.2.1, .int u.1.2.2.2.2.2.2.2.2.2.2.1, .int u.1.2.2.2.2.2.2.2.2.2.2.2.1, .int u.1.2.2.2.2.2.2.2.2.2.2.2.2.1, .long u.1.2.2.2.2.2.2.2.2.2.2.2.2.2.1, .int u.1.2.2.2.2.2.2.2.2.2.2.2.2.2.2.1, .int u.1.2.2.2.2.2.2.2.2.2.2.2.2.2.2.2.1, .int u.1.2.2.2.2.2.2.2.2.2.2.2.2.2.2.2.2.1, .int (bI u.1.2.2.2.2.2.2.2.2.2.2.2.2.2.2.2.2.2.1), .int u.1.2.2.2.2.2.2.2.2.2.2.2.2.2.2.2.2.2.2.1, .int u.1.2.2.2.2.2.2.2.2.2.2.2.2.2.2.2.2.2.2.2])), (mc, .inl (E.2.1 0, 139264, .inl u.2.1)), (sv, .inl (E.2.1 0, 393216, .inl u.2.2.1)), (sa, .inl (E.2.1 0, 1100, .inl u.2.2.2.1)), (wr, .inl (E.2.1 1, 1100, .inl u.2.2.2.2.1)), (bt, .inl (E.2.1 0, 120000, .inl u.2.2.2.2.2)), (s1, .inl (E.2.1 0, 47, .inl (zF 0))), (s2, .inl (E.2.1 0, 47, .inl (zF 1))), (s3, .inl (E.2.1 0, 47, .inl (zF 2)))])) A) := by
  unfold k_M_passWhole at hok
  refine Kt.of (by decide) (Nat.le_of_ble_eq_true rfl) ?_
  intro p e s m below meth c ls hx hb hml hown hts hr hlocks hex hin hA hZ hP hK hD hl
  have hS : va_S A s.heap s.heap [] := va_S.rf
  have hl : lv_has ls 9 [(0, .ref mo), (1, .int p0), (2, .int p1)] := hl
  refine lv_aload_n hx hb d_M_passWhole_0 rfl (lv_at hl 0 rfl) ?_
  refine lv_iconst (v := 1) hx hb d_M_passWhole_1 (by decide) ?_
  refine va_put (D := E.1) (ci := 5) (v := .int 1) (ty := .int) (C := R_M) (T := T_M) (N := 29) hx hb hts in_M t_M t_M_ok n_M hown hK hP hD hS 0 rfl rfl 27 (by decide) (hts _ m_637) (fun _ h9 => h9) rfl (by decide +kernel) rfl rfl (Nat.le_of_ble_eq_true rfl) d_M_passWhole_2 (fun Hn locsn hPn hDn hSn => ?_)
  clear hP hD hS
  have hP : va_P E.1 classes [(mo, .inr (5, [.ref s1, .ref s2, .ref s3, .int st.1.1, .int (nI nx), .ref mc, .int st.1.2.1, .ref sv, .int st.1.2.2.1, .ref sa, .ref wr, .int st.1.2.2.2.1, .ref bt, .int (bI st.1.2.2.2.2.1), .int st.1.2.2.2.2.2.1, .int st.1.2.2.2.2.2.2.1, .int st.1.2.2.2.2.2.2.2.1, .int st.1.2.2.2.2.2.2.2.2.1, .int st.1.2.2.2.2.2.2.2.2.2.1, .int st.1.2.2.2.2.2.2.2.2.2.2.1, .int st.1.2.2.2.2.2.2.2.2.2.2.2.1, .int st.1.2.2.2.2.2.2.2.2.2.2.2.2.1, .long st.1.2.2.2.2.2.2.2.2.2.2.2.2.2.1, .int st.1.2.2.2.2.2.2.2.2.2.2.2.2.2.2.1, .int st.1.2.2.2.2.2.2.2.2.2.2.2.2.2.2.2.1, .int st.1.2.2.2.2.2.2.2.2.2.2.2.2.2.2.2.2.1, .int (bI st.1.2.2.2.2.2.2.2.2.2.2.2.2.2.2.2.2.2.1), .int 1, .int st.1.2.2.2.2.2.2.2.2.2.2.2.2.2.2.2.2.2.2.2])), (mc, .inl (E.2.1 0, 139264, .inl st.2.1)), (sv, .inl (E.2.1 0, 393216, .inl st.2.2.1)), (sa, .inl (E.2.1 0, 1100, .inl st.2.2.2.1)), (wr, .inl (E.2.1 1, 1100, .inl st.2.2.2.2.1)), (bt, .inl (E.2.1 0, 120000, .inl st.2.2.2.2.2)), (s1, .inl (E.2.1 0, 47, .inl (zF 0))), (s2, .inl (E.2.1 0, 47, .inl (zF 1))), (s3, .inl (E.2.1 0, 47, .inl (zF 2)))] Hn := hPn
  have hD : va_D A [(mo, .inr (5, [.ref s1, .ref s2, .ref s3, .int st.1.1, .int (nI nx), .ref mc, .int st.1.2.1, .ref sv, .int st.1.2.2.1, .ref sa, .ref wr, .int st.1.2.2.2.1, .ref bt, .int (bI st.1.2.2.2.2.1), .int st.1.2.2.2.2.2.1, .int st.1.2.2.2.2.2.2.1, .int st.1.2.2.2.2.2.2.2.1, .int st.1.2.2.2.2.2.2.2.2.1, .int st.1.2.2.2.2.2.2.2.2.2.1, .int st.1.2.2.2.2.2.2.2.2.2.2.1, .int st.1.2.2.2.2.2.2.2.2.2.2.2.1, .int st.1.2.2.2.2.2.2.2.2.2.2.2.2.1, .long st.1.2.2.2.2.2.2.2.2.2.2.2.2.2.1, .int st.1.2.2.2.2.2.2.2.2.2.2.2.2.2.2.1, .int st.1.2.2.2.2.2.2.2.2.2.2.2.2.2.2.2.1, .int st.1.2.2.2.2.2.2.2.2.2.2.2.2.2.2.2.2.1, .int (bI st.1.2.2.2.2.2.2.2.2.2.2.2.2.2.2.2.2.2.1), .int 1, .int st.1.2.2.2.2.2.2.2.2.2.2.2.2.2.2.2.2.2.2.2])), (mc, .inl (E.2.1 0, 139264, .inl st.2.1)), (sv, .inl (E.2.1 0, 393216, .inl st.2.2.1)), (sa, .inl (E.2.1 0, 1100, .inl st.2.2.2.1)), (wr, .inl (E.2.1 1, 1100, .inl st.2.2.2.2.1)), (bt, .inl (E.2.1 0, 120000, .inl st.2.2.2.2.2)), (s1, .inl (E.2.1 0, 47, .inl (zF 0))), (s2, .inl (E.2.1 0, 47, .inl (zF 1))), (s3, .inl (E.2.1 0, 47, .inl (zF 2)))] := hDn
  have hS := hSn
  clear hPn hDn hSn
  refine lv_aload_n hx hb d_M_passWhole_5 rfl (lv_at hl 0 rfl) ?_
  refine lv_iconst (v := 0) hx hb d_M_passWhole_6 (by decide) ?_
  refine va_put (D := E.1) (ci := 5) (v := .int 0) (ty := .int) (C := R_M) (T := T_M) (N := 29) hx hb hts in_M t_M t_M_ok n_M hown hK hP hD hS 0 rfl rfl 28 (by decide) (hts _ m_638) (fun _ h9 => h9) rfl (by decide +kernel) rfl rfl (Nat.le_of_ble_eq_true rfl) d_M_passWhole_7 (fun Hn locsn hPn hDn hSn => ?_)
  clear hP hD hS
  have hP : va_P E.1 classes [(mo, .inr (5, [.ref s1, .ref s2, .ref s3, .int st.1.1, .int (nI nx), .ref mc, .int st.1.2.1, .ref sv, .int st.1.2.2.1, .ref sa, .ref wr, .int st.1.2.2.2.1, .ref bt, .int (bI st.1.2.2.2.2.1), .int st.1.2.2.2.2.2.1, .int st.1.2.2.2.2.2.2.1, .int st.1.2.2.2.2.2.2.2.1, .int st.1.2.2.2.2.2.2.2.2.1, .int st.1.2.2.2.2.2.2.2.2.2.1, .int st.1.2.2.2.2.2.2.2.2.2.2.1, .int st.1.2.2.2.2.2.2.2.2.2.2.2.1, .int st.1.2.2.2.2.2.2.2.2.2.2.2.2.1, .long st.1.2.2.2.2.2.2.2.2.2.2.2.2.2.1, .int st.1.2.2.2.2.2.2.2.2.2.2.2.2.2.2.1, .int st.1.2.2.2.2.2.2.2.2.2.2.2.2.2.2.2.1, .int st.1.2.2.2.2.2.2.2.2.2.2.2.2.2.2.2.2.1, .int (bI st.1.2.2.2.2.2.2.2.2.2.2.2.2.2.2.2.2.2.1), .int 1, .int 0])), (mc, .inl (E.2.1 0, 139264, .inl st.2.1)), (sv, .inl (E.2.1 0, 393216, .inl st.2.2.1)), (sa, .inl (E.2.1 0, 1100, .inl st.2.2.2.1)), (wr, .inl (E.2.1 1, 1100, .inl st.2.2.2.2.1)), (bt, .inl (E.2.1 0, 120000, .inl st.2.2.2.2.2)), (s1, .inl (E.2.1 0, 47, .inl (zF 0))), (s2, .inl (E.2.1 0, 47, .inl (zF 1))), (s3, .inl (E.2.1 0, 47, .inl (zF 2)))] Hn := hPn
  have hD : va_D A [(mo, .inr (5, [.ref s1, .ref s2, .ref s3, .int st.1.1, .int (nI nx), .ref mc, .int st.1.2.1, .ref sv, .int st.1.2.2.1, .ref sa, .ref wr, .int st.1.2.2.2.1, .ref bt, .int (bI st.1.2.2.2.2.1), .int st.1.2.2.2.2.2.1, .int st.1.2.2.2.2.2.2.1, .int st.1.2.2.2.2.2.2.2.1, .int st.1.2.2.2.2.2.2.2.2.1, .int st.1.2.2.2.2.2.2.2.2.2.1, .int st.1.2.2.2.2.2.2.2.2.2.2.1, .int st.1.2.2.2.2.2.2.2.2.2.2.2.1, .int st.1.2.2.2.2.2.2.2.2.2.2.2.2.1, .long st.1.2.2.2.2.2.2.2.2.2.2.2.2.2.1, .int st.1.2.2.2.2.2.2.2.2.2.2.2.2.2.2.1, .int st.1.2.2.2.2.2.2.2.2.2.2.2.2.2.2.2.1, .int st.1.2.2.2.2.2.2.2.2.2.2.2.2.2.2.2.2.1, .int (bI st.1.2.2.2.2.2.2.2.2.2.2.2.2.2.2.2.2.2.1), .int 1, .int 0])), (mc, .inl (E.2.1 0, 139264, .inl st.2.1)), (sv, .inl (E.2.1 0, 393216, .inl st.2.2.1)), (sa, .inl (E.2.1 0, 1100, .inl st.2.2.2.1)), (wr, .inl (E.2.1 1, 1100, .inl st.2.2.2.2.1)), (bt, .inl (E.2.1 0, 120000, .inl st.2.2.2.2.2)), (s1, .inl (E.2.1 0, 47, .inl (zF 0))), (s2, .inl (E.2.1 0, 47, .inl (zF 1))), (s3, .inl (E.2.1 0, 47, .inl (zF 2)))] := hDn
  have hS := hSn
  clear hPn hDn hSn
  refine lv_aload_n hx hb d_M_passWhole_10 rfl (lv_at hl 0 rfl) ?_
  refine lv_iload_n hx hb d_M_passWhole_11 rfl (lv_at hl 1 rfl) ?_
  refine lv_iload_n hx hb d_M_passWhole_12 rfl (lv_at hl 2 rfl) ?_
  refine lv_if_ge (tgt := 20) hx hb d_M_passWhole_13 (by decide) (fun c1 => ?_) (fun c1 => ?_)
  · replace hok := hok.1 c1
    refine lv_iconst (v := 0) hx hb d_M_passWhole_20 (by decide) ?_
    obtain ⟨hk2, hok⟩ := hok
    refine ar_usei (wr := []) hP hD hS hA [0, 1, 2, 3, 4, 5, 6, 7, 8] [] rfl rfl rfl (by decide) (ar_runV (n := 2) (As := [.int p0, .int 0]) (rest := []) (ci := 5) (q0 := 0) hx hb hml hown hts hP hD hS hA hK hZ (c_M_pass l E _ mo mc sv sa wr bt s1 s2 s3 nx ((st.1.1, st.1.2.1, st.1.2.2.1, st.1.2.2.2.1, st.1.2.2.2.2.1, st.1.2.2.2.2.2.1, st.1.2.2.2.2.2.2.1, st.1.2.2.2.2.2.2.2.1, st.1.2.2.2.2.2.2.2.2.1, st.1.2.2.2.2.2.2.2.2.2.1, st.1.2.2.2.2.2.2.2.2.2.2.1, st.1.2.2.2.2.2.2.2.2.2.2.2.1, st.1.2.2.2.2.2.2.2.2.2.2.2.2.1, st.1.2.2.2.2.2.2.2.2.2.2.2.2.2.1, st.1.2.2.2.2.2.2.2.2.2.2.2.2.2.2.1, st.1.2.2.2.2.2.2.2.2.2.2.2.2.2.2.2.1, st.1.2.2.2.2.2.2.2.2.2.2.2.2.2.2.2.2.1, st.1.2.2.2.2.2.2.2.2.2.2.2.2.2.2.2.2.2.1, 1, 0), st.2.1, st.2.2.1, st.2.2.2.1, st.2.2.2.2.1, st.2.2.2.2.2) p0 0 hk2) m_816 m_818 ms_39 m_7 m_819 (by decide +kernel) ⟨Nat.le_of_ble_eq_true rfl, Nat.le_of_ble_eq_true rfl⟩ [0, 1, 2, 3, 4, 5, 6, 7, 8] rfl rfl rfl rfl rfl rfl rfl hl.1 rfl (Nat.le_of_ble_eq_true rfl) d_M_passWhole_21 ⟨Nat.le_of_ble_eq_true rfl, Nat.le_of_ble_eq_true rfl⟩) (fun r3 u3 Hn locsn hw3 hPn hDn hSn => ?_)
    obtain ⟨hw3a, hw3b⟩ := hw3
    replace hok := hok r3 hw3a
    replace hok := hok u3 hw3b
    clear hP hD hS
    have hP : va_P E.1 classes [(mo, .inr (5, [.ref s1, .ref s2, .ref s3, .int u3.1.1, .int (nI nx), .ref mc, .int u3.1.2.1, .ref sv, .int u3.1.2.2.1, .ref sa, .ref wr, .int u3.1.2.2.2.1, .ref bt, .int (bI u3.1.2.2.2.2.1), .int u3.1.2.2.2.2.2.1, .int u3.1.2.2.2.2.2.2.1, .int u3.1.2.2.2.2.2.2.2.1, .int u3.1.2.2.2.2.2.2.2.2.1, .int u3.1.2.2.2.2.2.2.2.2.2.1, .int u3.1.2.2.2.2.2.2.2.2.2.2.1, .int u3.1.2.2.2.2.2.2.2.2.2.2.2.1, .int u3.1.2.2.2.2.2.2.2.2.2.2.2.2.1, .long u3.1.2.2.2.2.2.2.2.2.2.2.2.2.2.1, .int u3.1.2.2.2.2.2.2.2.2.2.2.2.2.2.2.1, .int u3.1.2.2.2.2.2.2.2.2.2.2.2.2.2.2.2.1, .int u3.1.2.2.2.2.2.2.2.2.2.2.2.2.2.2.2.2.1, .int (bI u3.1.2.2.2.2.2.2.2.2.2.2.2.2.2.2.2.2.2.1), .int u3.1.2.2.2.2.2.2.2.2.2.2.2.2.2.2.2.2.2.2.1, .int u3.1.2.2.2.2.2.2.2.2.2.2.2.2.2.2.2.2.2.2.2])), (mc, .inl (E.2.1 0, 139264, .inl u3.2.1)), (sv, .inl (E.2.1 0, 393216, .inl u3.2.2.1)), (sa, .inl (E.2.1 0, 1100, .inl u3.2.2.2.1)), (wr, .inl (E.2.1 1, 1100, .inl u3.2.2.2.2.1)), (bt, .inl (E.2.1 0, 120000, .inl u3.2.2.2.2.2)), (s1, .inl (E.2.1 0, 47, .inl (zF 0))), (s2, .inl (E.2.1 0, 47, .inl (zF 1))), (s3, .inl (E.2.1 0, 47, .inl (zF 2)))] Hn := hPn
    have hD : va_D A [(mo, .inr (5, [.ref s1, .ref s2, .ref s3, .int u3.1.1, .int (nI nx), .ref mc, .int u3.1.2.1, .ref sv, .int u3.1.2.2.1, .ref sa, .ref wr, .int u3.1.2.2.2.1, .ref bt, .int (bI u3.1.2.2.2.2.1), .int u3.1.2.2.2.2.2.1, .int u3.1.2.2.2.2.2.2.1, .int u3.1.2.2.2.2.2.2.2.1, .int u3.1.2.2.2.2.2.2.2.2.1, .int u3.1.2.2.2.2.2.2.2.2.2.1, .int u3.1.2.2.2.2.2.2.2.2.2.2.1, .int u3.1.2.2.2.2.2.2.2.2.2.2.2.1, .int u3.1.2.2.2.2.2.2.2.2.2.2.2.2.1, .long u3.1.2.2.2.2.2.2.2.2.2.2.2.2.2.1, .int u3.1.2.2.2.2.2.2.2.2.2.2.2.2.2.2.1, .int u3.1.2.2.2.2.2.2.2.2.2.2.2.2.2.2.2.1, .int u3.1.2.2.2.2.2.2.2.2.2.2.2.2.2.2.2.2.1, .int (bI u3.1.2.2.2.2.2.2.2.2.2.2.2.2.2.2.2.2.2.1), .int u3.1.2.2.2.2.2.2.2.2.2.2.2.2.2.2.2.2.2.2.1, .int u3.1.2.2.2.2.2.2.2.2.2.2.2.2.2.2.2.2.2.2.2])), (mc, .inl (E.2.1 0, 139264, .inl u3.2.1)), (sv, .inl (E.2.1 0, 393216, .inl u3.2.2.1)), (sa, .inl (E.2.1 0, 1100, .inl u3.2.2.2.1)), (wr, .inl (E.2.1 1, 1100, .inl u3.2.2.2.2.1)), (bt, .inl (E.2.1 0, 120000, .inl u3.2.2.2.2.2)), (s1, .inl (E.2.1 0, 47, .inl (zF 0))), (s2, .inl (E.2.1 0, 47, .inl (zF 1))), (s3, .inl (E.2.1 0, 47, .inl (zF 2)))] := hDn
    have hS := hSn
    clear hPn hDn hSn
    refine lv_iconst (v := 1) hx hb d_M_passWhole_24 (by decide) ?_
    refine lv_icmp_ne (tgt := 32) hx hb d_M_passWhole_25 (by decide) (fun c4 => ?_) (fun c4 => ?_)
    · replace hok := hok.2 c4
      refine lv_iconst (v := 0) hx hb d_M_passWhole_32 (by decide) ?_
      refine lv_istore_n (lv' := [(3, .int 0), (0, .ref mo), (1, .int p0), (2, .int p1)]) hx hb d_M_passWhole_33 rfl hl (by decide) rfl (fun ls hl => ?_)
      refine lv_iload_n hx hb d_M_passWhole_34 rfl (lv_at hl 3 rfl) ?_
      refine lv_ldc (v := (-2147483648)) hx hb hown (hts _ m_825) d_M_passWhole_35 ?_
      refine lv_icmp_ne (tgt := 44) hx hb d_M_passWhole_37 (by decide) (fun c5 => ?_) (fun c5 => ?_)
      · replace hok := hok.2 c5
        refine lv_iload_n hx hb d_M_passWhole_44 rfl (lv_at hl 3 rfl) ?_
        refine lv_if_ge (tgt := 53) hx hb d_M_passWhole_45 (by decide) (fun cz => ?_) (fun cz => absurd c1 cz)
        refine lv_iload_n hx hb d_M_passWhole_53 rfl (lv_at hl 3 rfl) ?_
        refine lv_istore (lv' := [(4, .int p1), (3, .int 0), (0, .ref mo), (1, .int p0), (2, .int p1)]) hx hb d_M_passWhole_54 hl (by decide) rfl (fun ls hl => ?_)
        refine lv_iconst (v := 0) hx hb d_M_passWhole_56 (by decide) ?_
        refine lv_istore (lv' := [(5, .int 0), (4, .int p1), (3, .int 0), (0, .ref mo), (1, .int p0), (2, .int p1)]) hx hb d_M_passWhole_57 hl (by decide) rfl (fun ls hl => ?_)
        refine lv_iconst (v := 1) hx hb d_M_passWhole_59 (by decide) ?_
        refine lv_istore (lv' := [(6, .int 1), (5, .int 0), (4, .int p1), (3, .int 0), (0, .ref mo), (1, .int p0), (2, .int p1)]) hx hb d_M_passWhole_60 hl (by decide) rfl (fun ls hl => ?_)
        have e9 : f_M_passWhole nx p0 p1 st = g_M_passWhole nx p0 p1 (nf 7) u3 0 p1 0 true := by subst hw3b; subst hw3a; exact (Eq.trans (f_M_passWhole_s nx p0 p1 st) (Eq.trans (if_pos c1) (Eq.trans (if_neg c4) (Eq.trans (if_neg c5) rfl))))
        rw [e9]
        exact lp_M_passWhole l E A mo mc sv sa wr bt s1 s2 s3 nx p0 p1  hx hb hml hown hts hr hlocks hA hZ hK (nf 7) u3 0 p1 0 true _ _ _ hok hP hD hS (lv_sub hl [4, 5, 6, 3, 2, 1, 0] rfl)
      · replace hok := hok.1 c5
        refine lv_iconst (v := 0) hx hb d_M_passWhole_40 (by decide) ?_
        refine lv_goto (tgt := 54) hx hb d_M_passWhole_41 (by decide) ?_
        refine lv_istore (lv' := [(4, .int 0), (3, .int 0), (0, .ref mo), (1, .int p0), (2, .int p1)]) hx hb d_M_passWhole_54 hl (by decide) rfl (fun ls hl => ?_)
        refine lv_iconst (v := 0) hx hb d_M_passWhole_56 (by decide) ?_
        refine lv_istore (lv' := [(5, .int 0), (4, .int 0), (3, .int 0), (0, .ref mo), (1, .int p0), (2, .int p1)]) hx hb d_M_passWhole_57 hl (by decide) rfl (fun ls hl => ?_)
        refine lv_iconst (v := 1) hx hb d_M_passWhole_59 (by decide) ?_
        refine lv_istore (lv' := [(6, .int 1), (5, .int 0), (4, .int 0), (3, .int 0), (0, .ref mo), (1, .int p0), (2, .int p1)]) hx hb d_M_passWhole_60 hl (by decide) rfl (fun ls hl => ?_)
        have e9 : f_M_passWhole nx p0 p1 st = g_M_passWhole nx p0 p1 (nf 7) u3 0 0 0 true := by subst hw3b; subst hw3a; exact (Eq.trans (f_M_passWhole_s nx p0 p1 st) (Eq.trans (if_pos c1) (Eq.trans (if_neg c4) (Eq.trans (if_pos c5) rfl))))
        rw [e9]
        exact lp_M_passWhole l E A mo mc sv sa wr bt s1 s2 s3 nx p0 p1  hx hb hml hown hts hr hlocks hA hZ hK (nf 7) u3 0 0 0 true _ _ _ hok hP hD hS (lv_sub hl [4, 5, 6, 3, 2, 1, 0] rfl)
    · replace hok := hok.1 c4
      refine lv_iconst (v := 1) hx hb d_M_passWhole_28 (by decide) ?_
      refine lv_goto (tgt := 33) hx hb d_M_passWhole_29 (by decide) ?_
      refine lv_istore_n (lv' := [(3, .int 1), (0, .ref mo), (1, .int p0), (2, .int p1)]) hx hb d_M_passWhole_33 rfl hl (by decide) rfl (fun ls hl => ?_)
      refine lv_iload_n hx hb d_M_passWhole_34 rfl (lv_at hl 3 rfl) ?_
      refine lv_ldc (v := (-2147483648)) hx hb hown (hts _ m_825) d_M_passWhole_35 ?_
      refine lv_icmp_ne (tgt := 44) hx hb d_M_passWhole_37 (by decide) (fun c6 => ?_) (fun c6 => ?_)
      · replace hok := hok.2 c6
        refine lv_iload_n hx hb d_M_passWhole_44 rfl (lv_at hl 3 rfl) ?_
        refine lv_if_ge (tgt := 53) hx hb d_M_passWhole_45 (by decide) (fun cz => ?_) (fun cz => absurd c1 cz)
        refine lv_iload_n hx hb d_M_passWhole_53 rfl (lv_at hl 3 rfl) ?_
        refine lv_istore (lv' := [(4, .int p1), (3, .int 1), (0, .ref mo), (1, .int p0), (2, .int p1)]) hx hb d_M_passWhole_54 hl (by decide) rfl (fun ls hl => ?_)
        refine lv_iconst (v := 0) hx hb d_M_passWhole_56 (by decide) ?_
        refine lv_istore (lv' := [(5, .int 0), (4, .int p1), (3, .int 1), (0, .ref mo), (1, .int p0), (2, .int p1)]) hx hb d_M_passWhole_57 hl (by decide) rfl (fun ls hl => ?_)
        refine lv_iconst (v := 1) hx hb d_M_passWhole_59 (by decide) ?_
        refine lv_istore (lv' := [(6, .int 1), (5, .int 0), (4, .int p1), (3, .int 1), (0, .ref mo), (1, .int p0), (2, .int p1)]) hx hb d_M_passWhole_60 hl (by decide) rfl (fun ls hl => ?_)
        have e9 : f_M_passWhole nx p0 p1 st = g_M_passWhole nx p0 p1 (nf 7) u3 1 p1 0 true := by subst hw3b; subst hw3a; exact (Eq.trans (f_M_passWhole_s nx p0 p1 st) (Eq.trans (if_pos c1) (Eq.trans (if_pos c4) (Eq.trans (if_neg c6) rfl))))
        rw [e9]
        exact lp_M_passWhole l E A mo mc sv sa wr bt s1 s2 s3 nx p0 p1  hx hb hml hown hts hr hlocks hA hZ hK (nf 7) u3 1 p1 0 true _ _ _ hok hP hD hS (lv_sub hl [4, 5, 6, 3, 2, 1, 0] rfl)
      · replace hok := hok.1 c6
        refine lv_iconst (v := 0) hx hb d_M_passWhole_40 (by decide) ?_
        refine lv_goto (tgt := 54) hx hb d_M_passWhole_41 (by decide) ?_
        refine lv_istore (lv' := [(4, .int 0), (3, .int 1), (0, .ref mo), (1, .int p0), (2, .int p1)]) hx hb d_M_passWhole_54 hl (by decide) rfl (fun ls hl => ?_)
        refine lv_iconst (v := 0) hx hb d_M_passWhole_56 (by decide) ?_
        refine lv_istore (lv' := [(5, .int 0), (4, .int 0), (3, .int 1), (0, .ref mo), (1, .int p0), (2, .int p1)]) hx hb d_M_passWhole_57 hl (by decide) rfl (fun ls hl => ?_)
        refine lv_iconst (v := 1) hx hb d_M_passWhole_59 (by decide) ?_
        refine lv_istore (lv' := [(6, .int 1), (5, .int 0), (4, .int 0), (3, .int 1), (0, .ref mo), (1, .int p0), (2, .int p1)]) hx hb d_M_passWhole_60 hl (by decide) rfl (fun ls hl => ?_)
        have e9 : f_M_passWhole nx p0 p1 st = g_M_passWhole nx p0 p1 (nf 7) u3 1 0 0 true := by subst hw3b; subst hw3a; exact (Eq.trans (f_M_passWhole_s nx p0 p1 st) (Eq.trans (if_pos c1) (Eq.trans (if_pos c4) (Eq.trans (if_pos c6) rfl))))
        rw [e9]
        exact lp_M_passWhole l E A mo mc sv sa wr bt s1 s2 s3 nx p0 p1  hx hb hml hown hts hr hlocks hA hZ hK (nf 7) u3 1 0 0 true _ _ _ hok hP hD hS (lv_sub hl [4, 5, 6, 3, 2, 1, 0] rfl)
  · replace hok := hok.2 c1
    refine lv_iconst (v := 1) hx hb d_M_passWhole_16 (by decide) ?_
    refine lv_goto (tgt := 21) hx hb d_M_passWhole_17 (by decide) ?_
    obtain ⟨hk7, hok⟩ := hok
    refine ar_usei (wr := []) hP hD hS hA [0, 1, 2, 3, 4, 5, 6, 7, 8] [] rfl rfl rfl (by decide) (ar_runV (n := 2) (As := [.int p0, .int 1]) (rest := []) (ci := 5) (q0 := 0) hx hb hml hown hts hP hD hS hA hK hZ (c_M_pass l E _ mo mc sv sa wr bt s1 s2 s3 nx ((st.1.1, st.1.2.1, st.1.2.2.1, st.1.2.2.2.1, st.1.2.2.2.2.1, st.1.2.2.2.2.2.1, st.1.2.2.2.2.2.2.1, st.1.2.2.2.2.2.2.2.1, st.1.2.2.2.2.2.2.2.2.1, st.1.2.2.2.2.2.2.2.2.2.1, st.1.2.2.2.2.2.2.2.2.2.2.1, st.1.2.2.2.2.2.2.2.2.2.2.2.1, st.1.2.2.2.2.2.2.2.2.2.2.2.2.1, st.1.2.2.2.2.2.2.2.2.2.2.2.2.2.1, st.1.2.2.2.2.2.2.2.2.2.2.2.2.2.2.1, st.1.2.2.2.2.2.2.2.2.2.2.2.2.2.2.2.1, st.1.2.2.2.2.2.2.2.2.2.2.2.2.2.2.2.2.1, st.1.2.2.2.2.2.2.2.2.2.2.2.2.2.2.2.2.2.1, 1, 0), st.2.1, st.2.2.1, st.2.2.2.1, st.2.2.2.2.1, st.2.2.2.2.2) p0 1 hk7) m_816 m_818 ms_39 m_7 m_819 (by decide +kernel) ⟨Nat.le_of_ble_eq_true rfl, Nat.le_of_ble_eq_true rfl⟩ [0, 1, 2, 3, 4, 5, 6, 7, 8] rfl rfl rfl rfl rfl rfl rfl hl.1 rfl (Nat.le_of_ble_eq_true rfl) d_M_passWhole_21 ⟨Nat.le_of_ble_eq_true rfl, Nat.le_of_ble_eq_true rfl⟩) (fun r8 u8 Hn locsn hw8 hPn hDn hSn => ?_)
    obtain ⟨hw8a, hw8b⟩ := hw8
    replace hok := hok r8 hw8a
    replace hok := hok u8 hw8b
    clear hP hD hS
    have hP : va_P E.1 classes [(mo, .inr (5, [.ref s1, .ref s2, .ref s3, .int u8.1.1, .int (nI nx), .ref mc, .int u8.1.2.1, .ref sv, .int u8.1.2.2.1, .ref sa, .ref wr, .int u8.1.2.2.2.1, .ref bt, .int (bI u8.1.2.2.2.2.1), .int u8.1.2.2.2.2.2.1, .int u8.1.2.2.2.2.2.2.1, .int u8.1.2.2.2.2.2.2.2.1, .int u8.1.2.2.2.2.2.2.2.2.1, .int u8.1.2.2.2.2.2.2.2.2.2.1, .int u8.1.2.2.2.2.2.2.2.2.2.2.1, .int u8.1.2.2.2.2.2.2.2.2.2.2.2.1, .int u8.1.2.2.2.2.2.2.2.2.2.2.2.2.1, .long u8.1.2.2.2.2.2.2.2.2.2.2.2.2.2.1, .int u8.1.2.2.2.2.2.2.2.2.2.2.2.2.2.2.1, .int u8.1.2.2.2.2.2.2.2.2.2.2.2.2.2.2.2.1, .int u8.1.2.2.2.2.2.2.2.2.2.2.2.2.2.2.2.2.1, .int (bI u8.1.2.2.2.2.2.2.2.2.2.2.2.2.2.2.2.2.2.1), .int u8.1.2.2.2.2.2.2.2.2.2.2.2.2.2.2.2.2.2.2.1, .int u8.1.2.2.2.2.2.2.2.2.2.2.2.2.2.2.2.2.2.2.2])), (mc, .inl (E.2.1 0, 139264, .inl u8.2.1)), (sv, .inl (E.2.1 0, 393216, .inl u8.2.2.1)), (sa, .inl (E.2.1 0, 1100, .inl u8.2.2.2.1)), (wr, .inl (E.2.1 1, 1100, .inl u8.2.2.2.2.1)), (bt, .inl (E.2.1 0, 120000, .inl u8.2.2.2.2.2)), (s1, .inl (E.2.1 0, 47, .inl (zF 0))), (s2, .inl (E.2.1 0, 47, .inl (zF 1))), (s3, .inl (E.2.1 0, 47, .inl (zF 2)))] Hn := hPn
    have hD : va_D A [(mo, .inr (5, [.ref s1, .ref s2, .ref s3, .int u8.1.1, .int (nI nx), .ref mc, .int u8.1.2.1, .ref sv, .int u8.1.2.2.1, .ref sa, .ref wr, .int u8.1.2.2.2.1, .ref bt, .int (bI u8.1.2.2.2.2.1), .int u8.1.2.2.2.2.2.1, .int u8.1.2.2.2.2.2.2.1, .int u8.1.2.2.2.2.2.2.2.1, .int u8.1.2.2.2.2.2.2.2.2.1, .int u8.1.2.2.2.2.2.2.2.2.2.1, .int u8.1.2.2.2.2.2.2.2.2.2.2.1, .int u8.1.2.2.2.2.2.2.2.2.2.2.2.1, .int u8.1.2.2.2.2.2.2.2.2.2.2.2.2.1, .long u8.1.2.2.2.2.2.2.2.2.2.2.2.2.2.1, .int u8.1.2.2.2.2.2.2.2.2.2.2.2.2.2.2.1, .int u8.1.2.2.2.2.2.2.2.2.2.2.2.2.2.2.2.1, .int u8.1.2.2.2.2.2.2.2.2.2.2.2.2.2.2.2.2.1, .int (bI u8.1.2.2.2.2.2.2.2.2.2.2.2.2.2.2.2.2.2.1), .int u8.1.2.2.2.2.2.2.2.2.2.2.2.2.2.2.2.2.2.2.1, .int u8.1.2.2.2.2.2.2.2.2.2.2.2.2.2.2.2.2.2.2.2])), (mc, .inl (E.2.1 0, 139264, .inl u8.2.1)), (sv, .inl (E.2.1 0, 393216, .inl u8.2.2.1)), (sa, .inl (E.2.1 0, 1100, .inl u8.2.2.2.1)), (wr, .inl (E.2.1 1, 1100, .inl u8.2.2.2.2.1)), (bt, .inl (E.2.1 0, 120000, .inl u8.2.2.2.2.2)), (s1, .inl (E.2.1 0, 47, .inl (zF 0))), (s2, .inl (E.2.1 0, 47, .inl (zF 1))), (s3, .inl (E.2.1 0, 47, .inl (zF 2)))] := hDn
    have hS := hSn
    clear hPn hDn hSn
    refine lv_iconst (v := 1) hx hb d_M_passWhole_24 (by decide) ?_
    refine lv_icmp_ne (tgt := 32) hx hb d_M_passWhole_25 (by decide) (fun c9 => ?_) (fun c9 => ?_)
    · replace hok := hok.2 c9
      refine lv_iconst (v := 0) hx hb d_M_passWhole_32 (by decide) ?_
      refine lv_istore_n (lv' := [(3, .int 0), (0, .ref mo), (1, .int p0), (2, .int p1)]) hx hb d_M_passWhole_33 rfl hl (by decide) rfl (fun ls hl => ?_)
      refine lv_iload_n hx hb d_M_passWhole_34 rfl (lv_at hl 3 rfl) ?_
      refine lv_ldc (v := (-2147483648)) hx hb hown (hts _ m_825) d_M_passWhole_35 ?_
      refine lv_icmp_ne (tgt := 44) hx hb d_M_passWhole_37 (by decide) (fun c10 => ?_) (fun c10 => ?_)
      · replace hok := hok.2 c10
        refine lv_iload_n hx hb d_M_passWhole_44 rfl (lv_at hl 3 rfl) ?_
        refine lv_if_ge (tgt := 53) hx hb d_M_passWhole_45 (by decide) (fun cz => absurd cz c1) (fun cz => ?_)
        refine lv_iload_n hx hb d_M_passWhole_48 rfl (lv_at hl 3 rfl) ?_
        refine ar_ineg hx hb d_M_passWhole_49 ?_
        refine lv_goto (tgt := 54) hx hb d_M_passWhole_50 (by decide) ?_
        refine lv_topi (fun x11 ex11 => ?_)
        replace hok := hok x11 ex11
        refine lv_istore (lv' := [(4, .int x11), (3, .int 0), (0, .ref mo), (1, .int p0), (2, .int p1)]) hx hb d_M_passWhole_54 hl (by decide) rfl (fun ls hl => ?_)
        refine lv_iconst (v := 0) hx hb d_M_passWhole_56 (by decide) ?_
        refine lv_istore (lv' := [(5, .int 0), (4, .int x11), (3, .int 0), (0, .ref mo), (1, .int p0), (2, .int p1)]) hx hb d_M_passWhole_57 hl (by decide) rfl (fun ls hl => ?_)
        refine lv_iconst (v := 1) hx hb d_M_passWhole_59 (by decide) ?_
        refine lv_istore (lv' := [(6, .int 1), (5, .int 0), (4, .int x11), (3, .int 0), (0, .ref mo), (1, .int p0), (2, .int p1)]) hx hb d_M_passWhole_60 hl (by decide) rfl (fun ls hl => ?_)
        have e9 : f_M_passWhole nx p0 p1 st = g_M_passWhole nx p0 p1 (nf 7) u8 0 x11 0 true := by subst ex11; subst hw8b; subst hw8a; exact (Eq.trans (f_M_passWhole_s nx p0 p1 st) (Eq.trans (if_neg c1) (Eq.trans (if_neg c9) (Eq.trans (if_neg c10) rfl))))
        rw [e9]
        exact lp_M_passWhole l E A mo mc sv sa wr bt s1 s2 s3 nx p0 p1  hx hb hml hown hts hr hlocks hA hZ hK (nf 7) u8 0 x11 0 true _ _ _ hok hP hD hS (lv_sub hl [4, 5, 6, 3, 2, 1, 0] rfl)
      · replace hok := hok.1 c10
        refine lv_iconst (v := 0) hx hb d_M_passWhole_40 (by decide) ?_
        refine lv_goto (tgt := 54) hx hb d_M_passWhole_41 (by decide) ?_
        refine lv_istore (lv' := [(4, .int 0), (3, .int 0), (0, .ref mo), (1, .int p0), (2, .int p1)]) hx hb d_M_passWhole_54 hl (by decide) rfl (fun ls hl => ?_)
        refine lv_iconst (v := 0) hx hb d_M_passWhole_56 (by decide) ?_
        refine lv_istore (lv' := [(5, .int 0), (4, .int 0), (3, .int 0), (0, .ref mo), (1, .int p0), (2, .int p1)]) hx hb d_M_passWhole_57 hl (by decide) rfl (fun ls hl => ?_)
        refine lv_iconst (v := 1) hx hb d_M_passWhole_59 (by decide) ?_
        refine lv_istore (lv' := [(6, .int 1), (5, .int 0), (4, .int 0), (3, .int 0), (0, .ref mo), (1, .int p0), (2, .int p1)]) hx hb d_M_passWhole_60 hl (by decide) rfl (fun ls hl => ?_)
        have e9 : f_M_passWhole nx p0 p1 st = g_M_passWhole nx p0 p1 (nf 7) u8 0 0 0 true := by subst hw8b; subst hw8a; exact (Eq.trans (f_M_passWhole_s nx p0 p1 st) (Eq.trans (if_neg c1) (Eq.trans (if_neg c9) (Eq.trans (if_pos c10) rfl))))
        rw [e9]
        exact lp_M_passWhole l E A mo mc sv sa wr bt s1 s2 s3 nx p0 p1  hx hb hml hown hts hr hlocks hA hZ hK (nf 7) u8 0 0 0 true _ _ _ hok hP hD hS (lv_sub hl [4, 5, 6, 3, 2, 1, 0] rfl)
    · replace hok := hok.1 c9
      refine lv_iconst (v := 1) hx hb d_M_passWhole_28 (by decide) ?_
      refine lv_goto (tgt := 33) hx hb d_M_passWhole_29 (by decide) ?_
      refine lv_istore_n (lv' := [(3, .int 1), (0, .ref mo), (1, .int p0), (2, .int p1)]) hx hb d_M_passWhole_33 rfl hl (by decide) rfl (fun ls hl => ?_)
      refine lv_iload_n hx hb d_M_passWhole_34 rfl (lv_at hl 3 rfl) ?_
      refine lv_ldc (v := (-2147483648)) hx hb hown (hts _ m_825) d_M_passWhole_35 ?_
      refine lv_icmp_ne (tgt := 44) hx hb d_M_passWhole_37 (by decide) (fun c12 => ?_) (fun c12 => ?_)
      · replace hok := hok.2 c12
        refine lv_iload_n hx hb d_M_passWhole_44 rfl (lv_at hl 3 rfl) ?_
        refine lv_if_ge (tgt := 53) hx hb d_M_passWhole_45 (by decide) (fun cz => absurd cz c1) (fun cz => ?_)
        refine lv_iload_n hx hb d_M_passWhole_48 rfl (lv_at hl 3 rfl) ?_
        refine ar_ineg hx hb d_M_passWhole_49 ?_
        refine lv_goto (tgt := 54) hx hb d_M_passWhole_50 (by decide) ?_
        refine lv_topi (fun x13 ex13 => ?_)
        replace hok := hok x13 ex13
        refine lv_istore (lv' := [(4, .int x13), (3, .int 1), (0, .ref mo), (1, .int p0), (2, .int p1)]) hx hb d_M_passWhole_54 hl (by decide) rfl (fun ls hl => ?_)
        refine lv_iconst (v := 0) hx hb d_M_passWhole_56 (by decide) ?_
        refine lv_istore (lv' := [(5, .int 0), (4, .int x13), (3, .int 1), (0, .ref mo), (1, .int p0), (2, .int p1)]) hx hb d_M_passWhole_57 hl (by decide) rfl (fun ls hl => ?_)
        refine lv_iconst (v := 1) hx hb d_M_passWhole_59 (by decide) ?_
        refine lv_istore (lv' := [(6, .int 1), (5, .int 0), (4, .int x13), (3, .int 1), (0, .ref mo), (1, .int p0), (2, .int p1)]) hx hb d_M_passWhole_60 hl (by decide) rfl (fun ls hl => ?_)
        have e9 : f_M_passWhole nx p0 p1 st = g_M_passWhole nx p0 p1 (nf 7) u8 1 x13 0 true := by subst ex13; subst hw8b; subst hw8a; exact (Eq.trans (f_M_passWhole_s nx p0 p1 st) (Eq.trans (if_neg c1) (Eq.trans (if_pos c9) (Eq.trans (if_neg c12) rfl))))
        rw [e9]
        exact lp_M_passWhole l E A mo mc sv sa wr bt s1 s2 s3 nx p0 p1  hx hb hml hown hts hr hlocks hA hZ hK (nf 7) u8 1 x13 0 true _ _ _ hok hP hD hS (lv_sub hl [4, 5, 6, 3, 2, 1, 0] rfl)
      · replace hok := hok.1 c12
        refine lv_iconst (v := 0) hx hb d_M_passWhole_40 (by decide) ?_
        refine lv_goto (tgt := 54) hx hb d_M_passWhole_41 (by decide) ?_
        refine lv_istore (lv' := [(4, .int 0), (3, .int 1), (0, .ref mo), (1, .int p0), (2, .int p1)]) hx hb d_M_passWhole_54 hl (by decide) rfl (fun ls hl => ?_)
        refine lv_iconst (v := 0) hx hb d_M_passWhole_56 (by decide) ?_
        refine lv_istore (lv' := [(5, .int 0), (4, .int 0), (3, .int 1), (0, .ref mo), (1, .int p0), (2, .int p1)]) hx hb d_M_passWhole_57 hl (by decide) rfl (fun ls hl => ?_)
        refine lv_iconst (v := 1) hx hb d_M_passWhole_59 (by decide) ?_
        refine lv_istore (lv' := [(6, .int 1), (5, .int 0), (4, .int 0), (3, .int 1), (0, .ref mo), (1, .int p0), (2, .int p1)]) hx hb d_M_passWhole_60 hl (by decide) rfl (fun ls hl => ?_)
        have e9 : f_M_passWhole nx p0 p1 st = g_M_passWhole nx p0 p1 (nf 7) u8 1 0 0 true := by subst hw8b; subst hw8a; exact (Eq.trans (f_M_passWhole_s nx p0 p1 st) (Eq.trans (if_neg c1) (Eq.trans (if_pos c9) (Eq.trans (if_pos c12) rfl))))
        rw [e9]
        exact lp_M_passWhole l E A mo mc sv sa wr bt s1 s2 s3 nx p0 p1  hx hb hml hown hts hr hlocks hA hZ hK (nf 7) u8 1 0 0 true _ _ _ hok hP hD hS (lv_sub hl [4, 5, 6, 3, 2, 1, 0] rfl)

noncomputable def f_M_whole (nx : Nat) (p0 : Int32) (p1 : Int32) (st : MS) : Int32 × (MS) :=
  let b1 := f_M_in  p0 0 7 
  if bI b1 = 0 then
    (0, ((1, st.1.2.1, st.1.2.2.1, st.1.2.2.2.1, st.1.2.2.2.2.1, st.1.2.2.2.2.2.1, st.1.2.2.2.2.2.2.1, st.1.2.2.2.2.2.2.2.1, st.1.2.2.2.2.2.2.2.2.1, st.1.2.2.2.2.2.2.2.2.2.1, st.1.2.2.2.2.2.2.2.2.2.2.1, st.1.2.2.2.2.2.2.2.2.2.2.2.1, st.1.2.2.2.2.2.2.2.2.2.2.2.2.1, st.1.2.2.2.2.2.2.2.2.2.2.2.2.2.1, st.1.2.2.2.2.2.2.2.2.2.2.2.2.2.2.1, st.1.2.2.2.2.2.2.2.2.2.2.2.2.2.2.2.1, st.1.2.2.2.2.2.2.2.2.2.2.2.2.2.2.2.2.1, st.1.2.2.2.2.2.2.2.2.2.2.2.2.2.2.2.2.2.1, st.1.2.2.2.2.2.2.2.2.2.2.2.2.2.2.2.2.2.2.1, st.1.2.2.2.2.2.2.2.2.2.2.2.2.2.2.2.2.2.2.2), st.2.1, st.2.2.1, st.2.2.2.1, st.2.2.2.2.1, st.2.2.2.2.2))
  else
    if bI st.1.2.2.2.2.1 = 0 then
      let r5 := (f_M_passWhole nx p0 p1 ((0, st.1.2.1, st.1.2.2.1, st.1.2.2.2.1, st.1.2.2.2.2.1, st.1.2.2.2.2.2.1, st.1.2.2.2.2.2.2.1, st.1.2.2.2.2.2.2.2.1, st.1.2.2.2.2.2.2.2.2.1, st.1.2.2.2.2.2.2.2.2.2.1, st.1.2.2.2.2.2.2.2.2.2.2.1, st.1.2.2.2.2.2.2.2.2.2.2.2.1, st.1.2.2.2.2.2.2.2.2.2.2.2.2.1, st.1.2.2.2.2.2.2.2.2.2.2.2.2.2.1, st.1.2.2.2.2.2.2.2.2.2.2.2.2.2.2.1, st.1.2.2.2.2.2.2.2.2.2.2.2.2.2.2.2.1, st.1.2.2.2.2.2.2.2.2.2.2.2.2.2.2.2.2.1, st.1.2.2.2.2.2.2.2.2.2.2.2.2.2.2.2.2.2.1, st.1.2.2.2.2.2.2.2.2.2.2.2.2.2.2.2.2.2.2.1, st.1.2.2.2.2.2.2.2.2.2.2.2.2.2.2.2.2.2.2.2), st.2.1, st.2.2.1, st.2.2.2.1, st.2.2.2.2.1, st.2.2.2.2.2)).1
      let u5 := (f_M_passWhole nx p0 p1 ((0, st.1.2.1, st.1.2.2.1, st.1.2.2.2.1, st.1.2.2.2.2.1, st.1.2.2.2.2.2.1, st.1.2.2.2.2.2.2.1, st.1.2.2.2.2.2.2.2.1, st.1.2.2.2.2.2.2.2.2.1, st.1.2.2.2.2.2.2.2.2.2.1, st.1.2.2.2.2.2.2.2.2.2.2.1, st.1.2.2.2.2.2.2.2.2.2.2.2.1, st.1.2.2.2.2.2.2.2.2.2.2.2.2.1, st.1.2.2.2.2.2.2.2.2.2.2.2.2.2.1, st.1.2.2.2.2.2.2.2.2.2.2.2.2.2.2.1, st.1.2.2.2.2.2.2.2.2.2.2.2.2.2.2.2.1, st.1.2.2.2.2.2.2.2.2.2.2.2.2.2.2.2.2.1, st.1.2.2.2.2.2.2.2.2.2.2.2.2.2.2.2.2.2.1, st.1.2.2.2.2.2.2.2.2.2.2.2.2.2.2.2.2.2.2.1, st.1.2.2.2.2.2.2.2.2.2.2.2.2.2.2.2.2.2.2.2), st.2.1, st.2.2.1, st.2.2.2.1, st.2.2.2.2.1, st.2.2.2.2.2)).2
      (u5.1.2.2.2.2.2.2.2.2.2.2.2.2.2.2.2.2.2.2.2, u5)
    else
      (0, ((2, st.1.2.1, st.1.2.2.1, st.1.2.2.2.1, st.1.2.2.2.2.1, st.1.2.2.2.2.2.1, st.1.2.2.2.2.2.2.1, st.1.2.2.2.2.2.2.2.1, st.1.2.2.2.2.2.2.2.2.1, st.1.2.2.2.2.2.2.2.2.2.1, st.1.2.2.2.2.2.2.2.2.2.2.1, st.1.2.2.2.2.2.2.2.2.2.2.2.1, st.1.2.2.2.2.2.2.2.2.2.2.2.2.1, st.1.2.2.2.2.2.2.2.2.2.2.2.2.2.1, st.1.2.2.2.2.2.2.2.2.2.2.2.2.2.2.1, st.1.2.2.2.2.2.2.2.2.2.2.2.2.2.2.2.1, st.1.2.2.2.2.2.2.2.2.2.2.2.2.2.2.2.2.1, st.1.2.2.2.2.2.2.2.2.2.2.2.2.2.2.2.2.2.1, st.1.2.2.2.2.2.2.2.2.2.2.2.2.2.2.2.2.2.2.1, st.1.2.2.2.2.2.2.2.2.2.2.2.2.2.2.2.2.2.2.2), st.2.1, st.2.2.1, st.2.2.2.1, st.2.2.2.2.1, st.2.2.2.2.2))
theorem f_M_whole_s (nx : Nat) (p0 : Int32) (p1 : Int32) (st : MS) : f_M_whole nx p0 p1 st = ((
  let b1 := f_M_in  p0 0 7 
  if bI b1 = 0 then
    (0, ((1, st.1.2.1, st.1.2.2.1, st.1.2.2.2.1, st.1.2.2.2.2.1, st.1.2.2.2.2.2.1, st.1.2.2.2.2.2.2.1, st.1.2.2.2.2.2.2.2.1, st.1.2.2.2.2.2.2.2.2.1, st.1.2.2.2.2.2.2.2.2.2.1, st.1.2.2.2.2.2.2.2.2.2.2.1, st.1.2.2.2.2.2.2.2.2.2.2.2.1, st.1.2.2.2.2.2.2.2.2.2.2.2.2.1, st.1.2.2.2.2.2.2.2.2.2.2.2.2.2.1, st.1.2.2.2.2.2.2.2.2.2.2.2.2.2.2.1, st.1.2.2.2.2.2.2.2.2.2.2.2.2.2.2.2.1, st.1.2.2.2.2.2.2.2.2.2.2.2.2.2.2.2.2.1, st.1.2.2.2.2.2.2.2.2.2.2.2.2.2.2.2.2.2.1, st.1.2.2.2.2.2.2.2.2.2.2.2.2.2.2.2.2.2.2.1, st.1.2.2.2.2.2.2.2.2.2.2.2.2.2.2.2.2.2.2.2), st.2.1, st.2.2.1, st.2.2.2.1, st.2.2.2.2.1, st.2.2.2.2.2))
  else
    if bI st.1.2.2.2.2.1 = 0 then
      let r5 := (f_M_passWhole nx p0 p1 ((0, st.1.2.1, st.1.2.2.1, st.1.2.2.2.1, st.1.2.2.2.2.1, st.1.2.2.2.2.2.1, st.1.2.2.2.2.2.2.1, st.1.2.2.2.2.2.2.2.1, st.1.2.2.2.2.2.2.2.2.1, st.1.2.2.2.2.2.2.2.2.2.1, st.1.2.2.2.2.2.2.2.2.2.2.1, st.1.2.2.2.2.2.2.2.2.2.2.2.1, st.1.2.2.2.2.2.2.2.2.2.2.2.2.1, st.1.2.2.2.2.2.2.2.2.2.2.2.2.2.1, st.1.2.2.2.2.2.2.2.2.2.2.2.2.2.2.1, st.1.2.2.2.2.2.2.2.2.2.2.2.2.2.2.2.1, st.1.2.2.2.2.2.2.2.2.2.2.2.2.2.2.2.2.1, st.1.2.2.2.2.2.2.2.2.2.2.2.2.2.2.2.2.2.1, st.1.2.2.2.2.2.2.2.2.2.2.2.2.2.2.2.2.2.2.1, st.1.2.2.2.2.2.2.2.2.2.2.2.2.2.2.2.2.2.2.2), st.2.1, st.2.2.1, st.2.2.2.1, st.2.2.2.2.1, st.2.2.2.2.2)).1
      let u5 := (f_M_passWhole nx p0 p1 ((0, st.1.2.1, st.1.2.2.1, st.1.2.2.2.1, st.1.2.2.2.2.1, st.1.2.2.2.2.2.1, st.1.2.2.2.2.2.2.1, st.1.2.2.2.2.2.2.2.1, st.1.2.2.2.2.2.2.2.2.1, st.1.2.2.2.2.2.2.2.2.2.1, st.1.2.2.2.2.2.2.2.2.2.2.1, st.1.2.2.2.2.2.2.2.2.2.2.2.1, st.1.2.2.2.2.2.2.2.2.2.2.2.2.1, st.1.2.2.2.2.2.2.2.2.2.2.2.2.2.1, st.1.2.2.2.2.2.2.2.2.2.2.2.2.2.2.1, st.1.2.2.2.2.2.2.2.2.2.2.2.2.2.2.2.1, st.1.2.2.2.2.2.2.2.2.2.2.2.2.2.2.2.2.1, st.1.2.2.2.2.2.2.2.2.2.2.2.2.2.2.2.2.2.1, st.1.2.2.2.2.2.2.2.2.2.2.2.2.2.2.2.2.2.2.1, st.1.2.2.2.2.2.2.2.2.2.2.2.2.2.2.2.2.2.2.2), st.2.1, st.2.2.1, st.2.2.2.1, st.2.2.2.2.1, st.2.2.2.2.2)).2
      (u5.1.2.2.2.2.2.2.2.2.2.2.2.2.2.2.2.2.2.2.2, u5)
    else
      (0, ((2, st.1.2.1, st.1.2.2.1, st.1.2.2.2.1, st.1.2.2.2.2.1, st.1.2.2.2.2.2.1, st.1.2.2.2.2.2.2.1, st.1.2.2.2.2.2.2.2.1, st.1.2.2.2.2.2.2.2.2.1, st.1.2.2.2.2.2.2.2.2.2.1, st.1.2.2.2.2.2.2.2.2.2.2.1, st.1.2.2.2.2.2.2.2.2.2.2.2.1, st.1.2.2.2.2.2.2.2.2.2.2.2.2.1, st.1.2.2.2.2.2.2.2.2.2.2.2.2.2.1, st.1.2.2.2.2.2.2.2.2.2.2.2.2.2.2.1, st.1.2.2.2.2.2.2.2.2.2.2.2.2.2.2.2.1, st.1.2.2.2.2.2.2.2.2.2.2.2.2.2.2.2.2.1, st.1.2.2.2.2.2.2.2.2.2.2.2.2.2.2.2.2.2.1, st.1.2.2.2.2.2.2.2.2.2.2.2.2.2.2.2.2.2.2.1, st.1.2.2.2.2.2.2.2.2.2.2.2.2.2.2.2.2.2.2.2), st.2.1, st.2.2.1, st.2.2.2.1, st.2.2.2.2.1, st.2.2.2.2.2))
  : Int32 × (MS))) := rfl
def k_M_whole (nx : Nat) (p0 : Int32) (p1 : Int32) (st : MS) : Prop := (∀ b1, b1 = f_M_in  p0 0 7  → ((bI b1 = 0) → True) ∧ (¬ (bI b1 = 0) → ((bI st.1.2.2.2.2.1 = 0) → (k_M_passWhole nx p0 p1 ((0, st.1.2.1, st.1.2.2.1, st.1.2.2.2.1, st.1.2.2.2.2.1, st.1.2.2.2.2.2.1, st.1.2.2.2.2.2.2.1, st.1.2.2.2.2.2.2.2.1, st.1.2.2.2.2.2.2.2.2.1, st.1.2.2.2.2.2.2.2.2.2.1, st.1.2.2.2.2.2.2.2.2.2.2.1, st.1.2.2.2.2.2.2.2.2.2.2.2.1, st.1.2.2.2.2.2.2.2.2.2.2.2.2.1, st.1.2.2.2.2.2.2.2.2.2.2.2.2.2.1, st.1.2.2.2.2.2.2.2.2.2.2.2.2.2.2.1, st.1.2.2.2.2.2.2.2.2.2.2.2.2.2.2.2.1, st.1.2.2.2.2.2.2.2.2.2.2.2.2.2.2.2.2.1, st.1.2.2.2.2.2.2.2.2.2.2.2.2.2.2.2.2.2.1, st.1.2.2.2.2.2.2.2.2.2.2.2.2.2.2.2.2.2.2.1, st.1.2.2.2.2.2.2.2.2.2.2.2.2.2.2.2.2.2.2.2), st.2.1, st.2.2.1, st.2.2.2.1, st.2.2.2.2.1, st.2.2.2.2.2)) ∧ ((∀ r5, r5 = (f_M_passWhole nx p0 p1 ((0, st.1.2.1, st.1.2.2.1, st.1.2.2.2.1, st.1.2.2.2.2.1, st.1.2.2.2.2.2.1, st.1.2.2.2.2.2.2.1, st.1.2.2.2.2.2.2.2.1, st.1.2.2.2.2.2.2.2.2.1, st.1.2.2.2.2.2.2.2.2.2.1, st.1.2.2.2.2.2.2.2.2.2.2.1, st.1.2.2.2.2.2.2.2.2.2.2.2.1, st.1.2.2.2.2.2.2.2.2.2.2.2.2.1, st.1.2.2.2.2.2.2.2.2.2.2.2.2.2.1, st.1.2.2.2.2.2.2.2.2.2.2.2.2.2.2.1, st.1.2.2.2.2.2.2.2.2.2.2.2.2.2.2.2.1, st.1.2.2.2.2.2.2.2.2.2.2.2.2.2.2.2.2.1, st.1.2.2.2.2.2.2.2.2.2.2.2.2.2.2.2.2.2.1, st.1.2.2.2.2.2.2.2.2.2.2.2.2.2.2.2.2.2.2.1, st.1.2.2.2.2.2.2.2.2.2.2.2.2.2.2.2.2.2.2.2), st.2.1, st.2.2.1, st.2.2.2.1, st.2.2.2.2.1, st.2.2.2.2.2)).1 → (∀ u5, u5 = (f_M_passWhole nx p0 p1 ((0, st.1.2.1, st.1.2.2.1, st.1.2.2.2.1, st.1.2.2.2.2.1, st.1.2.2.2.2.2.1, st.1.2.2.2.2.2.2.1, st.1.2.2.2.2.2.2.2.1, st.1.2.2.2.2.2.2.2.2.1, st.1.2.2.2.2.2.2.2.2.2.1, st.1.2.2.2.2.2.2.2.2.2.2.1, st.1.2.2.2.2.2.2.2.2.2.2.2.1, st.1.2.2.2.2.2.2.2.2.2.2.2.2.1, st.1.2.2.2.2.2.2.2.2.2.2.2.2.2.1, st.1.2.2.2.2.2.2.2.2.2.2.2.2.2.2.1, st.1.2.2.2.2.2.2.2.2.2.2.2.2.2.2.2.1, st.1.2.2.2.2.2.2.2.2.2.2.2.2.2.2.2.2.1, st.1.2.2.2.2.2.2.2.2.2.2.2.2.2.2.2.2.2.1, st.1.2.2.2.2.2.2.2.2.2.2.2.2.2.2.2.2.2.2.1, st.1.2.2.2.2.2.2.2.2.2.2.2.2.2.2.2.2.2.2.2), st.2.1, st.2.2.1, st.2.2.2.1, st.2.2.2.2.1, st.2.2.2.2.2)).2 → True)))) ∧ (¬ (bI st.1.2.2.2.2.1 = 0) → True)))
set_option maxHeartbeats 4000000 in
set_option maxRecDepth 100000 in
theorem c_M_whole (l : Launch) (E : Ev) (A : Nat → Prop) (mo mc sv sa wr bt s1 s2 s3 nx : Nat) (st : MS) (p0 : Int32) (p1 : Int32)  (hok : k_M_whole nx p0 p1 st) :
    Kt l y_M_whole b_M_whole 4 (some .int) 7 0 0 E A [.ref mo, .int p0, .int p1] [(mo, .inr (5, [.ref s1, .ref s2, .ref s3, .int st.1.1, .int (nI nx), .ref mc, .int st.1.2.1, .ref sv, .int st.1.2.2.1, .ref sa, .ref wr, .int st.1.2.2.2.1, .ref bt, .int (bI st.1.2.2.2.2.1), .int st.1.2.2.2.2.2.1, .int st.1.2.2.2.2.2.2.1, .int st.1.2.2.2.2.2.2.2.1, .int st.1.2.2.2.2.2.2.2.2.1, .int st.1.2.2.2.2.2.2.2.2.2.1, .int st.1.2.2.2.2.2.2.2.2.2.2.1, .int st.1.2.2.2.2.2.2.2.2.2.2.2.1, .int st.1.2.2.2.2.2.2.2.2.2.2.2.2.1, .long st.1.2.2.2.2.2.2.2.2.2.2.2.2.2.1, .int st.1.2.2.2.2.2.2.2.2.2.2.2.2.2.2.1, .int st.1.2.2.2.2.2.2.2.2.2.2.2.2.2.2.2.1, .int st.1.2.2.2.2.2.2.2.2.2.2.2.2.2.2.2.2.1, .int (bI st.1.2.2.2.2.2.2.2.2.2.2.2.2.2.2.2.2.2.1), .int st.1.2.2.2.2.2.2.2.2.2.2.2.2.2.2.2.2.2.2.1, .int st.1.2.2.2.2.2.2.2.2.2.2.2.2.2.2.2.2.2.2.2])), (mc, .inl (E.2.1 0, 139264, .inl st.2.1)), (sv, .inl (E.2.1 0, 393216, .inl st.2.2.1)), (sa, .inl (E.2.1 0, 1100, .inl st.2.2.2.1)), (wr, .inl (E.2.1 1, 1100, .inl st.2.2.2.2.1)), (bt, .inl (E.2.1 0, 120000, .inl st.2.2.2.2.2)), (s1, .inl (E.2.1 0, 47, .inl (zF 0))), (s2, .inl (E.2.1 0, 47, .inl (zF 1))), (s3, .inl (E.2.1 0, 47, .inl (zF 2)))] (va_Qi (fun (r : Int32) (u : MS) => r = (f_M_whole nx p0 p1 st).1 ∧ u = (f_M_whole nx p0 p1 st).2) (ar_W E A (fun u : MS => [(mo, .inr (5, [.ref s1, .ref s2, .ref s3, .int u.1.1, .int (nI nx), .ref mc, .int u.1.2.1, .ref sv, .int u.1.2.2.1, .ref sa, .ref wr, .int u.1.2.2.2.1, .ref bt, .int (bI u.1.2.2.2.2.1), .int u.1.2.2.2.2.2.1, .int u.1.2.2.2.2.2.2.1, .int u.1.2.2.2.2.2.2.2.1, .int u.1.2.2.2.2.2.2.2.2.1, .int u.1.2.2.2.2.2.2.2.2.2.1, .int u.1.2.2.2.2.2.2.2.2.2.2.1, .int u.1.2.2.2.2.2.2.2.2.2.2.2.1, .int u.1.2.2.2.2.2.2.2.2.2.2.2.2.1, .long u.1.2.2.2.2.2.2.2.2.2.2.2.2.2.1, .int u.1.2.2.2.2.2.2.2.2.2.2.2.2.2.2.1, .int u.1.2.2.2.2.2.2.2.2.2.2.2.2.2.2.2.1, .int u.1.2.2.2.2.2.2.2.2.2.2.2.2.2.2.2.2.1, .int (bI u.1.2.2.2.2.2.2.2.2.2.2.2.2.2.2.2.2.2.1), .int u.1.2.2.2.2.2.2.2.2.2.2.2.2.2.2.2.2.2.2.1, .int u.1.2.2.2.2.2.2.2.2.2.2.2.2.2.2.2.2.2.2.2])), (mc, .inl (E.2.1 0, 139264, .inl u.2.1)), (sv, .inl (E.2.1 0, 393216, .inl u.2.2.1)), (sa, .inl (E.2.1 0, 1100, .inl u.2.2.2.1)), (wr, .inl (E.2.1 1, 1100, .inl u.2.2.2.2.1)), (bt, .inl (E.2.1 0, 120000, .inl u.2.2.2.2.2)), (s1, .inl (E.2.1 0, 47, .inl (zF 0))), (s2, .inl (E.2.1 0, 47, .inl (zF 1))), (s3, .inl (E.2.1 0, 47, .inl (zF 2)))])) A) := by
  unfold k_M_whole at hok
  refine Kt.of (by decide) (Nat.le_of_ble_eq_true rfl) ?_
  intro p e s m below meth c ls hx hb hml hown hts hr hlocks hex hin hA hZ hP hK hD hl
  have hS : va_S A s.heap s.heap [] := va_S.rf
  have hl : lv_has ls 4 [(0, .ref mo), (1, .int p0), (2, .int p1)] := hl
  refine lv_aload_n hx hb d_M_whole_0 rfl (lv_at hl 0 rfl) ?_
  refine lv_iload_n hx hb d_M_whole_1 rfl (lv_at hl 1 rfl) ?_
  refine lv_iconst (v := 0) hx hb d_M_whole_2 (by decide) ?_
  refine lv_bipush (v := 7) hx hb d_M_whole_3 (by decide) ?_
  refine ar_usei (wr := [(mo, .inr (5, [.ref s1, .ref s2, .ref s3, .int st.1.1, .int (nI nx), .ref mc, .int st.1.2.1, .ref sv, .int st.1.2.2.1, .ref sa, .ref wr, .int st.1.2.2.2.1, .ref bt, .int (bI st.1.2.2.2.2.1), .int st.1.2.2.2.2.2.1, .int st.1.2.2.2.2.2.2.1, .int st.1.2.2.2.2.2.2.2.1, .int st.1.2.2.2.2.2.2.2.2.1, .int st.1.2.2.2.2.2.2.2.2.2.1, .int st.1.2.2.2.2.2.2.2.2.2.2.1, .int st.1.2.2.2.2.2.2.2.2.2.2.2.1, .int st.1.2.2.2.2.2.2.2.2.2.2.2.2.1, .long st.1.2.2.2.2.2.2.2.2.2.2.2.2.2.1, .int st.1.2.2.2.2.2.2.2.2.2.2.2.2.2.2.1, .int st.1.2.2.2.2.2.2.2.2.2.2.2.2.2.2.2.1, .int st.1.2.2.2.2.2.2.2.2.2.2.2.2.2.2.2.2.1, .int (bI st.1.2.2.2.2.2.2.2.2.2.2.2.2.2.2.2.2.2.1), .int st.1.2.2.2.2.2.2.2.2.2.2.2.2.2.2.2.2.2.2.1, .int st.1.2.2.2.2.2.2.2.2.2.2.2.2.2.2.2.2.2.2.2])), (mc, .inl (E.2.1 0, 139264, .inl st.2.1)), (sv, .inl (E.2.1 0, 393216, .inl st.2.2.1)), (sa, .inl (E.2.1 0, 1100, .inl st.2.2.2.1)), (wr, .inl (E.2.1 1, 1100, .inl st.2.2.2.2.1)), (bt, .inl (E.2.1 0, 120000, .inl st.2.2.2.2.2)), (s1, .inl (E.2.1 0, 47, .inl (zF 0))), (s2, .inl (E.2.1 0, 47, .inl (zF 1))), (s3, .inl (E.2.1 0, 47, .inl (zF 2)))]) hP hD hS hA [] [0, 1, 2, 3, 4, 5, 6, 7, 8] rfl rfl rfl (by decide) (ar_runS (n := 3) (As := [.int p0, .int 0, .int 7]) (rest := [.ref mo]) hx hb hml hown hts hP hD hS hA hK hZ (c_M_in l E _   p0 0 7 ) m_706 m_707 m_7 m_708 (by decide +kernel) ⟨Nat.le_of_ble_eq_true rfl, Nat.le_of_ble_eq_true rfl⟩ [] rfl rfl rfl rfl hl.1 rfl (Nat.le_of_ble_eq_true rfl) d_M_whole_5 ⟨Nat.le_of_ble_eq_true rfl, Nat.le_of_ble_eq_true rfl⟩) (fun r1 _ Hn locsn hw1 hPn hDn hSn => ?_)
  obtain ⟨b1, eb1⟩ : ∃ b : Bool, b = f_M_in  p0 0 7  := ⟨_, rfl⟩
  rw [← eb1] at hw1
  subst hw1
  replace hok := hok b1 eb1
  clear hP hD hS
  have hP : va_P E.1 classes [(mo, .inr (5, [.ref s1, .ref s2, .ref s3, .int st.1.1, .int (nI nx), .ref mc, .int st.1.2.1, .ref sv, .int st.1.2.2.1, .ref sa, .ref wr, .int st.1.2.2.2.1, .ref bt, .int (bI st.1.2.2.2.2.1), .int st.1.2.2.2.2.2.1, .int st.1.2.2.2.2.2.2.1, .int st.1.2.2.2.2.2.2.2.1, .int st.1.2.2.2.2.2.2.2.2.1, .int st.1.2.2.2.2.2.2.2.2.2.1, .int st.1.2.2.2.2.2.2.2.2.2.2.1, .int st.1.2.2.2.2.2.2.2.2.2.2.2.1, .int st.1.2.2.2.2.2.2.2.2.2.2.2.2.1, .long st.1.2.2.2.2.2.2.2.2.2.2.2.2.2.1, .int st.1.2.2.2.2.2.2.2.2.2.2.2.2.2.2.1, .int st.1.2.2.2.2.2.2.2.2.2.2.2.2.2.2.2.1, .int st.1.2.2.2.2.2.2.2.2.2.2.2.2.2.2.2.2.1, .int (bI st.1.2.2.2.2.2.2.2.2.2.2.2.2.2.2.2.2.2.1), .int st.1.2.2.2.2.2.2.2.2.2.2.2.2.2.2.2.2.2.2.1, .int st.1.2.2.2.2.2.2.2.2.2.2.2.2.2.2.2.2.2.2.2])), (mc, .inl (E.2.1 0, 139264, .inl st.2.1)), (sv, .inl (E.2.1 0, 393216, .inl st.2.2.1)), (sa, .inl (E.2.1 0, 1100, .inl st.2.2.2.1)), (wr, .inl (E.2.1 1, 1100, .inl st.2.2.2.2.1)), (bt, .inl (E.2.1 0, 120000, .inl st.2.2.2.2.2)), (s1, .inl (E.2.1 0, 47, .inl (zF 0))), (s2, .inl (E.2.1 0, 47, .inl (zF 1))), (s3, .inl (E.2.1 0, 47, .inl (zF 2)))] Hn := hPn
  have hD : va_D A [(mo, .inr (5, [.ref s1, .ref s2, .ref s3, .int st.1.1, .int (nI nx), .ref mc, .int st.1.2.1, .ref sv, .int st.1.2.2.1, .ref sa, .ref wr, .int st.1.2.2.2.1, .ref bt, .int (bI st.1.2.2.2.2.1), .int st.1.2.2.2.2.2.1, .int st.1.2.2.2.2.2.2.1, .int st.1.2.2.2.2.2.2.2.1, .int st.1.2.2.2.2.2.2.2.2.1, .int st.1.2.2.2.2.2.2.2.2.2.1, .int st.1.2.2.2.2.2.2.2.2.2.2.1, .int st.1.2.2.2.2.2.2.2.2.2.2.2.1, .int st.1.2.2.2.2.2.2.2.2.2.2.2.2.1, .long st.1.2.2.2.2.2.2.2.2.2.2.2.2.2.1, .int st.1.2.2.2.2.2.2.2.2.2.2.2.2.2.2.1, .int st.1.2.2.2.2.2.2.2.2.2.2.2.2.2.2.2.1, .int st.1.2.2.2.2.2.2.2.2.2.2.2.2.2.2.2.2.1, .int (bI st.1.2.2.2.2.2.2.2.2.2.2.2.2.2.2.2.2.2.1), .int st.1.2.2.2.2.2.2.2.2.2.2.2.2.2.2.2.2.2.2.1, .int st.1.2.2.2.2.2.2.2.2.2.2.2.2.2.2.2.2.2.2.2])), (mc, .inl (E.2.1 0, 139264, .inl st.2.1)), (sv, .inl (E.2.1 0, 393216, .inl st.2.2.1)), (sa, .inl (E.2.1 0, 1100, .inl st.2.2.2.1)), (wr, .inl (E.2.1 1, 1100, .inl st.2.2.2.2.1)), (bt, .inl (E.2.1 0, 120000, .inl st.2.2.2.2.2)), (s1, .inl (E.2.1 0, 47, .inl (zF 0))), (s2, .inl (E.2.1 0, 47, .inl (zF 1))), (s3, .inl (E.2.1 0, 47, .inl (zF 2)))] := hDn
  have hS := hSn
  clear hPn hDn hSn
  refine lv_if_ne (tgt := 15) hx hb d_M_whole_8 (by decide) (fun c2 => ?_) (fun c2 => ?_)
  · replace hok := hok.2 c2
    refine lv_aload_n hx hb d_M_whole_15 rfl (lv_at hl 0 rfl) ?_
    refine va_get (D := E.1) (ci := 5) (v := .int (bI st.1.2.2.2.2.1)) (C := R_M) (T := T_M) (N := 29) hx hb hts in_M hown hK hP 0 rfl rfl 13 (by decide) (hts _ m_623) (fun _ h9 => h9) rfl d_M_whole_16 ?_
    refine lv_if_eq (tgt := 26) hx hb d_M_whole_19 (by decide) (fun c3 => ?_) (fun c3 => ?_)
    · replace hok := hok.1 c3
      refine lv_iconst (v := 0) hx hb d_M_whole_26 (by decide) ?_
      refine va_put (D := E.1) (ci := 5) (v := .int 0) (ty := .int) (C := R_M) (T := T_M) (N := 29) hx hb hts in_M t_M t_M_ok n_M hown hK hP hD hS 0 rfl rfl 3 (by decide) (hts _ m_613) (fun _ h9 => h9) rfl (by decide +kernel) rfl rfl (Nat.le_of_ble_eq_true rfl) d_M_whole_27 (fun Hn locsn hPn hDn hSn => ?_)
      clear hP hD hS
      have hP : va_P E.1 classes [(mo, .inr (5, [.ref s1, .ref s2, .ref s3, .int 0, .int (nI nx), .ref mc, .int st.1.2.1, .ref sv, .int st.1.2.2.1, .ref sa, .ref wr, .int st.1.2.2.2.1, .ref bt, .int (bI st.1.2.2.2.2.1), .int st.1.2.2.2.2.2.1, .int st.1.2.2.2.2.2.2.1, .int st.1.2.2.2.2.2.2.2.1, .int st.1.2.2.2.2.2.2.2.2.1, .int st.1.2.2.2.2.2.2.2.2.2.1, .int st.1.2.2.2.2.2.2.2.2.2.2.1, .int st.1.2.2.2.2.2.2.2.2.2.2.2.1, .int st.1.2.2.2.2.2.2.2.2.2.2.2.2.1, .long st.1.2.2.2.2.2.2.2.2.2.2.2.2.2.1, .int st.1.2.2.2.2.2.2.2.2.2.2.2.2.2.2.1, .int st.1.2.2.2.2.2.2.2.2.2.2.2.2.2.2.2.1, .int st.1.2.2.2.2.2.2.2.2.2.2.2.2.2.2.2.2.1, .int (bI st.1.2.2.2.2.2.2.2.2.2.2.2.2.2.2.2.2.2.1), .int st.1.2.2.2.2.2.2.2.2.2.2.2.2.2.2.2.2.2.2.1, .int st.1.2.2.2.2.2.2.2.2.2.2.2.2.2.2.2.2.2.2.2])), (mc, .inl (E.2.1 0, 139264, .inl st.2.1)), (sv, .inl (E.2.1 0, 393216, .inl st.2.2.1)), (sa, .inl (E.2.1 0, 1100, .inl st.2.2.2.1)), (wr, .inl (E.2.1 1, 1100, .inl st.2.2.2.2.1)), (bt, .inl (E.2.1 0, 120000, .inl st.2.2.2.2.2)), (s1, .inl (E.2.1 0, 47, .inl (zF 0))), (s2, .inl (E.2.1 0, 47, .inl (zF 1))), (s3, .inl (E.2.1 0, 47, .inl (zF 2)))] Hn := hPn
      have hD : va_D A [(mo, .inr (5, [.ref s1, .ref s2, .ref s3, .int 0, .int (nI nx), .ref mc, .int st.1.2.1, .ref sv, .int st.1.2.2.1, .ref sa, .ref wr, .int st.1.2.2.2.1, .ref bt, .int (bI st.1.2.2.2.2.1), .int st.1.2.2.2.2.2.1, .int st.1.2.2.2.2.2.2.1, .int st.1.2.2.2.2.2.2.2.1, .int st.1.2.2.2.2.2.2.2.2.1, .int st.1.2.2.2.2.2.2.2.2.2.1, .int st.1.2.2.2.2.2.2.2.2.2.2.1, .int st.1.2.2.2.2.2.2.2.2.2.2.2.1, .int st.1.2.2.2.2.2.2.2.2.2.2.2.2.1, .long st.1.2.2.2.2.2.2.2.2.2.2.2.2.2.1, .int st.1.2.2.2.2.2.2.2.2.2.2.2.2.2.2.1, .int st.1.2.2.2.2.2.2.2.2.2.2.2.2.2.2.2.1, .int st.1.2.2.2.2.2.2.2.2.2.2.2.2.2.2.2.2.1, .int (bI st.1.2.2.2.2.2.2.2.2.2.2.2.2.2.2.2.2.2.1), .int st.1.2.2.2.2.2.2.2.2.2.2.2.2.2.2.2.2.2.2.1, .int st.1.2.2.2.2.2.2.2.2.2.2.2.2.2.2.2.2.2.2.2])), (mc, .inl (E.2.1 0, 139264, .inl st.2.1)), (sv, .inl (E.2.1 0, 393216, .inl st.2.2.1)), (sa, .inl (E.2.1 0, 1100, .inl st.2.2.2.1)), (wr, .inl (E.2.1 1, 1100, .inl st.2.2.2.2.1)), (bt, .inl (E.2.1 0, 120000, .inl st.2.2.2.2.2)), (s1, .inl (E.2.1 0, 47, .inl (zF 0))), (s2, .inl (E.2.1 0, 47, .inl (zF 1))), (s3, .inl (E.2.1 0, 47, .inl (zF 2)))] := hDn
      have hS := hSn
      clear hPn hDn hSn
      refine lv_aload_n hx hb d_M_whole_30 rfl (lv_at hl 0 rfl) ?_
      refine va_get (D := E.1) (ci := 5) (v := .int 0) (C := R_M) (T := T_M) (N := 29) hx hb hts in_M hown hK hP 0 rfl rfl 3 (by decide) (hts _ m_613) (fun _ h9 => h9) rfl d_M_whole_31 ?_
      refine lv_if_le (tgt := 39) hx hb d_M_whole_34 (by decide) (fun cz => ?_) (fun cz => absurd cz (by decide))
      refine lv_aload_n hx hb d_M_whole_39 rfl (lv_at hl 0 rfl) ?_
      refine lv_iload_n hx hb d_M_whole_40 rfl (lv_at hl 1 rfl) ?_
      refine lv_iload_n hx hb d_M_whole_41 rfl (lv_at hl 2 rfl) ?_
      obtain ⟨hk4, hok⟩ := hok
      refine ar_usei (wr := []) hP hD hS hA [0, 1, 2, 3, 4, 5, 6, 7, 8] [] rfl rfl rfl (by decide) (ar_runV (n := 2) (As := [.int p0, .int p1]) (rest := []) (ci := 5) (q0 := 0) hx hb hml hown hts hP hD hS hA hK hZ (c_M_passWhole l E _ mo mc sv sa wr bt s1 s2 s3 nx ((0, st.1.2.1, st.1.2.2.1, st.1.2.2.2.1, st.1.2.2.2.2.1, st.1.2.2.2.2.2.1, st.1.2.2.2.2.2.2.1, st.1.2.2.2.2.2.2.2.1, st.1.2.2.2.2.2.2.2.2.1, st.1.2.2.2.2.2.2.2.2.2.1, st.1.2.2.2.2.2.2.2.2.2.2.1, st.1.2.2.2.2.2.2.2.2.2.2.2.1, st.1.2.2.2.2.2.2.2.2.2.2.2.2.1, st.1.2.2.2.2.2.2.2.2.2.2.2.2.2.1, st.1.2.2.2.2.2.2.2.2.2.2.2.2.2.2.1, st.1.2.2.2.2.2.2.2.2.2.2.2.2.2.2.2.1, st.1.2.2.2.2.2.2.2.2.2.2.2.2.2.2.2.2.1, st.1.2.2.2.2.2.2.2.2.2.2.2.2.2.2.2.2.2.1, st.1.2.2.2.2.2.2.2.2.2.2.2.2.2.2.2.2.2.2.1, st.1.2.2.2.2.2.2.2.2.2.2.2.2.2.2.2.2.2.2.2), st.2.1, st.2.2.1, st.2.2.2.1, st.2.2.2.2.1, st.2.2.2.2.2) p0 p1 hk4) m_812 m_814 ms_38 m_7 m_815 (by decide +kernel) ⟨Nat.le_of_ble_eq_true rfl, Nat.le_of_ble_eq_true rfl⟩ [0, 1, 2, 3, 4, 5, 6, 7, 8] rfl rfl rfl rfl rfl rfl rfl hl.1 rfl (Nat.le_of_ble_eq_true rfl) d_M_whole_42 ⟨Nat.le_of_ble_eq_true rfl, Nat.le_of_ble_eq_true rfl⟩) (fun r5 u5 Hn locsn hw5 hPn hDn hSn => ?_)
      obtain ⟨hw5a, hw5b⟩ := hw5
      replace hok := hok r5 hw5a
      replace hok := hok u5 hw5b
      clear hP hD hS
      have hP : va_P E.1 classes [(mo, .inr (5, [.ref s1, .ref s2, .ref s3, .int u5.1.1, .int (nI nx), .ref mc, .int u5.1.2.1, .ref sv, .int u5.1.2.2.1, .ref sa, .ref wr, .int u5.1.2.2.2.1, .ref bt, .int (bI u5.1.2.2.2.2.1), .int u5.1.2.2.2.2.2.1, .int u5.1.2.2.2.2.2.2.1, .int u5.1.2.2.2.2.2.2.2.1, .int u5.1.2.2.2.2.2.2.2.2.1, .int u5.1.2.2.2.2.2.2.2.2.2.1, .int u5.1.2.2.2.2.2.2.2.2.2.2.1, .int u5.1.2.2.2.2.2.2.2.2.2.2.2.1, .int u5.1.2.2.2.2.2.2.2.2.2.2.2.2.1, .long u5.1.2.2.2.2.2.2.2.2.2.2.2.2.2.1, .int u5.1.2.2.2.2.2.2.2.2.2.2.2.2.2.2.1, .int u5.1.2.2.2.2.2.2.2.2.2.2.2.2.2.2.2.1, .int u5.1.2.2.2.2.2.2.2.2.2.2.2.2.2.2.2.2.1, .int (bI u5.1.2.2.2.2.2.2.2.2.2.2.2.2.2.2.2.2.2.1), .int u5.1.2.2.2.2.2.2.2.2.2.2.2.2.2.2.2.2.2.2.1, .int u5.1.2.2.2.2.2.2.2.2.2.2.2.2.2.2.2.2.2.2.2])), (mc, .inl (E.2.1 0, 139264, .inl u5.2.1)), (sv, .inl (E.2.1 0, 393216, .inl u5.2.2.1)), (sa, .inl (E.2.1 0, 1100, .inl u5.2.2.2.1)), (wr, .inl (E.2.1 1, 1100, .inl u5.2.2.2.2.1)), (bt, .inl (E.2.1 0, 120000, .inl u5.2.2.2.2.2)), (s1, .inl (E.2.1 0, 47, .inl (zF 0))), (s2, .inl (E.2.1 0, 47, .inl (zF 1))), (s3, .inl (E.2.1 0, 47, .inl (zF 2)))] Hn := hPn
      have hD : va_D A [(mo, .inr (5, [.ref s1, .ref s2, .ref s3, .int u5.1.1, .int (nI nx), .ref mc, .int u5.1.2.1, .ref sv, .int u5.1.2.2.1, .ref sa, .ref wr, .int u5.1.2.2.2.1, .ref bt, .int (bI u5.1.2.2.2.2.1), .int u5.1.2.2.2.2.2.1, .int u5.1.2.2.2.2.2.2.1, .int u5.1.2.2.2.2.2.2.2.1, .int u5.1.2.2.2.2.2.2.2.2.1, .int u5.1.2.2.2.2.2.2.2.2.2.1, .int u5.1.2.2.2.2.2.2.2.2.2.2.1, .int u5.1.2.2.2.2.2.2.2.2.2.2.2.1, .int u5.1.2.2.2.2.2.2.2.2.2.2.2.2.1, .long u5.1.2.2.2.2.2.2.2.2.2.2.2.2.2.1, .int u5.1.2.2.2.2.2.2.2.2.2.2.2.2.2.2.1, .int u5.1.2.2.2.2.2.2.2.2.2.2.2.2.2.2.2.1, .int u5.1.2.2.2.2.2.2.2.2.2.2.2.2.2.2.2.2.1, .int (bI u5.1.2.2.2.2.2.2.2.2.2.2.2.2.2.2.2.2.2.1), .int u5.1.2.2.2.2.2.2.2.2.2.2.2.2.2.2.2.2.2.2.1, .int u5.1.2.2.2.2.2.2.2.2.2.2.2.2.2.2.2.2.2.2.2])), (mc, .inl (E.2.1 0, 139264, .inl u5.2.1)), (sv, .inl (E.2.1 0, 393216, .inl u5.2.2.1)), (sa, .inl (E.2.1 0, 1100, .inl u5.2.2.2.1)), (wr, .inl (E.2.1 1, 1100, .inl u5.2.2.2.2.1)), (bt, .inl (E.2.1 0, 120000, .inl u5.2.2.2.2.2)), (s1, .inl (E.2.1 0, 47, .inl (zF 0))), (s2, .inl (E.2.1 0, 47, .inl (zF 1))), (s3, .inl (E.2.1 0, 47, .inl (zF 2)))] := hDn
      have hS := hSn
      clear hPn hDn hSn
      refine lv_istore_n (lv' := [(3, .int r5), (0, .ref mo), (1, .int p0), (2, .int p1)]) hx hb d_M_whole_45 rfl hl (by decide) rfl (fun ls hl => ?_)
      refine lv_aload_n hx hb d_M_whole_46 rfl (lv_at hl 1 rfl) ?_
      refine va_get (D := E.1) (ci := 5) (v := .int u5.1.2.2.2.2.2.2.2.2.2.2.2.2.2.2.2.2.2.2.2) (C := R_M) (T := T_M) (N := 29) hx hb hts in_M hown hK hP 0 rfl rfl 28 (by decide) (hts _ m_638) (fun _ h9 => h9) rfl d_M_whole_47 ?_
      exact ar_iret hx hb hr hlocks hK hS u5 (by subst hw5b; subst hw5a; subst eb1; exact pr_of (Eq.trans (f_M_whole_s nx p0 p1 st) (Eq.trans (if_neg c2) (Eq.trans (if_pos c3) rfl)))) hP hD d_M_whole_50
    · replace hok := hok.2 c3
      refine lv_iconst (v := 2) hx hb d_M_whole_22 (by decide) ?_
      refine lv_goto (tgt := 27) hx hb d_M_whole_23 (by decide) ?_
      refine va_put (D := E.1) (ci := 5) (v := .int 2) (ty := .int) (C := R_M) (T := T_M) (N := 29) hx hb hts in_M t_M t_M_ok n_M hown hK hP hD hS 0 rfl rfl 3 (by decide) (hts _ m_613) (fun _ h9 => h9) rfl (by decide +kernel) rfl rfl (Nat.le_of_ble_eq_true rfl) d_M_whole_27 (fun Hn locsn hPn hDn hSn => ?_)
      clear hP hD hS
      have hP : va_P E.1 classes [(mo, .inr (5, [.ref s1, .ref s2, .ref s3, .int 2, .int (nI nx), .ref mc, .int st.1.2.1, .ref sv, .int st.1.2.2.1, .ref sa, .ref wr, .int st.1.2.2.2.1, .ref bt, .int (bI st.1.2.2.2.2.1), .int st.1.2.2.2.2.2.1, .int st.1.2.2.2.2.2.2.1, .int st.1.2.2.2.2.2.2.2.1, .int st.1.2.2.2.2.2.2.2.2.1, .int st.1.2.2.2.2.2.2.2.2.2.1, .int st.1.2.2.2.2.2.2.2.2.2.2.1, .int st.1.2.2.2.2.2.2.2.2.2.2.2.1, .int st.1.2.2.2.2.2.2.2.2.2.2.2.2.1, .long st.1.2.2.2.2.2.2.2.2.2.2.2.2.2.1, .int st.1.2.2.2.2.2.2.2.2.2.2.2.2.2.2.1, .int st.1.2.2.2.2.2.2.2.2.2.2.2.2.2.2.2.1, .int st.1.2.2.2.2.2.2.2.2.2.2.2.2.2.2.2.2.1, .int (bI st.1.2.2.2.2.2.2.2.2.2.2.2.2.2.2.2.2.2.1), .int st.1.2.2.2.2.2.2.2.2.2.2.2.2.2.2.2.2.2.2.1, .int st.1.2.2.2.2.2.2.2.2.2.2.2.2.2.2.2.2.2.2.2])), (mc, .inl (E.2.1 0, 139264, .inl st.2.1)), (sv, .inl (E.2.1 0, 393216, .inl st.2.2.1)), (sa, .inl (E.2.1 0, 1100, .inl st.2.2.2.1)), (wr, .inl (E.2.1 1, 1100, .inl st.2.2.2.2.1)), (bt, .inl (E.2.1 0, 120000, .inl st.2.2.2.2.2)), (s1, .inl (E.2.1 0, 47, .inl (zF 0))), (s2, .inl (E.2.1 0, 47, .inl (zF 1))), (s3, .inl (E.2.1 0, 47, .inl (zF 2)))] Hn := hPn
      have hD : va_D A [(mo, .inr (5, [.ref s1, .ref s2, .ref s3, .int 2, .int (nI nx), .ref mc, .int st.1.2.1, .ref sv, .int st.1.2.2.1, .ref sa, .ref wr, .int st.1.2.2.2.1, .ref bt, .int (bI st.1.2.2.2.2.1), .int st.1.2.2.2.2.2.1, .int st.1.2.2.2.2.2.2.1, .int st.1.2.2.2.2.2.2.2.1, .int st.1.2.2.2.2.2.2.2.2.1, .int st.1.2.2.2.2.2.2.2.2.2.1, .int st.1.2.2.2.2.2.2.2.2.2.2.1, .int st.1.2.2.2.2.2.2.2.2.2.2.2.1, .int st.1.2.2.2.2.2.2.2.2.2.2.2.2.1, .long st.1.2.2.2.2.2.2.2.2.2.2.2.2.2.1, .int st.1.2.2.2.2.2.2.2.2.2.2.2.2.2.2.1, .int st.1.2.2.2.2.2.2.2.2.2.2.2.2.2.2.2.1, .int st.1.2.2.2.2.2.2.2.2.2.2.2.2.2.2.2.2.1, .int (bI st.1.2.2.2.2.2.2.2.2.2.2.2.2.2.2.2.2.2.1), .int st.1.2.2.2.2.2.2.2.2.2.2.2.2.2.2.2.2.2.2.1, .int st.1.2.2.2.2.2.2.2.2.2.2.2.2.2.2.2.2.2.2.2])), (mc, .inl (E.2.1 0, 139264, .inl st.2.1)), (sv, .inl (E.2.1 0, 393216, .inl st.2.2.1)), (sa, .inl (E.2.1 0, 1100, .inl st.2.2.2.1)), (wr, .inl (E.2.1 1, 1100, .inl st.2.2.2.2.1)), (bt, .inl (E.2.1 0, 120000, .inl st.2.2.2.2.2)), (s1, .inl (E.2.1 0, 47, .inl (zF 0))), (s2, .inl (E.2.1 0, 47, .inl (zF 1))), (s3, .inl (E.2.1 0, 47, .inl (zF 2)))] := hDn
      have hS := hSn
      clear hPn hDn hSn
      refine lv_aload_n hx hb d_M_whole_30 rfl (lv_at hl 0 rfl) ?_
      refine va_get (D := E.1) (ci := 5) (v := .int 2) (C := R_M) (T := T_M) (N := 29) hx hb hts in_M hown hK hP 0 rfl rfl 3 (by decide) (hts _ m_613) (fun _ h9 => h9) rfl d_M_whole_31 ?_
      refine lv_if_le (tgt := 39) hx hb d_M_whole_34 (by decide) (fun cz => absurd cz (by decide)) (fun cz => ?_)
      refine lv_iconst (v := 0) hx hb d_M_whole_37 (by decide) ?_
      exact ar_iret hx hb hr hlocks hK hS ((2, st.1.2.1, st.1.2.2.1, st.1.2.2.2.1, st.1.2.2.2.2.1, st.1.2.2.2.2.2.1, st.1.2.2.2.2.2.2.1, st.1.2.2.2.2.2.2.2.1, st.1.2.2.2.2.2.2.2.2.1, st.1.2.2.2.2.2.2.2.2.2.1, st.1.2.2.2.2.2.2.2.2.2.2.1, st.1.2.2.2.2.2.2.2.2.2.2.2.1, st.1.2.2.2.2.2.2.2.2.2.2.2.2.1, st.1.2.2.2.2.2.2.2.2.2.2.2.2.2.1, st.1.2.2.2.2.2.2.2.2.2.2.2.2.2.2.1, st.1.2.2.2.2.2.2.2.2.2.2.2.2.2.2.2.1, st.1.2.2.2.2.2.2.2.2.2.2.2.2.2.2.2.2.1, st.1.2.2.2.2.2.2.2.2.2.2.2.2.2.2.2.2.2.1, st.1.2.2.2.2.2.2.2.2.2.2.2.2.2.2.2.2.2.2.1, st.1.2.2.2.2.2.2.2.2.2.2.2.2.2.2.2.2.2.2.2), st.2.1, st.2.2.1, st.2.2.2.1, st.2.2.2.2.1, st.2.2.2.2.2) (by subst eb1; exact pr_of (Eq.trans (f_M_whole_s nx p0 p1 st) (Eq.trans (if_neg c2) (Eq.trans (if_neg c3) rfl)))) hP hD d_M_whole_38
  · replace hok := hok.1 c2
    refine lv_iconst (v := 1) hx hb d_M_whole_11 (by decide) ?_
    refine lv_goto (tgt := 27) hx hb d_M_whole_12 (by decide) ?_
    refine va_put (D := E.1) (ci := 5) (v := .int 1) (ty := .int) (C := R_M) (T := T_M) (N := 29) hx hb hts in_M t_M t_M_ok n_M hown hK hP hD hS 0 rfl rfl 3 (by decide) (hts _ m_613) (fun _ h9 => h9) rfl (by decide +kernel) rfl rfl (Nat.le_of_ble_eq_true rfl) d_M_whole_27 (fun Hn locsn hPn hDn hSn => ?_)
    clear hP hD hS
    have hP : va_P E.1 classes [(mo, .inr (5, [.ref s1, .ref s2, .ref s3, .int 1, .int (nI nx), .ref mc, .int st.1.2.1, .ref sv, .int st.1.2.2.1, .ref sa, .ref wr, .int st.1.2.2.2.1, .ref bt, .int (bI st.1.2.2.2.2.1), .int st.1.2.2.2.2.2.1, .int st.1.2.2.2.2.2.2.1, .int st.1.2.2.2.2.2.2.2.1, .int st.1.2.2.2.2.2.2.2.2.1, .int st.1.2.2.2.2.2.2.2.2.2.1, .int st.1.2.2.2.2.2.2.2.2.2.2.1, .int st.1.2.2.2.2.2.2.2.2.2.2.2.1, .int st.1.2.2.2.2.2.2.2.2.2.2.2.2.1, .long st.1.2.2.2.2.2.2.2.2.2.2.2.2.2.1, .int st.1.2.2.2.2.2.2.2.2.2.2.2.2.2.2.1, .int st.1.2.2.2.2.2.2.2.2.2.2.2.2.2.2.2.1, .int st.1.2.2.2.2.2.2.2.2.2.2.2.2.2.2.2.2.1, .int (bI st.1.2.2.2.2.2.2.2.2.2.2.2.2.2.2.2.2.2.1), .int st.1.2.2.2.2.2.2.2.2.2.2.2.2.2.2.2.2.2.2.1, .int st.1.2.2.2.2.2.2.2.2.2.2.2.2.2.2.2.2.2.2.2])), (mc, .inl (E.2.1 0, 139264, .inl st.2.1)), (sv, .inl (E.2.1 0, 393216, .inl st.2.2.1)), (sa, .inl (E.2.1 0, 1100, .inl st.2.2.2.1)), (wr, .inl (E.2.1 1, 1100, .inl st.2.2.2.2.1)), (bt, .inl (E.2.1 0, 120000, .inl st.2.2.2.2.2)), (s1, .inl (E.2.1 0, 47, .inl (zF 0))), (s2, .inl (E.2.1 0, 47, .inl (zF 1))), (s3, .inl (E.2.1 0, 47, .inl (zF 2)))] Hn := hPn
    have hD : va_D A [(mo, .inr (5, [.ref s1, .ref s2, .ref s3, .int 1, .int (nI nx), .ref mc, .int st.1.2.1, .ref sv, .int st.1.2.2.1, .ref sa, .ref wr, .int st.1.2.2.2.1, .ref bt, .int (bI st.1.2.2.2.2.1), .int st.1.2.2.2.2.2.1, .int st.1.2.2.2.2.2.2.1, .int st.1.2.2.2.2.2.2.2.1, .int st.1.2.2.2.2.2.2.2.2.1, .int st.1.2.2.2.2.2.2.2.2.2.1, .int st.1.2.2.2.2.2.2.2.2.2.2.1, .int st.1.2.2.2.2.2.2.2.2.2.2.2.1, .int st.1.2.2.2.2.2.2.2.2.2.2.2.2.1, .long st.1.2.2.2.2.2.2.2.2.2.2.2.2.2.1, .int st.1.2.2.2.2.2.2.2.2.2.2.2.2.2.2.1, .int st.1.2.2.2.2.2.2.2.2.2.2.2.2.2.2.2.1, .int st.1.2.2.2.2.2.2.2.2.2.2.2.2.2.2.2.2.1, .int (bI st.1.2.2.2.2.2.2.2.2.2.2.2.2.2.2.2.2.2.1), .int st.1.2.2.2.2.2.2.2.2.2.2.2.2.2.2.2.2.2.2.1, .int st.1.2.2.2.2.2.2.2.2.2.2.2.2.2.2.2.2.2.2.2])), (mc, .inl (E.2.1 0, 139264, .inl st.2.1)), (sv, .inl (E.2.1 0, 393216, .inl st.2.2.1)), (sa, .inl (E.2.1 0, 1100, .inl st.2.2.2.1)), (wr, .inl (E.2.1 1, 1100, .inl st.2.2.2.2.1)), (bt, .inl (E.2.1 0, 120000, .inl st.2.2.2.2.2)), (s1, .inl (E.2.1 0, 47, .inl (zF 0))), (s2, .inl (E.2.1 0, 47, .inl (zF 1))), (s3, .inl (E.2.1 0, 47, .inl (zF 2)))] := hDn
    have hS := hSn
    clear hPn hDn hSn
    refine lv_aload_n hx hb d_M_whole_30 rfl (lv_at hl 0 rfl) ?_
    refine va_get (D := E.1) (ci := 5) (v := .int 1) (C := R_M) (T := T_M) (N := 29) hx hb hts in_M hown hK hP 0 rfl rfl 3 (by decide) (hts _ m_613) (fun _ h9 => h9) rfl d_M_whole_31 ?_
    refine lv_if_le (tgt := 39) hx hb d_M_whole_34 (by decide) (fun cz => absurd cz (by decide)) (fun cz => ?_)
    refine lv_iconst (v := 0) hx hb d_M_whole_37 (by decide) ?_
    exact ar_iret hx hb hr hlocks hK hS ((1, st.1.2.1, st.1.2.2.1, st.1.2.2.2.1, st.1.2.2.2.2.1, st.1.2.2.2.2.2.1, st.1.2.2.2.2.2.2.1, st.1.2.2.2.2.2.2.2.1, st.1.2.2.2.2.2.2.2.2.1, st.1.2.2.2.2.2.2.2.2.2.1, st.1.2.2.2.2.2.2.2.2.2.2.1, st.1.2.2.2.2.2.2.2.2.2.2.2.1, st.1.2.2.2.2.2.2.2.2.2.2.2.2.1, st.1.2.2.2.2.2.2.2.2.2.2.2.2.2.1, st.1.2.2.2.2.2.2.2.2.2.2.2.2.2.2.1, st.1.2.2.2.2.2.2.2.2.2.2.2.2.2.2.2.1, st.1.2.2.2.2.2.2.2.2.2.2.2.2.2.2.2.2.1, st.1.2.2.2.2.2.2.2.2.2.2.2.2.2.2.2.2.2.1, st.1.2.2.2.2.2.2.2.2.2.2.2.2.2.2.2.2.2.2.1, st.1.2.2.2.2.2.2.2.2.2.2.2.2.2.2.2.2.2.2.2), st.2.1, st.2.2.1, st.2.2.2.1, st.2.2.2.2.1, st.2.2.2.2.2) (by subst eb1; exact pr_of (Eq.trans (f_M_whole_s nx p0 p1 st) (Eq.trans (if_pos c2) rfl))) hP hD d_M_whole_38

noncomputable def f_M_readWhole (nx : Nat) (p0 : Int32) (st : MS) : Int32 × (MS) :=
  let b1 := f_M_in  p0 0 7 
  if bI b1 = 0 then
    (0, ((1, st.1.2.1, st.1.2.2.1, st.1.2.2.2.1, st.1.2.2.2.2.1, st.1.2.2.2.2.2.1, st.1.2.2.2.2.2.2.1, st.1.2.2.2.2.2.2.2.1, st.1.2.2.2.2.2.2.2.2.1, st.1.2.2.2.2.2.2.2.2.2.1, st.1.2.2.2.2.2.2.2.2.2.2.1, st.1.2.2.2.2.2.2.2.2.2.2.2.1, st.1.2.2.2.2.2.2.2.2.2.2.2.2.1, st.1.2.2.2.2.2.2.2.2.2.2.2.2.2.1, st.1.2.2.2.2.2.2.2.2.2.2.2.2.2.2.1, st.1.2.2.2.2.2.2.2.2.2.2.2.2.2.2.2.1, st.1.2.2.2.2.2.2.2.2.2.2.2.2.2.2.2.2.1, st.1.2.2.2.2.2.2.2.2.2.2.2.2.2.2.2.2.2.1, st.1.2.2.2.2.2.2.2.2.2.2.2.2.2.2.2.2.2.2.1, st.1.2.2.2.2.2.2.2.2.2.2.2.2.2.2.2.2.2.2.2), st.2.1, st.2.2.1, st.2.2.2.1, st.2.2.2.2.1, st.2.2.2.2.2))
  else
    if bI st.1.2.2.2.2.1 = 0 then
      (0, ((2, st.1.2.1, st.1.2.2.1, st.1.2.2.2.1, st.1.2.2.2.2.1, st.1.2.2.2.2.2.1, st.1.2.2.2.2.2.2.1, st.1.2.2.2.2.2.2.2.1, st.1.2.2.2.2.2.2.2.2.1, st.1.2.2.2.2.2.2.2.2.2.1, st.1.2.2.2.2.2.2.2.2.2.2.1, st.1.2.2.2.2.2.2.2.2.2.2.2.1, st.1.2.2.2.2.2.2.2.2.2.2.2.2.1, st.1.2.2.2.2.2.2.2.2.2.2.2.2.2.1, st.1.2.2.2.2.2.2.2.2.2.2.2.2.2.2.1, st.1.2.2.2.2.2.2.2.2.2.2.2.2.2.2.2.1, st.1.2.2.2.2.2.2.2.2.2.2.2.2.2.2.2.2.1, st.1.2.2.2.2.2.2.2.2.2.2.2.2.2.2.2.2.2.1, st.1.2.2.2.2.2.2.2.2.2.2.2.2.2.2.2.2.2.2.1, st.1.2.2.2.2.2.2.2.2.2.2.2.2.2.2.2.2.2.2.2), st.2.1, st.2.2.1, st.2.2.2.1, st.2.2.2.2.1, st.2.2.2.2.2))
    else
      let r5 := (f_M_passWhole nx p0 0 ((0, st.1.2.1, st.1.2.2.1, st.1.2.2.2.1, st.1.2.2.2.2.1, st.1.2.2.2.2.2.1, st.1.2.2.2.2.2.2.1, st.1.2.2.2.2.2.2.2.1, st.1.2.2.2.2.2.2.2.2.1, st.1.2.2.2.2.2.2.2.2.2.1, st.1.2.2.2.2.2.2.2.2.2.2.1, st.1.2.2.2.2.2.2.2.2.2.2.2.1, st.1.2.2.2.2.2.2.2.2.2.2.2.2.1, st.1.2.2.2.2.2.2.2.2.2.2.2.2.2.1, st.1.2.2.2.2.2.2.2.2.2.2.2.2.2.2.1, st.1.2.2.2.2.2.2.2.2.2.2.2.2.2.2.2.1, st.1.2.2.2.2.2.2.2.2.2.2.2.2.2.2.2.2.1, st.1.2.2.2.2.2.2.2.2.2.2.2.2.2.2.2.2.2.1, st.1.2.2.2.2.2.2.2.2.2.2.2.2.2.2.2.2.2.2.1, st.1.2.2.2.2.2.2.2.2.2.2.2.2.2.2.2.2.2.2.2), st.2.1, st.2.2.1, st.2.2.2.1, st.2.2.2.2.1, st.2.2.2.2.2)).1
      let u5 := (f_M_passWhole nx p0 0 ((0, st.1.2.1, st.1.2.2.1, st.1.2.2.2.1, st.1.2.2.2.2.1, st.1.2.2.2.2.2.1, st.1.2.2.2.2.2.2.1, st.1.2.2.2.2.2.2.2.1, st.1.2.2.2.2.2.2.2.2.1, st.1.2.2.2.2.2.2.2.2.2.1, st.1.2.2.2.2.2.2.2.2.2.2.1, st.1.2.2.2.2.2.2.2.2.2.2.2.1, st.1.2.2.2.2.2.2.2.2.2.2.2.2.1, st.1.2.2.2.2.2.2.2.2.2.2.2.2.2.1, st.1.2.2.2.2.2.2.2.2.2.2.2.2.2.2.1, st.1.2.2.2.2.2.2.2.2.2.2.2.2.2.2.2.1, st.1.2.2.2.2.2.2.2.2.2.2.2.2.2.2.2.2.1, st.1.2.2.2.2.2.2.2.2.2.2.2.2.2.2.2.2.2.1, st.1.2.2.2.2.2.2.2.2.2.2.2.2.2.2.2.2.2.2.1, st.1.2.2.2.2.2.2.2.2.2.2.2.2.2.2.2.2.2.2.2), st.2.1, st.2.2.1, st.2.2.2.1, st.2.2.2.2.1, st.2.2.2.2.2)).2
      (r5, u5)
theorem f_M_readWhole_s (nx : Nat) (p0 : Int32) (st : MS) : f_M_readWhole nx p0 st = ((
  let b1 := f_M_in  p0 0 7 
  if bI b1 = 0 then
    (0, ((1, st.1.2.1, st.1.2.2.1, st.1.2.2.2.1, st.1.2.2.2.2.1, st.1.2.2.2.2.2.1, st.1.2.2.2.2.2.2.1, st.1.2.2.2.2.2.2.2.1, st.1.2.2.2.2.2.2.2.2.1, st.1.2.2.2.2.2.2.2.2.2.1, st.1.2.2.2.2.2.2.2.2.2.2.1, st.1.2.2.2.2.2.2.2.2.2.2.2.1, st.1.2.2.2.2.2.2.2.2.2.2.2.2.1, st.1.2.2.2.2.2.2.2.2.2.2.2.2.2.1, st.1.2.2.2.2.2.2.2.2.2.2.2.2.2.2.1, st.1.2.2.2.2.2.2.2.2.2.2.2.2.2.2.2.1, st.1.2.2.2.2.2.2.2.2.2.2.2.2.2.2.2.2.1, st.1.2.2.2.2.2.2.2.2.2.2.2.2.2.2.2.2.2.1, st.1.2.2.2.2.2.2.2.2.2.2.2.2.2.2.2.2.2.2.1, st.1.2.2.2.2.2.2.2.2.2.2.2.2.2.2.2.2.2.2.2), st.2.1, st.2.2.1, st.2.2.2.1, st.2.2.2.2.1, st.2.2.2.2.2))
  else
    if bI st.1.2.2.2.2.1 = 0 then
      (0, ((2, st.1.2.1, st.1.2.2.1, st.1.2.2.2.1, st.1.2.2.2.2.1, st.1.2.2.2.2.2.1, st.1.2.2.2.2.2.2.1, st.1.2.2.2.2.2.2.2.1, st.1.2.2.2.2.2.2.2.2.1, st.1.2.2.2.2.2.2.2.2.2.1, st.1.2.2.2.2.2.2.2.2.2.2.1, st.1.2.2.2.2.2.2.2.2.2.2.2.1, st.1.2.2.2.2.2.2.2.2.2.2.2.2.1, st.1.2.2.2.2.2.2.2.2.2.2.2.2.2.1, st.1.2.2.2.2.2.2.2.2.2.2.2.2.2.2.1, st.1.2.2.2.2.2.2.2.2.2.2.2.2.2.2.2.1, st.1.2.2.2.2.2.2.2.2.2.2.2.2.2.2.2.2.1, st.1.2.2.2.2.2.2.2.2.2.2.2.2.2.2.2.2.2.1, st.1.2.2.2.2.2.2.2.2.2.2.2.2.2.2.2.2.2.2.1, st.1.2.2.2.2.2.2.2.2.2.2.2.2.2.2.2.2.2.2.2), st.2.1, st.2.2.1, st.2.2.2.1, st.2.2.2.2.1, st.2.2.2.2.2))
    else
      let r5 := (f_M_passWhole nx p0 0 ((0, st.1.2.1, st.1.2.2.1, st.1.2.2.2.1, st.1.2.2.2.2.1, st.1.2.2.2.2.2.1, st.1.2.2.2.2.2.2.1, st.1.2.2.2.2.2.2.2.1, st.1.2.2.2.2.2.2.2.2.1, st.1.2.2.2.2.2.2.2.2.2.1, st.1.2.2.2.2.2.2.2.2.2.2.1, st.1.2.2.2.2.2.2.2.2.2.2.2.1, st.1.2.2.2.2.2.2.2.2.2.2.2.2.1, st.1.2.2.2.2.2.2.2.2.2.2.2.2.2.1, st.1.2.2.2.2.2.2.2.2.2.2.2.2.2.2.1, st.1.2.2.2.2.2.2.2.2.2.2.2.2.2.2.2.1, st.1.2.2.2.2.2.2.2.2.2.2.2.2.2.2.2.2.1, st.1.2.2.2.2.2.2.2.2.2.2.2.2.2.2.2.2.2.1, st.1.2.2.2.2.2.2.2.2.2.2.2.2.2.2.2.2.2.2.1, st.1.2.2.2.2.2.2.2.2.2.2.2.2.2.2.2.2.2.2.2), st.2.1, st.2.2.1, st.2.2.2.1, st.2.2.2.2.1, st.2.2.2.2.2)).1
      let u5 := (f_M_passWhole nx p0 0 ((0, st.1.2.1, st.1.2.2.1, st.1.2.2.2.1, st.1.2.2.2.2.1, st.1.2.2.2.2.2.1, st.1.2.2.2.2.2.2.1, st.1.2.2.2.2.2.2.2.1, st.1.2.2.2.2.2.2.2.2.1, st.1.2.2.2.2.2.2.2.2.2.1, st.1.2.2.2.2.2.2.2.2.2.2.1, st.1.2.2.2.2.2.2.2.2.2.2.2.1, st.1.2.2.2.2.2.2.2.2.2.2.2.2.1, st.1.2.2.2.2.2.2.2.2.2.2.2.2.2.1, st.1.2.2.2.2.2.2.2.2.2.2.2.2.2.2.1, st.1.2.2.2.2.2.2.2.2.2.2.2.2.2.2.2.1, st.1.2.2.2.2.2.2.2.2.2.2.2.2.2.2.2.2.1, st.1.2.2.2.2.2.2.2.2.2.2.2.2.2.2.2.2.2.1, st.1.2.2.2.2.2.2.2.2.2.2.2.2.2.2.2.2.2.2.1, st.1.2.2.2.2.2.2.2.2.2.2.2.2.2.2.2.2.2.2.2), st.2.1, st.2.2.1, st.2.2.2.1, st.2.2.2.2.1, st.2.2.2.2.2)).2
      (r5, u5)
  : Int32 × (MS))) := rfl
def k_M_readWhole (nx : Nat) (p0 : Int32) (st : MS) : Prop := (∀ b1, b1 = f_M_in  p0 0 7  → ((bI b1 = 0) → True) ∧ (¬ (bI b1 = 0) → ((bI st.1.2.2.2.2.1 = 0) → True) ∧ (¬ (bI st.1.2.2.2.2.1 = 0) → (k_M_passWhole nx p0 0 ((0, st.1.2.1, st.1.2.2.1, st.1.2.2.2.1, st.1.2.2.2.2.1, st.1.2.2.2.2.2.1, st.1.2.2.2.2.2.2.1, st.1.2.2.2.2.2.2.2.1, st.1.2.2.2.2.2.2.2.2.1, st.1.2.2.2.2.2.2.2.2.2.1, st.1.2.2.2.2.2.2.2.2.2.2.1, st.1.2.2.2.2.2.2.2.2.2.2.2.1, st.1.2.2.2.2.2.2.2.2.2.2.2.2.1, st.1.2.2.2.2.2.2.2.2.2.2.2.2.2.1, st.1.2.2.2.2.2.2.2.2.2.2.2.2.2.2.1, st.1.2.2.2.2.2.2.2.2.2.2.2.2.2.2.2.1, st.1.2.2.2.2.2.2.2.2.2.2.2.2.2.2.2.2.1, st.1.2.2.2.2.2.2.2.2.2.2.2.2.2.2.2.2.2.1, st.1.2.2.2.2.2.2.2.2.2.2.2.2.2.2.2.2.2.2.1, st.1.2.2.2.2.2.2.2.2.2.2.2.2.2.2.2.2.2.2.2), st.2.1, st.2.2.1, st.2.2.2.1, st.2.2.2.2.1, st.2.2.2.2.2)) ∧ ((∀ r5, r5 = (f_M_passWhole nx p0 0 ((0, st.1.2.1, st.1.2.2.1, st.1.2.2.2.1, st.1.2.2.2.2.1, st.1.2.2.2.2.2.1, st.1.2.2.2.2.2.2.1, st.1.2.2.2.2.2.2.2.1, st.1.2.2.2.2.2.2.2.2.1, st.1.2.2.2.2.2.2.2.2.2.1, st.1.2.2.2.2.2.2.2.2.2.2.1, st.1.2.2.2.2.2.2.2.2.2.2.2.1, st.1.2.2.2.2.2.2.2.2.2.2.2.2.1, st.1.2.2.2.2.2.2.2.2.2.2.2.2.2.1, st.1.2.2.2.2.2.2.2.2.2.2.2.2.2.2.1, st.1.2.2.2.2.2.2.2.2.2.2.2.2.2.2.2.1, st.1.2.2.2.2.2.2.2.2.2.2.2.2.2.2.2.2.1, st.1.2.2.2.2.2.2.2.2.2.2.2.2.2.2.2.2.2.1, st.1.2.2.2.2.2.2.2.2.2.2.2.2.2.2.2.2.2.2.1, st.1.2.2.2.2.2.2.2.2.2.2.2.2.2.2.2.2.2.2.2), st.2.1, st.2.2.1, st.2.2.2.1, st.2.2.2.2.1, st.2.2.2.2.2)).1 → (∀ u5, u5 = (f_M_passWhole nx p0 0 ((0, st.1.2.1, st.1.2.2.1, st.1.2.2.2.1, st.1.2.2.2.2.1, st.1.2.2.2.2.2.1, st.1.2.2.2.2.2.2.1, st.1.2.2.2.2.2.2.2.1, st.1.2.2.2.2.2.2.2.2.1, st.1.2.2.2.2.2.2.2.2.2.1, st.1.2.2.2.2.2.2.2.2.2.2.1, st.1.2.2.2.2.2.2.2.2.2.2.2.1, st.1.2.2.2.2.2.2.2.2.2.2.2.2.1, st.1.2.2.2.2.2.2.2.2.2.2.2.2.2.1, st.1.2.2.2.2.2.2.2.2.2.2.2.2.2.2.1, st.1.2.2.2.2.2.2.2.2.2.2.2.2.2.2.2.1, st.1.2.2.2.2.2.2.2.2.2.2.2.2.2.2.2.2.1, st.1.2.2.2.2.2.2.2.2.2.2.2.2.2.2.2.2.2.1, st.1.2.2.2.2.2.2.2.2.2.2.2.2.2.2.2.2.2.2.1, st.1.2.2.2.2.2.2.2.2.2.2.2.2.2.2.2.2.2.2.2), st.2.1, st.2.2.1, st.2.2.2.1, st.2.2.2.2.1, st.2.2.2.2.2)).2 → True))))))
set_option maxHeartbeats 4000000 in
set_option maxRecDepth 100000 in
theorem c_M_readWhole (l : Launch) (E : Ev) (A : Nat → Prop) (mo mc sv sa wr bt s1 s2 s3 nx : Nat) (st : MS) (p0 : Int32)  (hok : k_M_readWhole nx p0 st) :
    Kt l y_M_readWhole b_M_readWhole 2 (some .int) 7 0 0 E A [.ref mo, .int p0] [(mo, .inr (5, [.ref s1, .ref s2, .ref s3, .int st.1.1, .int (nI nx), .ref mc, .int st.1.2.1, .ref sv, .int st.1.2.2.1, .ref sa, .ref wr, .int st.1.2.2.2.1, .ref bt, .int (bI st.1.2.2.2.2.1), .int st.1.2.2.2.2.2.1, .int st.1.2.2.2.2.2.2.1, .int st.1.2.2.2.2.2.2.2.1, .int st.1.2.2.2.2.2.2.2.2.1, .int st.1.2.2.2.2.2.2.2.2.2.1, .int st.1.2.2.2.2.2.2.2.2.2.2.1, .int st.1.2.2.2.2.2.2.2.2.2.2.2.1, .int st.1.2.2.2.2.2.2.2.2.2.2.2.2.1, .long st.1.2.2.2.2.2.2.2.2.2.2.2.2.2.1, .int st.1.2.2.2.2.2.2.2.2.2.2.2.2.2.2.1, .int st.1.2.2.2.2.2.2.2.2.2.2.2.2.2.2.2.1, .int st.1.2.2.2.2.2.2.2.2.2.2.2.2.2.2.2.2.1, .int (bI st.1.2.2.2.2.2.2.2.2.2.2.2.2.2.2.2.2.2.1), .int st.1.2.2.2.2.2.2.2.2.2.2.2.2.2.2.2.2.2.2.1, .int st.1.2.2.2.2.2.2.2.2.2.2.2.2.2.2.2.2.2.2.2])), (mc, .inl (E.2.1 0, 139264, .inl st.2.1)), (sv, .inl (E.2.1 0, 393216, .inl st.2.2.1)), (sa, .inl (E.2.1 0, 1100, .inl st.2.2.2.1)), (wr, .inl (E.2.1 1, 1100, .inl st.2.2.2.2.1)), (bt, .inl (E.2.1 0, 120000, .inl st.2.2.2.2.2)), (s1, .inl (E.2.1 0, 47, .inl (zF 0))), (s2, .inl (E.2.1 0, 47, .inl (zF 1))), (s3, .inl (E.2.1 0, 47, .inl (zF 2)))] (va_Qi (fun (r : Int32) (u : MS) => r = (f_M_readWhole nx p0 st).1 ∧ u = (f_M_readWhole nx p0 st).2) (ar_W E A (fun u : MS => [(mo, .inr (5, [.ref s1, .ref s2, .ref s3, .int u.1.1, .int (nI nx), .ref mc, .int u.1.2.1, .ref sv, .int u.1.2.2.1, .ref sa, .ref wr, .int u.1.2.2.2.1, .ref bt, .int (bI u.1.2.2.2.2.1), .int u.1.2.2.2.2.2.1, .int u.1.2.2.2.2.2.2.1, .int u.1.2.2.2.2.2.2.2.1, .int u.1.2.2.2.2.2.2.2.2.1, .int u.1.2.2.2.2.2.2.2.2.2.1, .int u.1.2.2.2.2.2.2.2.2.2.2.1, .int u.1.2.2.2.2.2.2.2.2.2.2.2.1, .int u.1.2.2.2.2.2.2.2.2.2.2.2.2.1, .long u.1.2.2.2.2.2.2.2.2.2.2.2.2.2.1, .int u.1.2.2.2.2.2.2.2.2.2.2.2.2.2.2.1, .int u.1.2.2.2.2.2.2.2.2.2.2.2.2.2.2.2.1, .int u.1.2.2.2.2.2.2.2.2.2.2.2.2.2.2.2.2.1, .int (bI u.1.2.2.2.2.2.2.2.2.2.2.2.2.2.2.2.2.2.1), .int u.1.2.2.2.2.2.2.2.2.2.2.2.2.2.2.2.2.2.2.1, .int u.1.2.2.2.2.2.2.2.2.2.2.2.2.2.2.2.2.2.2.2])), (mc, .inl (E.2.1 0, 139264, .inl u.2.1)), (sv, .inl (E.2.1 0, 393216, .inl u.2.2.1)), (sa, .inl (E.2.1 0, 1100, .inl u.2.2.2.1)), (wr, .inl (E.2.1 1, 1100, .inl u.2.2.2.2.1)), (bt, .inl (E.2.1 0, 120000, .inl u.2.2.2.2.2)), (s1, .inl (E.2.1 0, 47, .inl (zF 0))), (s2, .inl (E.2.1 0, 47, .inl (zF 1))), (s3, .inl (E.2.1 0, 47, .inl (zF 2)))])) A) := by
  unfold k_M_readWhole at hok
  refine Kt.of (by decide) (Nat.le_of_ble_eq_true rfl) ?_
  intro p e s m below meth c ls hx hb hml hown hts hr hlocks hex hin hA hZ hP hK hD hl
  have hS : va_S A s.heap s.heap [] := va_S.rf
  have hl : lv_has ls 2 [(0, .ref mo), (1, .int p0)] := hl
  refine lv_aload_n hx hb d_M_readWhole_0 rfl (lv_at hl 0 rfl) ?_
  refine lv_iload_n hx hb d_M_readWhole_1 rfl (lv_at hl 1 rfl) ?_
  refine lv_iconst (v := 0) hx hb d_M_readWhole_2 (by decide) ?_
  refine lv_bipush (v := 7) hx hb d_M_readWhole_3 (by decide) ?_
  refine ar_usei (wr := [(mo, .inr (5, [.ref s1, .ref s2, .ref s3, .int st.1.1, .int (nI nx), .ref mc, .int st.1.2.1, .ref sv, .int st.1.2.2.1, .ref sa, .ref wr, .int st.1.2.2.2.1, .ref bt, .int (bI st.1.2.2.2.2.1), .int st.1.2.2.2.2.2.1, .int st.1.2.2.2.2.2.2.1, .int st.1.2.2.2.2.2.2.2.1, .int st.1.2.2.2.2.2.2.2.2.1, .int st.1.2.2.2.2.2.2.2.2.2.1, .int st.1.2.2.2.2.2.2.2.2.2.2.1, .int st.1.2.2.2.2.2.2.2.2.2.2.2.1, .int st.1.2.2.2.2.2.2.2.2.2.2.2.2.1, .long st.1.2.2.2.2.2.2.2.2.2.2.2.2.2.1, .int st.1.2.2.2.2.2.2.2.2.2.2.2.2.2.2.1, .int st.1.2.2.2.2.2.2.2.2.2.2.2.2.2.2.2.1, .int st.1.2.2.2.2.2.2.2.2.2.2.2.2.2.2.2.2.1, .int (bI st.1.2.2.2.2.2.2.2.2.2.2.2.2.2.2.2.2.2.1), .int st.1.2.2.2.2.2.2.2.2.2.2.2.2.2.2.2.2.2.2.1, .int st.1.2.2.2.2.2.2.2.2.2.2.2.2.2.2.2.2.2.2.2])), (mc, .inl (E.2.1 0, 139264, .inl st.2.1)), (sv, .inl (E.2.1 0, 393216, .inl st.2.2.1)), (sa, .inl (E.2.1 0, 1100, .inl st.2.2.2.1)), (wr, .inl (E.2.1 1, 1100, .inl st.2.2.2.2.1)), (bt, .inl (E.2.1 0, 120000, .inl st.2.2.2.2.2)), (s1, .inl (E.2.1 0, 47, .inl (zF 0))), (s2, .inl (E.2.1 0, 47, .inl (zF 1))), (s3, .inl (E.2.1 0, 47, .inl (zF 2)))]) hP hD hS hA [] [0, 1, 2, 3, 4, 5, 6, 7, 8] rfl rfl rfl (by decide) (ar_runS (n := 3) (As := [.int p0, .int 0, .int 7]) (rest := [.ref mo]) hx hb hml hown hts hP hD hS hA hK hZ (c_M_in l E _   p0 0 7 ) m_706 m_707 m_7 m_708 (by decide +kernel) ⟨Nat.le_of_ble_eq_true rfl, Nat.le_of_ble_eq_true rfl⟩ [] rfl rfl rfl rfl hl.1 rfl (Nat.le_of_ble_eq_true rfl) d_M_readWhole_5 ⟨Nat.le_of_ble_eq_true rfl, Nat.le_of_ble_eq_true rfl⟩) (fun r1 _ Hn locsn hw1 hPn hDn hSn => ?_)
  obtain ⟨b1, eb1⟩ : ∃ b : Bool, b = f_M_in  p0 0 7  := ⟨_, rfl⟩
  rw [← eb1] at hw1
  subst hw1
  replace hok := hok b1 eb1
  clear hP hD hS
  have hP : va_P E.1 classes [(mo, .inr (5, [.ref s1, .ref s2, .ref s3, .int st.1.1, .int (nI nx), .ref mc, .int st.1.2.1, .ref sv, .int st.1.2.2.1, .ref sa, .ref wr, .int st.1.2.2.2.1, .ref bt, .int (bI st.1.2.2.2.2.1), .int st.1.2.2.2.2.2.1, .int st.1.2.2.2.2.2.2.1, .int st.1.2.2.2.2.2.2.2.1, .int st.1.2.2.2.2.2.2.2.2.1, .int st.1.2.2.2.2.2.2.2.2.2.1, .int st.1.2.2.2.2.2.2.2.2.2.2.1, .int st.1.2.2.2.2.2.2.2.2.2.2.2.1, .int st.1.2.2.2.2.2.2.2.2.2.2.2.2.1, .long st.1.2.2.2.2.2.2.2.2.2.2.2.2.2.1, .int st.1.2.2.2.2.2.2.2.2.2.2.2.2.2.2.1, .int st.1.2.2.2.2.2.2.2.2.2.2.2.2.2.2.2.1, .int st.1.2.2.2.2.2.2.2.2.2.2.2.2.2.2.2.2.1, .int (bI st.1.2.2.2.2.2.2.2.2.2.2.2.2.2.2.2.2.2.1), .int st.1.2.2.2.2.2.2.2.2.2.2.2.2.2.2.2.2.2.2.1, .int st.1.2.2.2.2.2.2.2.2.2.2.2.2.2.2.2.2.2.2.2])), (mc, .inl (E.2.1 0, 139264, .inl st.2.1)), (sv, .inl (E.2.1 0, 393216, .inl st.2.2.1)), (sa, .inl (E.2.1 0, 1100, .inl st.2.2.2.1)), (wr, .inl (E.2.1 1, 1100, .inl st.2.2.2.2.1)), (bt, .inl (E.2.1 0, 120000, .inl st.2.2.2.2.2)), (s1, .inl (E.2.1 0, 47, .inl (zF 0))), (s2, .inl (E.2.1 0, 47, .inl (zF 1))), (s3, .inl (E.2.1 0, 47, .inl (zF 2)))] Hn := hPn
  have hD : va_D A [(mo, .inr (5, [.ref s1, .ref s2, .ref s3, .int st.1.1, .int (nI nx), .ref mc, .int st.1.2.1, .ref sv, .int st.1.2.2.1, .ref sa, .ref wr, .int st.1.2.2.2.1, .ref bt, .int (bI st.1.2.2.2.2.1), .int st.1.2.2.2.2.2.1, .int st.1.2.2.2.2.2.2.1, .int st.1.2.2.2.2.2.2.2.1, .int st.1.2.2.2.2.2.2.2.2.1, .int st.1.2.2.2.2.2.2.2.2.2.1, .int st.1.2.2.2.2.2.2.2.2.2.2.1, .int st.1.2.2.2.2.2.2.2.2.2.2.2.1, .int st.1.2.2.2.2.2.2.2.2.2.2.2.2.1, .long st.1.2.2.2.2.2.2.2.2.2.2.2.2.2.1, .int st.1.2.2.2.2.2.2.2.2.2.2.2.2.2.2.1, .int st.1.2.2.2.2.2.2.2.2.2.2.2.2.2.2.2.1, .int st.1.2.2.2.2.2.2.2.2.2.2.2.2.2.2.2.2.1, .int (bI st.1.2.2.2.2.2.2.2.2.2.2.2.2.2.2.2.2.2.1), .int st.1.2.2.2.2.2.2.2.2.2.2.2.2.2.2.2.2.2.2.1, .int st.1.2.2.2.2.2.2.2.2.2.2.2.2.2.2.2.2.2.2.2])), (mc, .inl (E.2.1 0, 139264, .inl st.2.1)), (sv, .inl (E.2.1 0, 393216, .inl st.2.2.1)), (sa, .inl (E.2.1 0, 1100, .inl st.2.2.2.1)), (wr, .inl (E.2.1 1, 1100, .inl st.2.2.2.2.1)), (bt, .inl (E.2.1 0, 120000, .inl st.2.2.2.2.2)), (s1, .inl (E.2.1 0, 47, .inl (zF 0))), (s2, .inl (E.2.1 0, 47, .inl (zF 1))), (s3, .inl (E.2.1 0, 47, .inl (zF 2)))] := hDn
  have hS := hSn
  clear hPn hDn hSn
  refine lv_if_ne (tgt := 15) hx hb d_M_readWhole_8 (by decide) (fun c2 => ?_) (fun c2 => ?_)
  · replace hok := hok.2 c2
    refine lv_aload_n hx hb d_M_readWhole_15 rfl (lv_at hl 0 rfl) ?_
    refine va_get (D := E.1) (ci := 5) (v := .int (bI st.1.2.2.2.2.1)) (C := R_M) (T := T_M) (N := 29) hx hb hts in_M hown hK hP 0 rfl rfl 13 (by decide) (hts _ m_623) (fun _ h9 => h9) rfl d_M_readWhole_16 ?_
    refine lv_if_ne (tgt := 26) hx hb d_M_readWhole_19 (by decide) (fun c3 => ?_) (fun c3 => ?_)
    · replace hok := hok.2 c3
      refine lv_iconst (v := 0) hx hb d_M_readWhole_26 (by decide) ?_
      refine va_put (D := E.1) (ci := 5) (v := .int 0) (ty := .int) (C := R_M) (T := T_M) (N := 29) hx hb hts in_M t_M t_M_ok n_M hown hK hP hD hS 0 rfl rfl 3 (by decide) (hts _ m_613) (fun _ h9 => h9) rfl (by decide +kernel) rfl rfl (Nat.le_of_ble_eq_true rfl) d_M_readWhole_27 (fun Hn locsn hPn hDn hSn => ?_)
      clear hP hD hS
      have hP : va_P E.1 classes [(mo, .inr (5, [.ref s1, .ref s2, .ref s3, .int 0, .int (nI nx), .ref mc, .int st.1.2.1, .ref sv, .int st.1.2.2.1, .ref sa, .ref wr, .int st.1.2.2.2.1, .ref bt, .int (bI st.1.2.2.2.2.1), .int st.1.2.2.2.2.2.1, .int st.1.2.2.2.2.2.2.1, .int st.1.2.2.2.2.2.2.2.1, .int st.1.2.2.2.2.2.2.2.2.1, .int st.1.2.2.2.2.2.2.2.2.2.1, .int st.1.2.2.2.2.2.2.2.2.2.2.1, .int st.1.2.2.2.2.2.2.2.2.2.2.2.1, .int st.1.2.2.2.2.2.2.2.2.2.2.2.2.1, .long st.1.2.2.2.2.2.2.2.2.2.2.2.2.2.1, .int st.1.2.2.2.2.2.2.2.2.2.2.2.2.2.2.1, .int st.1.2.2.2.2.2.2.2.2.2.2.2.2.2.2.2.1, .int st.1.2.2.2.2.2.2.2.2.2.2.2.2.2.2.2.2.1, .int (bI st.1.2.2.2.2.2.2.2.2.2.2.2.2.2.2.2.2.2.1), .int st.1.2.2.2.2.2.2.2.2.2.2.2.2.2.2.2.2.2.2.1, .int st.1.2.2.2.2.2.2.2.2.2.2.2.2.2.2.2.2.2.2.2])), (mc, .inl (E.2.1 0, 139264, .inl st.2.1)), (sv, .inl (E.2.1 0, 393216, .inl st.2.2.1)), (sa, .inl (E.2.1 0, 1100, .inl st.2.2.2.1)), (wr, .inl (E.2.1 1, 1100, .inl st.2.2.2.2.1)), (bt, .inl (E.2.1 0, 120000, .inl st.2.2.2.2.2)), (s1, .inl (E.2.1 0, 47, .inl (zF 0))), (s2, .inl (E.2.1 0, 47, .inl (zF 1))), (s3, .inl (E.2.1 0, 47, .inl (zF 2)))] Hn := hPn
      have hD : va_D A [(mo, .inr (5, [.ref s1, .ref s2, .ref s3, .int 0, .int (nI nx), .ref mc, .int st.1.2.1, .ref sv, .int st.1.2.2.1, .ref sa, .ref wr, .int st.1.2.2.2.1, .ref bt, .int (bI st.1.2.2.2.2.1), .int st.1.2.2.2.2.2.1, .int st.1.2.2.2.2.2.2.1, .int st.1.2.2.2.2.2.2.2.1, .int st.1.2.2.2.2.2.2.2.2.1, .int st.1.2.2.2.2.2.2.2.2.2.1, .int st.1.2.2.2.2.2.2.2.2.2.2.1, .int st.1.2.2.2.2.2.2.2.2.2.2.2.1, .int st.1.2.2.2.2.2.2.2.2.2.2.2.2.1, .long st.1.2.2.2.2.2.2.2.2.2.2.2.2.2.1, .int st.1.2.2.2.2.2.2.2.2.2.2.2.2.2.2.1, .int st.1.2.2.2.2.2.2.2.2.2.2.2.2.2.2.2.1, .int st.1.2.2.2.2.2.2.2.2.2.2.2.2.2.2.2.2.1, .int (bI st.1.2.2.2.2.2.2.2.2.2.2.2.2.2.2.2.2.2.1), .int st.1.2.2.2.2.2.2.2.2.2.2.2.2.2.2.2.2.2.2.1, .int st.1.2.2.2.2.2.2.2.2.2.2.2.2.2.2.2.2.2.2.2])), (mc, .inl (E.2.1 0, 139264, .inl st.2.1)), (sv, .inl (E.2.1 0, 393216, .inl st.2.2.1)), (sa, .inl (E.2.1 0, 1100, .inl st.2.2.2.1)), (wr, .inl (E.2.1 1, 1100, .inl st.2.2.2.2.1)), (bt, .inl (E.2.1 0, 120000, .inl st.2.2.2.2.2)), (s1, .inl (E.2.1 0, 47, .inl (zF 0))), (s2, .inl (E.2.1 0, 47, .inl (zF 1))), (s3, .inl (E.2.1 0, 47, .inl (zF 2)))] := hDn
      have hS := hSn
      clear hPn hDn hSn
      refine lv_aload_n hx hb d_M_readWhole_30 rfl (lv_at hl 0 rfl) ?_
      refine va_get (D := E.1) (ci := 5) (v := .int 0) (C := R_M) (T := T_M) (N := 29) hx hb hts in_M hown hK hP 0 rfl rfl 3 (by decide) (hts _ m_613) (fun _ h9 => h9) rfl d_M_readWhole_31 ?_
      refine lv_if_le (tgt := 41) hx hb d_M_readWhole_34 (by decide) (fun cz => ?_) (fun cz => absurd cz (by decide))
      refine lv_aload_n hx hb d_M_readWhole_41 rfl (lv_at hl 0 rfl) ?_
      refine lv_iload_n hx hb d_M_readWhole_42 rfl (lv_at hl 1 rfl) ?_
      refine lv_iconst (v := 0) hx hb d_M_readWhole_43 (by decide) ?_
      obtain ⟨hk4, hok⟩ := hok
      refine ar_usei (wr := []) hP hD hS hA [0, 1, 2, 3, 4, 5, 6, 7, 8] [] rfl rfl rfl (by decide) (ar_runV (n := 2) (As := [.int p0, .int 0]) (rest := []) (ci := 5) (q0 := 0) hx hb hml hown hts hP hD hS hA hK hZ (c_M_passWhole l E _ mo mc sv sa wr bt s1 s2 s3 nx ((0, st.1.2.1, st.1.2.2.1, st.1.2.2.2.1, st.1.2.2.2.2.1, st.1.2.2.2.2.2.1, st.1.2.2.2.2.2.2.1, st.1.2.2.2.2.2.2.2.1, st.1.2.2.2.2.2.2.2.2.1, st.1.2.2.2.2.2.2.2.2.2.1, st.1.2.2.2.2.2.2.2.2.2.2.1, st.1.2.2.2.2.2.2.2.2.2.2.2.1, st.1.2.2.2.2.2.2.2.2.2.2.2.2.1, st.1.2.2.2.2.2.2.2.2.2.2.2.2.2.1, st.1.2.2.2.2.2.2.2.2.2.2.2.2.2.2.1, st.1.2.2.2.2.2.2.2.2.2.2.2.2.2.2.2.1, st.1.2.2.2.2.2.2.2.2.2.2.2.2.2.2.2.2.1, st.1.2.2.2.2.2.2.2.2.2.2.2.2.2.2.2.2.2.1, st.1.2.2.2.2.2.2.2.2.2.2.2.2.2.2.2.2.2.2.1, st.1.2.2.2.2.2.2.2.2.2.2.2.2.2.2.2.2.2.2.2), st.2.1, st.2.2.1, st.2.2.2.1, st.2.2.2.2.1, st.2.2.2.2.2) p0 0 hk4) m_812 m_814 ms_38 m_7 m_815 (by decide +kernel) ⟨Nat.le_of_ble_eq_true rfl, Nat.le_of_ble_eq_true rfl⟩ [0, 1, 2, 3, 4, 5, 6, 7, 8] rfl rfl rfl rfl rfl rfl rfl hl.1 rfl (Nat.le_of_ble_eq_true rfl) d_M_readWhole_44 ⟨Nat.le_of_ble_eq_true rfl, Nat.le_of_ble_eq_true rfl⟩) (fun r5 u5 Hn locsn hw5 hPn hDn hSn => ?_)
      obtain ⟨hw5a, hw5b⟩ := hw5
      replace hok := hok r5 hw5a
      replace hok := hok u5 hw5b
      clear hP hD hS
      have hP : va_P E.1 classes [(mo, .inr (5, [.ref s1, .ref s2, .ref s3, .int u5.1.1, .int (nI nx), .ref mc, .int u5.1.2.1, .ref sv, .int u5.1.2.2.1, .ref sa, .ref wr, .int u5.1.2.2.2.1, .ref bt, .int (bI u5.1.2.2.2.2.1), .int u5.1.2.2.2.2.2.1, .int u5.1.2.2.2.2.2.2.1, .int u5.1.2.2.2.2.2.2.2.1, .int u5.1.2.2.2.2.2.2.2.2.1, .int u5.1.2.2.2.2.2.2.2.2.2.1, .int u5.1.2.2.2.2.2.2.2.2.2.2.1, .int u5.1.2.2.2.2.2.2.2.2.2.2.2.1, .int u5.1.2.2.2.2.2.2.2.2.2.2.2.2.1, .long u5.1.2.2.2.2.2.2.2.2.2.2.2.2.2.1, .int u5.1.2.2.2.2.2.2.2.2.2.2.2.2.2.2.1, .int u5.1.2.2.2.2.2.2.2.2.2.2.2.2.2.2.2.1, .int u5.1.2.2.2.2.2.2.2.2.2.2.2.2.2.2.2.2.1, .int (bI u5.1.2.2.2.2.2.2.2.2.2.2.2.2.2.2.2.2.2.1), .int u5.1.2.2.2.2.2.2.2.2.2.2.2.2.2.2.2.2.2.2.1, .int u5.1.2.2.2.2.2.2.2.2.2.2.2.2.2.2.2.2.2.2.2])), (mc, .inl (E.2.1 0, 139264, .inl u5.2.1)), (sv, .inl (E.2.1 0, 393216, .inl u5.2.2.1)), (sa, .inl (E.2.1 0, 1100, .inl u5.2.2.2.1)), (wr, .inl (E.2.1 1, 1100, .inl u5.2.2.2.2.1)), (bt, .inl (E.2.1 0, 120000, .inl u5.2.2.2.2.2)), (s1, .inl (E.2.1 0, 47, .inl (zF 0))), (s2, .inl (E.2.1 0, 47, .inl (zF 1))), (s3, .inl (E.2.1 0, 47, .inl (zF 2)))] Hn := hPn
      have hD : va_D A [(mo, .inr (5, [.ref s1, .ref s2, .ref s3, .int u5.1.1, .int (nI nx), .ref mc, .int u5.1.2.1, .ref sv, .int u5.1.2.2.1, .ref sa, .ref wr, .int u5.1.2.2.2.1, .ref bt, .int (bI u5.1.2.2.2.2.1), .int u5.1.2.2.2.2.2.1, .int u5.1.2.2.2.2.2.2.1, .int u5.1.2.2.2.2.2.2.2.1, .int u5.1.2.2.2.2.2.2.2.2.1, .int u5.1.2.2.2.2.2.2.2.2.2.1, .int u5.1.2.2.2.2.2.2.2.2.2.2.1, .int u5.1.2.2.2.2.2.2.2.2.2.2.2.1, .int u5.1.2.2.2.2.2.2.2.2.2.2.2.2.1, .long u5.1.2.2.2.2.2.2.2.2.2.2.2.2.2.1, .int u5.1.2.2.2.2.2.2.2.2.2.2.2.2.2.2.1, .int u5.1.2.2.2.2.2.2.2.2.2.2.2.2.2.2.2.1, .int u5.1.2.2.2.2.2.2.2.2.2.2.2.2.2.2.2.2.1, .int (bI u5.1.2.2.2.2.2.2.2.2.2.2.2.2.2.2.2.2.2.1), .int u5.1.2.2.2.2.2.2.2.2.2.2.2.2.2.2.2.2.2.2.1, .int u5.1.2.2.2.2.2.2.2.2.2.2.2.2.2.2.2.2.2.2.2])), (mc, .inl (E.2.1 0, 139264, .inl u5.2.1)), (sv, .inl (E.2.1 0, 393216, .inl u5.2.2.1)), (sa, .inl (E.2.1 0, 1100, .inl u5.2.2.2.1)), (wr, .inl (E.2.1 1, 1100, .inl u5.2.2.2.2.1)), (bt, .inl (E.2.1 0, 120000, .inl u5.2.2.2.2.2)), (s1, .inl (E.2.1 0, 47, .inl (zF 0))), (s2, .inl (E.2.1 0, 47, .inl (zF 1))), (s3, .inl (E.2.1 0, 47, .inl (zF 2)))] := hDn
      have hS := hSn
      clear hPn hDn hSn
      exact ar_iret hx hb hr hlocks hK hS u5 (by subst hw5b; subst hw5a; subst eb1; exact pr_of (Eq.trans (f_M_readWhole_s nx p0 st) (Eq.trans (if_neg c2) (Eq.trans (if_neg c3) rfl)))) hP hD d_M_readWhole_47
    · replace hok := hok.1 c3
      refine lv_iconst (v := 2) hx hb d_M_readWhole_22 (by decide) ?_
      refine lv_goto (tgt := 27) hx hb d_M_readWhole_23 (by decide) ?_
      refine va_put (D := E.1) (ci := 5) (v := .int 2) (ty := .int) (C := R_M) (T := T_M) (N := 29) hx hb hts in_M t_M t_M_ok n_M hown hK hP hD hS 0 rfl rfl 3 (by decide) (hts _ m_613) (fun _ h9 => h9) rfl (by decide +kernel) rfl rfl (Nat.le_of_ble_eq_true rfl) d_M_readWhole_27 (fun Hn locsn hPn hDn hSn => ?_)
      clear hP hD hS
      have hP : va_P E.1 classes [(mo, .inr (5, [.ref s1, .ref s2, .ref s3, .int 2, .int (nI nx), .ref mc, .int st.1.2.1, .ref sv, .int st.1.2.2.1, .ref sa, .ref wr, .int st.1.2.2.2.1, .ref bt, .int (bI st.1.2.2.2.2.1), .int st.1.2.2.2.2.2.1, .int st.1.2.2.2.2.2.2.1, .int st.1.2.2.2.2.2.2.2.1, .int st.1.2.2.2.2.2.2.2.2.1, .int st.1.2.2.2.2.2.2.2.2.2.1, .int st.1.2.2.2.2.2.2.2.2.2.2.1, .int st.1.2.2.2.2.2.2.2.2.2.2.2.1, .int st.1.2.2.2.2.2.2.2.2.2.2.2.2.1, .long st.1.2.2.2.2.2.2.2.2.2.2.2.2.2.1, .int st.1.2.2.2.2.2.2.2.2.2.2.2.2.2.2.1, .int st.1.2.2.2.2.2.2.2.2.2.2.2.2.2.2.2.1, .int st.1.2.2.2.2.2.2.2.2.2.2.2.2.2.2.2.2.1, .int (bI st.1.2.2.2.2.2.2.2.2.2.2.2.2.2.2.2.2.2.1), .int st.1.2.2.2.2.2.2.2.2.2.2.2.2.2.2.2.2.2.2.1, .int st.1.2.2.2.2.2.2.2.2.2.2.2.2.2.2.2.2.2.2.2])), (mc, .inl (E.2.1 0, 139264, .inl st.2.1)), (sv, .inl (E.2.1 0, 393216, .inl st.2.2.1)), (sa, .inl (E.2.1 0, 1100, .inl st.2.2.2.1)), (wr, .inl (E.2.1 1, 1100, .inl st.2.2.2.2.1)), (bt, .inl (E.2.1 0, 120000, .inl st.2.2.2.2.2)), (s1, .inl (E.2.1 0, 47, .inl (zF 0))), (s2, .inl (E.2.1 0, 47, .inl (zF 1))), (s3, .inl (E.2.1 0, 47, .inl (zF 2)))] Hn := hPn
      have hD : va_D A [(mo, .inr (5, [.ref s1, .ref s2, .ref s3, .int 2, .int (nI nx), .ref mc, .int st.1.2.1, .ref sv, .int st.1.2.2.1, .ref sa, .ref wr, .int st.1.2.2.2.1, .ref bt, .int (bI st.1.2.2.2.2.1), .int st.1.2.2.2.2.2.1, .int st.1.2.2.2.2.2.2.1, .int st.1.2.2.2.2.2.2.2.1, .int st.1.2.2.2.2.2.2.2.2.1, .int st.1.2.2.2.2.2.2.2.2.2.1, .int st.1.2.2.2.2.2.2.2.2.2.2.1, .int st.1.2.2.2.2.2.2.2.2.2.2.2.1, .int st.1.2.2.2.2.2.2.2.2.2.2.2.2.1, .long st.1.2.2.2.2.2.2.2.2.2.2.2.2.2.1, .int st.1.2.2.2.2.2.2.2.2.2.2.2.2.2.2.1, .int st.1.2.2.2.2.2.2.2.2.2.2.2.2.2.2.2.1, .int st.1.2.2.2.2.2.2.2.2.2.2.2.2.2.2.2.2.1, .int (bI st.1.2.2.2.2.2.2.2.2.2.2.2.2.2.2.2.2.2.1), .int st.1.2.2.2.2.2.2.2.2.2.2.2.2.2.2.2.2.2.2.1, .int st.1.2.2.2.2.2.2.2.2.2.2.2.2.2.2.2.2.2.2.2])), (mc, .inl (E.2.1 0, 139264, .inl st.2.1)), (sv, .inl (E.2.1 0, 393216, .inl st.2.2.1)), (sa, .inl (E.2.1 0, 1100, .inl st.2.2.2.1)), (wr, .inl (E.2.1 1, 1100, .inl st.2.2.2.2.1)), (bt, .inl (E.2.1 0, 120000, .inl st.2.2.2.2.2)), (s1, .inl (E.2.1 0, 47, .inl (zF 0))), (s2, .inl (E.2.1 0, 47, .inl (zF 1))), (s3, .inl (E.2.1 0, 47, .inl (zF 2)))] := hDn
      have hS := hSn
      clear hPn hDn hSn
      refine lv_aload_n hx hb d_M_readWhole_30 rfl (lv_at hl 0 rfl) ?_
      refine va_get (D := E.1) (ci := 5) (v := .int 2) (C := R_M) (T := T_M) (N := 29) hx hb hts in_M hown hK hP 0 rfl rfl 3 (by decide) (hts _ m_613) (fun _ h9 => h9) rfl d_M_readWhole_31 ?_
      refine lv_if_le (tgt := 41) hx hb d_M_readWhole_34 (by decide) (fun cz => absurd cz (by decide)) (fun cz => ?_)
      refine lv_iconst (v := 0) hx hb d_M_readWhole_37 (by decide) ?_
      refine lv_goto (tgt := 47) hx hb d_M_readWhole_38 (by decide) ?_
      exact ar_iret hx hb hr hlocks hK hS ((2, st.1.2.1, st.1.2.2.1, st.1.2.2.2.1, st.1.2.2.2.2.1, st.1.2.2.2.2.2.1, st.1.2.2.2.2.2.2.1, st.1.2.2.2.2.2.2.2.1, st.1.2.2.2.2.2.2.2.2.1, st.1.2.2.2.2.2.2.2.2.2.1, st.1.2.2.2.2.2.2.2.2.2.2.1, st.1.2.2.2.2.2.2.2.2.2.2.2.1, st.1.2.2.2.2.2.2.2.2.2.2.2.2.1, st.1.2.2.2.2.2.2.2.2.2.2.2.2.2.1, st.1.2.2.2.2.2.2.2.2.2.2.2.2.2.2.1, st.1.2.2.2.2.2.2.2.2.2.2.2.2.2.2.2.1, st.1.2.2.2.2.2.2.2.2.2.2.2.2.2.2.2.2.1, st.1.2.2.2.2.2.2.2.2.2.2.2.2.2.2.2.2.2.1, st.1.2.2.2.2.2.2.2.2.2.2.2.2.2.2.2.2.2.2.1, st.1.2.2.2.2.2.2.2.2.2.2.2.2.2.2.2.2.2.2.2), st.2.1, st.2.2.1, st.2.2.2.1, st.2.2.2.2.1, st.2.2.2.2.2) (by subst eb1; exact pr_of (Eq.trans (f_M_readWhole_s nx p0 st) (Eq.trans (if_neg c2) (Eq.trans (if_pos c3) rfl)))) hP hD d_M_readWhole_47
  · replace hok := hok.1 c2
    refine lv_iconst (v := 1) hx hb d_M_readWhole_11 (by decide) ?_
    refine lv_goto (tgt := 27) hx hb d_M_readWhole_12 (by decide) ?_
    refine va_put (D := E.1) (ci := 5) (v := .int 1) (ty := .int) (C := R_M) (T := T_M) (N := 29) hx hb hts in_M t_M t_M_ok n_M hown hK hP hD hS 0 rfl rfl 3 (by decide) (hts _ m_613) (fun _ h9 => h9) rfl (by decide +kernel) rfl rfl (Nat.le_of_ble_eq_true rfl) d_M_readWhole_27 (fun Hn locsn hPn hDn hSn => ?_)
    clear hP hD hS
    have hP : va_P E.1 classes [(mo, .inr (5, [.ref s1, .ref s2, .ref s3, .int 1, .int (nI nx), .ref mc, .int st.1.2.1, .ref sv, .int st.1.2.2.1, .ref sa, .ref wr, .int st.1.2.2.2.1, .ref bt, .int (bI st.1.2.2.2.2.1), .int st.1.2.2.2.2.2.1, .int st.1.2.2.2.2.2.2.1, .int st.1.2.2.2.2.2.2.2.1, .int st.1.2.2.2.2.2.2.2.2.1, .int st.1.2.2.2.2.2.2.2.2.2.1, .int st.1.2.2.2.2.2.2.2.2.2.2.1, .int st.1.2.2.2.2.2.2.2.2.2.2.2.1, .int st.1.2.2.2.2.2.2.2.2.2.2.2.2.1, .long st.1.2.2.2.2.2.2.2.2.2.2.2.2.2.1, .int st.1.2.2.2.2.2.2.2.2.2.2.2.2.2.2.1, .int st.1.2.2.2.2.2.2.2.2.2.2.2.2.2.2.2.1, .int st.1.2.2.2.2.2.2.2.2.2.2.2.2.2.2.2.2.1, .int (bI st.1.2.2.2.2.2.2.2.2.2.2.2.2.2.2.2.2.2.1), .int st.1.2.2.2.2.2.2.2.2.2.2.2.2.2.2.2.2.2.2.1, .int st.1.2.2.2.2.2.2.2.2.2.2.2.2.2.2.2.2.2.2.2])), (mc, .inl (E.2.1 0, 139264, .inl st.2.1)), (sv, .inl (E.2.1 0, 393216, .inl st.2.2.1)), (sa, .inl (E.2.1 0, 1100, .inl st.2.2.2.1)), (wr, .inl (E.2.1 1, 1100, .inl st.2.2.2.2.1)), (bt, .inl (E.2.1 0, 120000, .inl st.2.2.2.2.2)), (s1, .inl (E.2.1 0, 47, .inl (zF 0))), (s2, .inl (E.2.1 0, 47, .inl (zF 1))), (s3, .inl (E.2.1 0, 47, .inl (zF 2)))] Hn := hPn
    have hD : va_D A [(mo, .inr (5, [.ref s1, .ref s2, .ref s3, .int 1, .int (nI nx), .ref mc, .int st.1.2.1, .ref sv, .int st.1.2.2.1, .ref sa, .ref wr, .int st.1.2.2.2.1, .ref bt, .int (bI st.1.2.2.2.2.1), .int st.1.2.2.2.2.2.1, .int st.1.2.2.2.2.2.2.1, .int st.1.2.2.2.2.2.2.2.1, .int st.1.2.2.2.2.2.2.2.2.1, .int st.1.2.2.2.2.2.2.2.2.2.1, .int st.1.2.2.2.2.2.2.2.2.2.2.1, .int st.1.2.2.2.2.2.2.2.2.2.2.2.1, .int st.1.2.2.2.2.2.2.2.2.2.2.2.2.1, .long st.1.2.2.2.2.2.2.2.2.2.2.2.2.2.1, .int st.1.2.2.2.2.2.2.2.2.2.2.2.2.2.2.1, .int st.1.2.2.2.2.2.2.2.2.2.2.2.2.2.2.2.1, .int st.1.2.2.2.2.2.2.2.2.2.2.2.2.2.2.2.2.1, .int (bI st.1.2.2.2.2.2.2.2.2.2.2.2.2.2.2.2.2.2.1), .int st.1.2.2.2.2.2.2.2.2.2.2.2.2.2.2.2.2.2.2.1, .int st.1.2.2.2.2.2.2.2.2.2.2.2.2.2.2.2.2.2.2.2])), (mc, .inl (E.2.1 0, 139264, .inl st.2.1)), (sv, .inl (E.2.1 0, 393216, .inl st.2.2.1)), (sa, .inl (E.2.1 0, 1100, .inl st.2.2.2.1)), (wr, .inl (E.2.1 1, 1100, .inl st.2.2.2.2.1)), (bt, .inl (E.2.1 0, 120000, .inl st.2.2.2.2.2)), (s1, .inl (E.2.1 0, 47, .inl (zF 0))), (s2, .inl (E.2.1 0, 47, .inl (zF 1))), (s3, .inl (E.2.1 0, 47, .inl (zF 2)))] := hDn
    have hS := hSn
    clear hPn hDn hSn
    refine lv_aload_n hx hb d_M_readWhole_30 rfl (lv_at hl 0 rfl) ?_
    refine va_get (D := E.1) (ci := 5) (v := .int 1) (C := R_M) (T := T_M) (N := 29) hx hb hts in_M hown hK hP 0 rfl rfl 3 (by decide) (hts _ m_613) (fun _ h9 => h9) rfl d_M_readWhole_31 ?_
    refine lv_if_le (tgt := 41) hx hb d_M_readWhole_34 (by decide) (fun cz => absurd cz (by decide)) (fun cz => ?_)
    refine lv_iconst (v := 0) hx hb d_M_readWhole_37 (by decide) ?_
    refine lv_goto (tgt := 47) hx hb d_M_readWhole_38 (by decide) ?_
    exact ar_iret hx hb hr hlocks hK hS ((1, st.1.2.1, st.1.2.2.1, st.1.2.2.2.1, st.1.2.2.2.2.1, st.1.2.2.2.2.2.1, st.1.2.2.2.2.2.2.1, st.1.2.2.2.2.2.2.2.1, st.1.2.2.2.2.2.2.2.2.1, st.1.2.2.2.2.2.2.2.2.2.1, st.1.2.2.2.2.2.2.2.2.2.2.1, st.1.2.2.2.2.2.2.2.2.2.2.2.1, st.1.2.2.2.2.2.2.2.2.2.2.2.2.1, st.1.2.2.2.2.2.2.2.2.2.2.2.2.2.1, st.1.2.2.2.2.2.2.2.2.2.2.2.2.2.2.1, st.1.2.2.2.2.2.2.2.2.2.2.2.2.2.2.2.1, st.1.2.2.2.2.2.2.2.2.2.2.2.2.2.2.2.2.1, st.1.2.2.2.2.2.2.2.2.2.2.2.2.2.2.2.2.2.1, st.1.2.2.2.2.2.2.2.2.2.2.2.2.2.2.2.2.2.2.1, st.1.2.2.2.2.2.2.2.2.2.2.2.2.2.2.2.2.2.2.2), st.2.1, st.2.2.1, st.2.2.2.1, st.2.2.2.2.1, st.2.2.2.2.2) (by subst eb1; exact pr_of (Eq.trans (f_M_readWhole_s nx p0 st) (Eq.trans (if_pos c2) rfl))) hP hD d_M_readWhole_47
