/-! where the fields' words stand; small words of the walks -/
set_option maxRecDepth 20000 in
theorem in_Ro : ∀ w ∈ u_ws R_Ro T_Ro 6, w ∈ TT := (List.forall_mem_cons.mpr ⟨m_61, (List.forall_mem_cons.mpr ⟨m_63, (List.forall_mem_cons.mpr ⟨m_65, (List.forall_mem_cons.mpr ⟨m_67, (List.forall_mem_cons.mpr ⟨m_69, (List.forall_mem_cons.mpr ⟨m_71, (fun _ h => absurd h List.not_mem_nil)⟩)⟩)⟩)⟩)⟩)⟩)
set_option maxRecDepth 20000 in
theorem in_Si : ∀ w ∈ u_ws R_Si T_Si 2, w ∈ TT := (List.forall_mem_cons.mpr ⟨m_42, (List.forall_mem_cons.mpr ⟨m_44, (fun _ h => absurd h List.not_mem_nil)⟩)⟩)
set_option maxRecDepth 20000 in
theorem in_En : ∀ w ∈ u_ws R_En T_En 8, w ∈ TT := (List.forall_mem_cons.mpr ⟨m_94, (List.forall_mem_cons.mpr ⟨m_96, (List.forall_mem_cons.mpr ⟨m_98, (List.forall_mem_cons.mpr ⟨m_100, (List.forall_mem_cons.mpr ⟨m_102, (List.forall_mem_cons.mpr ⟨m_104, (List.forall_mem_cons.mpr ⟨m_106, (List.forall_mem_cons.mpr ⟨m_108, (fun _ h => absurd h List.not_mem_nil)⟩)⟩)⟩)⟩)⟩)⟩)⟩)⟩)
set_option maxRecDepth 20000 in
theorem in_De : ∀ w ∈ u_ws R_De T_De 11, w ∈ TT := (List.forall_mem_cons.mpr ⟨m_128, (List.forall_mem_cons.mpr ⟨m_130, (List.forall_mem_cons.mpr ⟨m_132, (List.forall_mem_cons.mpr ⟨m_134, (List.forall_mem_cons.mpr ⟨m_136, (List.forall_mem_cons.mpr ⟨m_138, (List.forall_mem_cons.mpr ⟨m_140, (List.forall_mem_cons.mpr ⟨m_142, (List.forall_mem_cons.mpr ⟨m_144, (List.forall_mem_cons.mpr ⟨m_146, (List.forall_mem_cons.mpr ⟨m_148, (fun _ h => absurd h List.not_mem_nil)⟩)⟩)⟩)⟩)⟩)⟩)⟩)⟩)⟩)⟩)⟩)
set_option maxRecDepth 20000 in
theorem in_X : ∀ w ∈ u_ws R_X T_X 10, w ∈ TT := (List.forall_mem_cons.mpr ⟨m_161, (List.forall_mem_cons.mpr ⟨m_163, (List.forall_mem_cons.mpr ⟨m_165, (List.forall_mem_cons.mpr ⟨m_167, (List.forall_mem_cons.mpr ⟨m_169, (List.forall_mem_cons.mpr ⟨m_171, (List.forall_mem_cons.mpr ⟨m_173, (List.forall_mem_cons.mpr ⟨m_175, (List.forall_mem_cons.mpr ⟨m_177, (List.forall_mem_cons.mpr ⟨m_179, (fun _ h => absurd h List.not_mem_nil)⟩)⟩)⟩)⟩)⟩)⟩)⟩)⟩)⟩)⟩)
set_option maxRecDepth 20000 in
theorem in_M : ∀ w ∈ u_ws R_M T_M 29, w ∈ TT := (List.forall_mem_cons.mpr ⟨m_635, (List.forall_mem_cons.mpr ⟨m_637, (List.forall_mem_cons.mpr ⟨m_639, (List.forall_mem_cons.mpr ⟨m_641, (List.forall_mem_cons.mpr ⟨m_643, (List.forall_mem_cons.mpr ⟨m_645, (List.forall_mem_cons.mpr ⟨m_647, (List.forall_mem_cons.mpr ⟨m_649, (List.forall_mem_cons.mpr ⟨m_651, (List.forall_mem_cons.mpr ⟨m_653, (List.forall_mem_cons.mpr ⟨m_655, (List.forall_mem_cons.mpr ⟨m_657, (List.forall_mem_cons.mpr ⟨m_659, (List.forall_mem_cons.mpr ⟨m_661, (List.forall_mem_cons.mpr ⟨m_663, (List.forall_mem_cons.mpr ⟨m_665, (List.forall_mem_cons.mpr ⟨m_667, (List.forall_mem_cons.mpr ⟨m_669, (List.forall_mem_cons.mpr ⟨m_671, (List.forall_mem_cons.mpr ⟨m_673, (List.forall_mem_cons.mpr ⟨m_675, (List.forall_mem_cons.mpr ⟨m_677, (List.forall_mem_cons.mpr ⟨m_679, (List.forall_mem_cons.mpr ⟨m_681, (List.forall_mem_cons.mpr ⟨m_683, (List.forall_mem_cons.mpr ⟨m_685, (List.forall_mem_cons.mpr ⟨m_687, (List.forall_mem_cons.mpr ⟨m_689, (List.forall_mem_cons.mpr ⟨m_691, (fun _ h => absurd h List.not_mem_nil)⟩)⟩)⟩)⟩)⟩)⟩)⟩)⟩)⟩)⟩)⟩)⟩)⟩)⟩)⟩)⟩)⟩)⟩)⟩)⟩)⟩)⟩)⟩)⟩)⟩)⟩)⟩)⟩)⟩)
def ushr (x y : Int32) : Int32 := (x.toUInt32 >>> (y.toUInt32 &&& Int32.toUInt32 31)).toInt32
theorem bI_t : bI true = 1 := rfl
theorem bI_f : bI false = 0 := rfl
theorem in_le {i g k : Int32} {n : Nat} (hk : k.toInt = n) (h1 : ¬ i < 0) (h2 : ¬ g ≤ i) (h3 : g ≤ k) : vp_in i n := by
  rw [vp_in_iff]
  rw [Int32.lt_iff_toInt_lt, Int32.toInt_zero] at h1
  rw [Int32.le_iff_toInt_le] at h2 h3
  omega
abbrev RoS : Type := Int32 × Int32 × Int32 × (Nat → Int32) × (Nat → Int32) × (Nat → Int32)
abbrev EnS : Type := Bool × Int32 × Int32 × Int32 × Int32 × Int32 × Int32
abbrev DeS : Type := Int32 × Bool × Bool × Int32 × Int32 × Int32 × Int32 × Int32 × Int32 × Int32
