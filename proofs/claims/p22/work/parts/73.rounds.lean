/-! every case that only reads -/
theorem r7_all : r7_alls := by
  intro pc hpc
  simp only [List.mem_cons, List.not_mem_nil, or_false] at hpc
  rcases hpc with rfl | rfl | rfl | rfl | rfl | rfl | rfl | rfl | rfl | rfl | rfl | rfl | rfl | rfl | rfl | rfl | rfl | rfl | rfl | rfl
  · exact ⟨[], fun _ h => absurd h List.not_mem_nil, r7_k0⟩
  · exact ⟨[], fun _ h => absurd h List.not_mem_nil, r7_k1⟩
  · exact ⟨[], fun _ h => absurd h List.not_mem_nil, r7_k2⟩
  · exact ⟨[], fun _ h => absurd h List.not_mem_nil, r7_k3⟩
  · exact ⟨[mm_0], List.forall_mem_cons.mpr ⟨mm_0_ok, fun _ h => absurd h List.not_mem_nil⟩, r7_k4⟩
  · exact ⟨[mm_1], List.forall_mem_cons.mpr ⟨mm_1_ok, fun _ h => absurd h List.not_mem_nil⟩, r7_k5⟩
  · exact ⟨[mm_2], List.forall_mem_cons.mpr ⟨mm_2_ok, fun _ h => absurd h List.not_mem_nil⟩, r7_k6⟩
  · exact ⟨[mm_3], List.forall_mem_cons.mpr ⟨mm_3_ok, fun _ h => absurd h List.not_mem_nil⟩, r7_k7⟩
  · exact ⟨[mm_4, mm_7], List.forall_mem_cons.mpr ⟨mm_4_ok, List.forall_mem_cons.mpr ⟨mm_7_ok, fun _ h => absurd h List.not_mem_nil⟩⟩, r7_k8⟩
  · exact ⟨[mm_8], List.forall_mem_cons.mpr ⟨mm_8_ok, fun _ h => absurd h List.not_mem_nil⟩, r7_k9⟩
  · exact ⟨[mm_9, mm_10, mm_11], List.forall_mem_cons.mpr ⟨mm_9_ok, List.forall_mem_cons.mpr ⟨mm_10_ok, List.forall_mem_cons.mpr ⟨mm_11_ok, fun _ h => absurd h List.not_mem_nil⟩⟩⟩, r7_k10⟩
  · exact ⟨[mm_12], List.forall_mem_cons.mpr ⟨mm_12_ok, fun _ h => absurd h List.not_mem_nil⟩, r7_k11⟩
  · exact ⟨[mm_13], List.forall_mem_cons.mpr ⟨mm_13_ok, fun _ h => absurd h List.not_mem_nil⟩, r7_k12⟩
  · exact ⟨[], fun _ h => absurd h List.not_mem_nil, r7_k13⟩
  · exact ⟨[mm_14], List.forall_mem_cons.mpr ⟨mm_14_ok, fun _ h => absurd h List.not_mem_nil⟩, r7_k14⟩
  · exact ⟨[mm_15], List.forall_mem_cons.mpr ⟨mm_15_ok, fun _ h => absurd h List.not_mem_nil⟩, r7_k15⟩
  · exact ⟨[mm_16], List.forall_mem_cons.mpr ⟨mm_16_ok, fun _ h => absurd h List.not_mem_nil⟩, r7_k16⟩
  · exact ⟨[], fun _ h => absurd h List.not_mem_nil, r7_k17⟩
  · exact ⟨[], fun _ h => absurd h List.not_mem_nil, r7_k18⟩
  · exact ⟨[], fun _ h => absurd h List.not_mem_nil, r7_k19⟩
