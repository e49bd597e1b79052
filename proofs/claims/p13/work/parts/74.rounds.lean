/-! every case but those that go by hand -/
theorem lb_all : ∀ j : Nat, j < 38 → j ≠ 1 → j ≠ 3 → j ≠ 31 → j ≠ 32 → ∃ ms : List mm_e, (∀ e ∈ ms, m4_ok e) ∧ lb_case ms j = true := by
  intro j hj h1 h3 h31 h32
  match j, hj, h1, h3, h31, h32 with
  | 0, _, _, _, _, _ => exact ⟨[], fun _ h => absurd h List.not_mem_nil, lb_k0⟩
  | 2, _, _, _, _, _ => exact ⟨[], fun _ h => absurd h List.not_mem_nil, lb_k2⟩
  | 4, _, _, _, _, _ => exact ⟨[], fun _ h => absurd h List.not_mem_nil, lb_k4⟩
  | 5, _, _, _, _, _ => exact ⟨[], fun _ h => absurd h List.not_mem_nil, lb_k5⟩
  | 6, _, _, _, _, _ => exact ⟨[], fun _ h => absurd h List.not_mem_nil, lb_k6⟩
  | 7, _, _, _, _, _ => exact ⟨[], fun _ h => absurd h List.not_mem_nil, lb_k7⟩
  | 8, _, _, _, _, _ => exact ⟨[mm_0], List.forall_mem_cons.mpr ⟨mm_0_ok, fun _ h => absurd h List.not_mem_nil⟩, lb_k8⟩
  | 9, _, _, _, _, _ => exact ⟨[], fun _ h => absurd h List.not_mem_nil, lb_k9⟩
  | 10, _, _, _, _, _ => exact ⟨[], fun _ h => absurd h List.not_mem_nil, lb_k10⟩
  | 11, _, _, _, _, _ => exact ⟨[], fun _ h => absurd h List.not_mem_nil, lb_k11⟩
  | 12, _, _, _, _, _ => exact ⟨[], fun _ h => absurd h List.not_mem_nil, lb_k12⟩
  | 13, _, _, _, _, _ => exact ⟨[], fun _ h => absurd h List.not_mem_nil, lb_k13⟩
  | 14, _, _, _, _, _ => exact ⟨[], fun _ h => absurd h List.not_mem_nil, lb_k14⟩
  | 15, _, _, _, _, _ => exact ⟨[mm_1], List.forall_mem_cons.mpr ⟨mm_1_ok, fun _ h => absurd h List.not_mem_nil⟩, lb_k15⟩
  | 16, _, _, _, _, _ => exact ⟨[mm_2], List.forall_mem_cons.mpr ⟨mm_2_ok, fun _ h => absurd h List.not_mem_nil⟩, lb_k16⟩
  | 17, _, _, _, _, _ => exact ⟨[mm_3], List.forall_mem_cons.mpr ⟨mm_3_ok, fun _ h => absurd h List.not_mem_nil⟩, lb_k17⟩
  | 18, _, _, _, _, _ => exact ⟨[mm_4], List.forall_mem_cons.mpr ⟨mm_4_ok, fun _ h => absurd h List.not_mem_nil⟩, lb_k18⟩
  | 19, _, _, _, _, _ => exact ⟨[mm_5, mm_8], List.forall_mem_cons.mpr ⟨mm_5_ok, List.forall_mem_cons.mpr ⟨mm_8_ok, fun _ h => absurd h List.not_mem_nil⟩⟩, lb_k19⟩
  | 20, _, _, _, _, _ => exact ⟨[mm_9], List.forall_mem_cons.mpr ⟨mm_9_ok, fun _ h => absurd h List.not_mem_nil⟩, lb_k20⟩
  | 21, _, _, _, _, _ => exact ⟨[mm_13], List.forall_mem_cons.mpr ⟨mm_13_ok, fun _ h => absurd h List.not_mem_nil⟩, lb_k21⟩
  | 22, _, _, _, _, _ => exact ⟨[mm_14, mm_15, mm_16], List.forall_mem_cons.mpr ⟨mm_14_ok, List.forall_mem_cons.mpr ⟨mm_15_ok, List.forall_mem_cons.mpr ⟨mm_16_ok, fun _ h => absurd h List.not_mem_nil⟩⟩⟩, lb_k22⟩
  | 23, _, _, _, _, _ => exact ⟨[mm_17], List.forall_mem_cons.mpr ⟨mm_17_ok, fun _ h => absurd h List.not_mem_nil⟩, lb_k23⟩
  | 24, _, _, _, _, _ => exact ⟨[mm_18], List.forall_mem_cons.mpr ⟨mm_18_ok, fun _ h => absurd h List.not_mem_nil⟩, lb_k24⟩
  | 25, _, _, _, _, _ => exact ⟨[mm_19], List.forall_mem_cons.mpr ⟨mm_19_ok, fun _ h => absurd h List.not_mem_nil⟩, lb_k25⟩
  | 26, _, _, _, _, _ => exact ⟨[], fun _ h => absurd h List.not_mem_nil, lb_k26⟩
  | 27, _, _, _, _, _ => exact ⟨[], fun _ h => absurd h List.not_mem_nil, lb_k27⟩
  | 28, _, _, _, _, _ => exact ⟨[mm_20], List.forall_mem_cons.mpr ⟨mm_20_ok, fun _ h => absurd h List.not_mem_nil⟩, lb_k28⟩
  | 29, _, _, _, _, _ => exact ⟨[mm_21], List.forall_mem_cons.mpr ⟨mm_21_ok, fun _ h => absurd h List.not_mem_nil⟩, lb_k29⟩
  | 30, _, _, _, _, _ => exact ⟨[mm_22], List.forall_mem_cons.mpr ⟨mm_22_ok, fun _ h => absurd h List.not_mem_nil⟩, lb_k30⟩
  | 33, _, _, _, _, _ => exact ⟨[], fun _ h => absurd h List.not_mem_nil, lb_k33⟩
  | 34, _, _, _, _, _ => exact ⟨[], fun _ h => absurd h List.not_mem_nil, lb_k34⟩
  | 35, _, _, _, _, _ => exact ⟨[mm_23, mm_24, mm_29], List.forall_mem_cons.mpr ⟨mm_23_ok, List.forall_mem_cons.mpr ⟨mm_24_ok, List.forall_mem_cons.mpr ⟨mm_29_ok, fun _ h => absurd h List.not_mem_nil⟩⟩⟩, lb_k35⟩
  | 36, _, _, _, _, _ => exact ⟨[], fun _ h => absurd h List.not_mem_nil, lb_k36⟩
  | 37, _, _, _, _, _ => exact ⟨[], fun _ h => absurd h List.not_mem_nil, lb_k37⟩
  | 1, _, h1, _, _, _ => exact absurd rfl h1
  | 3, _, _, h3, _, _ => exact absurd rfl h3
  | 31, _, _, _, h31, _ => exact absurd rfl h31
  | 32, _, _, _, _, h32 => exact absurd rfl h32
  | j + 38, hj, _, _, _, _ => exact absurd hj (by omega)
