/-! every case but those that go by hand -/
theorem lb_all : ∀ j : Nat, j < 38 → j ≠ 1 → j ≠ 3 → j ≠ 31 → j ≠ 32 → ∃ ms : List mm_e, (∀ e ∈ ms, m4_ok e) ∧ lb_case ms j = true := by
  intro j hj h1 h3 h31 h32
  match j, hj, h1, h3, h31, h32 with
  | 0, _, _, _, _, _ => exact ⟨[], fun _ h => absurd h List.not_mem_nil, lb_c0⟩
  | 2, _, _, _, _, _ => exact ⟨[], fun _ h => absurd h List.not_mem_nil, lb_c2⟩
  | 4, _, _, _, _, _ => exact ⟨[], fun _ h => absurd h List.not_mem_nil, lb_c4⟩
  | 5, _, _, _, _, _ => exact ⟨[], fun _ h => absurd h List.not_mem_nil, lb_c5⟩
  | 6, _, _, _, _, _ => exact ⟨[], fun _ h => absurd h List.not_mem_nil, lb_c6⟩
  | 7, _, _, _, _, _ => exact ⟨[], fun _ h => absurd h List.not_mem_nil, lb_c7⟩
  | 8, _, _, _, _, _ => exact ⟨[mm_0], List.forall_mem_cons.mpr ⟨mm_0_ok, fun _ h => absurd h List.not_mem_nil⟩, lb_c8⟩
  | 9, _, _, _, _, _ => exact ⟨[], fun _ h => absurd h List.not_mem_nil, lb_c9⟩
  | 10, _, _, _, _, _ => exact ⟨[], fun _ h => absurd h List.not_mem_nil, lb_c10⟩
  | 11, _, _, _, _, _ => exact ⟨[], fun _ h => absurd h List.not_mem_nil, lb_c11⟩
  | 12, _, _, _, _, _ => exact ⟨[], fun _ h => absurd h List.not_mem_nil, lb_c12⟩
  | 13, _, _, _, _, _ => exact ⟨[], fun _ h => absurd h List.not_mem_nil, lb_c13⟩
  | 14, _, _, _, _, _ => exact ⟨[], fun _ h => absurd h List.not_mem_nil, lb_c14⟩
  | 15, _, _, _, _, _ => exact ⟨[mm_1], List.forall_mem_cons.mpr ⟨mm_1_ok, fun _ h => absurd h List.not_mem_nil⟩, lb_c15⟩
  | 16, _, _, _, _, _ => exact ⟨[mm_2], List.forall_mem_cons.mpr ⟨mm_2_ok, fun _ h => absurd h List.not_mem_nil⟩, lb_c16⟩
  | 17, _, _, _, _, _ => exact ⟨[mm_3], List.forall_mem_cons.mpr ⟨mm_3_ok, fun _ h => absurd h List.not_mem_nil⟩, lb_c17⟩
  | 18, _, _, _, _, _ => exact ⟨[mm_4], List.forall_mem_cons.mpr ⟨mm_4_ok, fun _ h => absurd h List.not_mem_nil⟩, lb_c18⟩
  | 19, _, _, _, _, _ => exact ⟨[mm_5, mm_8], List.forall_mem_cons.mpr ⟨mm_5_ok, List.forall_mem_cons.mpr ⟨mm_8_ok, fun _ h => absurd h List.not_mem_nil⟩⟩, lb_c19⟩
  | 20, _, _, _, _, _ => exact ⟨[mm_9], List.forall_mem_cons.mpr ⟨mm_9_ok, fun _ h => absurd h List.not_mem_nil⟩, lb_c20⟩
  | 21, _, _, _, _, _ => exact ⟨[mm_13], List.forall_mem_cons.mpr ⟨mm_13_ok, fun _ h => absurd h List.not_mem_nil⟩, lb_c21⟩
  | 22, _, _, _, _, _ => exact ⟨[mm_14, mm_15, mm_16], List.forall_mem_cons.mpr ⟨mm_14_ok, List.forall_mem_cons.mpr ⟨mm_15_ok, List.forall_mem_cons.mpr ⟨mm_16_ok, fun _ h => absurd h List.not_mem_nil⟩⟩⟩, lb_c22⟩
  | 23, _, _, _, _, _ => exact ⟨[mm_17], List.forall_mem_cons.mpr ⟨mm_17_ok, fun _ h => absurd h List.not_mem_nil⟩, lb_c23⟩
  | 24, _, _, _, _, _ => exact ⟨[mm_18], List.forall_mem_cons.mpr ⟨mm_18_ok, fun _ h => absurd h List.not_mem_nil⟩, lb_c24⟩
  | 25, _, _, _, _, _ => exact ⟨[mm_19], List.forall_mem_cons.mpr ⟨mm_19_ok, fun _ h => absurd h List.not_mem_nil⟩, lb_c25⟩
  | 26, _, _, _, _, _ => exact ⟨[], fun _ h => absurd h List.not_mem_nil, lb_c26⟩
  | 27, _, _, _, _, _ => exact ⟨[], fun _ h => absurd h List.not_mem_nil, lb_c27⟩
  | 28, _, _, _, _, _ => exact ⟨[mm_20], List.forall_mem_cons.mpr ⟨mm_20_ok, fun _ h => absurd h List.not_mem_nil⟩, lb_c28⟩
  | 29, _, _, _, _, _ => exact ⟨[mm_21], List.forall_mem_cons.mpr ⟨mm_21_ok, fun _ h => absurd h List.not_mem_nil⟩, lb_c29⟩
  | 30, _, _, _, _, _ => exact ⟨[mm_22], List.forall_mem_cons.mpr ⟨mm_22_ok, fun _ h => absurd h List.not_mem_nil⟩, lb_c30⟩
  | 33, _, _, _, _, _ => exact ⟨[], fun _ h => absurd h List.not_mem_nil, lb_c33⟩
  | 34, _, _, _, _, _ => exact ⟨[], fun _ h => absurd h List.not_mem_nil, lb_c34⟩
  | 35, _, _, _, _, _ => exact ⟨[mm_23, mm_24, mm_29], List.forall_mem_cons.mpr ⟨mm_23_ok, List.forall_mem_cons.mpr ⟨mm_24_ok, List.forall_mem_cons.mpr ⟨mm_29_ok, fun _ h => absurd h List.not_mem_nil⟩⟩⟩, lb_c35⟩
  | 36, _, _, _, _, _ => exact ⟨[], fun _ h => absurd h List.not_mem_nil, lb_c36⟩
  | 37, _, _, _, _, _ => exact ⟨[], fun _ h => absurd h List.not_mem_nil, lb_c37⟩
  | 1, _, h1, _, _, _ => exact absurd rfl h1
  | 3, _, _, h3, _, _ => exact absurd rfl h3
  | 31, _, _, _, h31, _ => exact absurd rfl h31
  | 32, _, _, _, _, h32 => exact absurd rfl h32
  | j + 38, hj, _, _, _, _ => exact absurd hj (by omega)
