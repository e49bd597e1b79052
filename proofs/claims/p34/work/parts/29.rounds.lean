/-! every case -/
theorem lb_all : ∀ j : Nat, j < 38 → ∃ ms : List mm_e, (∀ e ∈ ms, mm_ok e) ∧ lb_case ms j = true := by
  intro j hj
  match j, hj with
  | 0, _ => exact ⟨[], fun _ h => absurd h List.not_mem_nil, lb_c0⟩
  | 1, _ => exact ⟨[], fun _ h => absurd h List.not_mem_nil, lb_c1⟩
  | 2, _ => exact ⟨[], fun _ h => absurd h List.not_mem_nil, lb_c2⟩
  | 3, _ => exact ⟨[mm_6, mm_16], List.forall_mem_cons.mpr ⟨mm_6_ok, List.forall_mem_cons.mpr ⟨mm_16_ok, fun _ h => absurd h List.not_mem_nil⟩⟩, lb_c3⟩
  | 4, _ => exact ⟨[], fun _ h => absurd h List.not_mem_nil, lb_c4⟩
  | 5, _ => exact ⟨[], fun _ h => absurd h List.not_mem_nil, lb_c5⟩
  | 6, _ => exact ⟨[], fun _ h => absurd h List.not_mem_nil, lb_c6⟩
  | 7, _ => exact ⟨[], fun _ h => absurd h List.not_mem_nil, lb_c7⟩
  | 8, _ => exact ⟨[mm_17], List.forall_mem_cons.mpr ⟨mm_17_ok, fun _ h => absurd h List.not_mem_nil⟩, lb_c8⟩
  | 9, _ => exact ⟨[], fun _ h => absurd h List.not_mem_nil, lb_c9⟩
  | 10, _ => exact ⟨[], fun _ h => absurd h List.not_mem_nil, lb_c10⟩
  | 11, _ => exact ⟨[], fun _ h => absurd h List.not_mem_nil, lb_c11⟩
  | 12, _ => exact ⟨[], fun _ h => absurd h List.not_mem_nil, lb_c12⟩
  | 13, _ => exact ⟨[], fun _ h => absurd h List.not_mem_nil, lb_c13⟩
  | 14, _ => exact ⟨[], fun _ h => absurd h List.not_mem_nil, lb_c14⟩
  | 15, _ => exact ⟨[mm_18], List.forall_mem_cons.mpr ⟨mm_18_ok, fun _ h => absurd h List.not_mem_nil⟩, lb_c15⟩
  | 16, _ => exact ⟨[mm_19], List.forall_mem_cons.mpr ⟨mm_19_ok, fun _ h => absurd h List.not_mem_nil⟩, lb_c16⟩
  | 17, _ => exact ⟨[mm_20], List.forall_mem_cons.mpr ⟨mm_20_ok, fun _ h => absurd h List.not_mem_nil⟩, lb_c17⟩
  | 18, _ => exact ⟨[mm_21], List.forall_mem_cons.mpr ⟨mm_21_ok, fun _ h => absurd h List.not_mem_nil⟩, lb_c18⟩
  | 19, _ => exact ⟨[mm_22, mm_25], List.forall_mem_cons.mpr ⟨mm_22_ok, List.forall_mem_cons.mpr ⟨mm_25_ok, fun _ h => absurd h List.not_mem_nil⟩⟩, lb_c19⟩
  | 20, _ => exact ⟨[mm_26], List.forall_mem_cons.mpr ⟨mm_26_ok, fun _ h => absurd h List.not_mem_nil⟩, lb_c20⟩
  | 21, _ => exact ⟨[mm_30], List.forall_mem_cons.mpr ⟨mm_30_ok, fun _ h => absurd h List.not_mem_nil⟩, lb_c21⟩
  | 22, _ => exact ⟨[mm_31, mm_32, mm_33], List.forall_mem_cons.mpr ⟨mm_31_ok, List.forall_mem_cons.mpr ⟨mm_32_ok, List.forall_mem_cons.mpr ⟨mm_33_ok, fun _ h => absurd h List.not_mem_nil⟩⟩⟩, lb_c22⟩
  | 23, _ => exact ⟨[mm_34], List.forall_mem_cons.mpr ⟨mm_34_ok, fun _ h => absurd h List.not_mem_nil⟩, lb_c23⟩
  | 24, _ => exact ⟨[mm_35], List.forall_mem_cons.mpr ⟨mm_35_ok, fun _ h => absurd h List.not_mem_nil⟩, lb_c24⟩
  | 25, _ => exact ⟨[], fun _ h => absurd h List.not_mem_nil, lb_c25⟩
  | 26, _ => exact ⟨[], fun _ h => absurd h List.not_mem_nil, lb_c26⟩
  | 27, _ => exact ⟨[], fun _ h => absurd h List.not_mem_nil, lb_c27⟩
  | 28, _ => exact ⟨[mm_36], List.forall_mem_cons.mpr ⟨mm_36_ok, fun _ h => absurd h List.not_mem_nil⟩, lb_c28⟩
  | 29, _ => exact ⟨[mm_37], List.forall_mem_cons.mpr ⟨mm_37_ok, fun _ h => absurd h List.not_mem_nil⟩, lb_c29⟩
  | 30, _ => exact ⟨[mm_38], List.forall_mem_cons.mpr ⟨mm_38_ok, fun _ h => absurd h List.not_mem_nil⟩, lb_c30⟩
  | 31, _ => exact ⟨[mm_39], List.forall_mem_cons.mpr ⟨mm_39_ok, fun _ h => absurd h List.not_mem_nil⟩, lb_c31⟩
  | 32, _ => exact ⟨[mm_40], List.forall_mem_cons.mpr ⟨mm_40_ok, fun _ h => absurd h List.not_mem_nil⟩, lb_c32⟩
  | 33, _ => exact ⟨[], fun _ h => absurd h List.not_mem_nil, lb_c33⟩
  | 34, _ => exact ⟨[], fun _ h => absurd h List.not_mem_nil, lb_c34⟩
  | 35, _ => exact ⟨[mm_41, mm_42, mm_47], List.forall_mem_cons.mpr ⟨mm_41_ok, List.forall_mem_cons.mpr ⟨mm_42_ok, List.forall_mem_cons.mpr ⟨mm_47_ok, fun _ h => absurd h List.not_mem_nil⟩⟩⟩, lb_c35⟩
  | 36, _ => exact ⟨[], fun _ h => absurd h List.not_mem_nil, lb_c36⟩
  | 37, _ => exact ⟨[], fun _ h => absurd h List.not_mem_nil, lb_c37⟩
  | j + 38, hj => exact absurd hj (by omega)
