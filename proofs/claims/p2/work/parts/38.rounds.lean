/-! every case -/
theorem lb_all : ∀ j : Nat, j < 38 → ∃ ms : List mm_e, (∀ e ∈ ms, mm_ok e) ∧ lb_case ms j = true := by
  intro j hj
  match j, hj with
  | 0, _ => exact ⟨[], fun _ h => absurd h List.not_mem_nil, lb_c0⟩
  | 1, _ => exact ⟨[], fun _ h => absurd h List.not_mem_nil, lb_c1⟩
  | 2, _ => exact ⟨[], fun _ h => absurd h List.not_mem_nil, lb_c2⟩
  | 3, _ => exact ⟨[mm_5, mm_48], List.forall_mem_cons.mpr ⟨mm_5_ok, List.forall_mem_cons.mpr ⟨mm_48_ok, fun _ h => absurd h List.not_mem_nil⟩⟩, lb_c3⟩
  | 4, _ => exact ⟨[], fun _ h => absurd h List.not_mem_nil, lb_c4⟩
  | 5, _ => exact ⟨[], fun _ h => absurd h List.not_mem_nil, lb_c5⟩
  | 6, _ => exact ⟨[], fun _ h => absurd h List.not_mem_nil, lb_c6⟩
  | 7, _ => exact ⟨[], fun _ h => absurd h List.not_mem_nil, lb_c7⟩
  | 8, _ => exact ⟨[], fun _ h => absurd h List.not_mem_nil, lb_c8⟩
  | 9, _ => exact ⟨[], fun _ h => absurd h List.not_mem_nil, lb_c9⟩
  | 10, _ => exact ⟨[], fun _ h => absurd h List.not_mem_nil, lb_c10⟩
  | 11, _ => exact ⟨[], fun _ h => absurd h List.not_mem_nil, lb_c11⟩
  | 12, _ => exact ⟨[], fun _ h => absurd h List.not_mem_nil, lb_c12⟩
  | 13, _ => exact ⟨[mm_49], List.forall_mem_cons.mpr ⟨mm_49_ok, fun _ h => absurd h List.not_mem_nil⟩, lb_c13⟩
  | 14, _ => exact ⟨[], fun _ h => absurd h List.not_mem_nil, lb_c14⟩
  | 15, _ => exact ⟨[mm_50], List.forall_mem_cons.mpr ⟨mm_50_ok, fun _ h => absurd h List.not_mem_nil⟩, lb_c15⟩
  | 16, _ => exact ⟨[mm_51], List.forall_mem_cons.mpr ⟨mm_51_ok, fun _ h => absurd h List.not_mem_nil⟩, lb_c16⟩
  | 17, _ => exact ⟨[mm_52], List.forall_mem_cons.mpr ⟨mm_52_ok, fun _ h => absurd h List.not_mem_nil⟩, lb_c17⟩
  | 18, _ => exact ⟨[mm_53], List.forall_mem_cons.mpr ⟨mm_53_ok, fun _ h => absurd h List.not_mem_nil⟩, lb_c18⟩
  | 19, _ => exact ⟨[mm_54, mm_55, mm_56], List.forall_mem_cons.mpr ⟨mm_54_ok, List.forall_mem_cons.mpr ⟨mm_55_ok, List.forall_mem_cons.mpr ⟨mm_56_ok, fun _ h => absurd h List.not_mem_nil⟩⟩⟩, lb_c19⟩
  | 20, _ => exact ⟨[mm_57], List.forall_mem_cons.mpr ⟨mm_57_ok, fun _ h => absurd h List.not_mem_nil⟩, lb_c20⟩
  | 21, _ => exact ⟨[mm_60], List.forall_mem_cons.mpr ⟨mm_60_ok, fun _ h => absurd h List.not_mem_nil⟩, lb_c21⟩
  | 22, _ => exact ⟨[mm_63], List.forall_mem_cons.mpr ⟨mm_63_ok, fun _ h => absurd h List.not_mem_nil⟩, lb_c22⟩
  | 23, _ => exact ⟨[mm_76], List.forall_mem_cons.mpr ⟨mm_76_ok, fun _ h => absurd h List.not_mem_nil⟩, lb_c23⟩
  | 24, _ => exact ⟨[mm_89], List.forall_mem_cons.mpr ⟨mm_89_ok, fun _ h => absurd h List.not_mem_nil⟩, lb_c24⟩
  | 25, _ => exact ⟨[], fun _ h => absurd h List.not_mem_nil, lb_c25⟩
  | 26, _ => exact ⟨[], fun _ h => absurd h List.not_mem_nil, lb_c26⟩
  | 27, _ => exact ⟨[], fun _ h => absurd h List.not_mem_nil, lb_c27⟩
  | 28, _ => exact ⟨[], fun _ h => absurd h List.not_mem_nil, lb_c28⟩
  | 29, _ => exact ⟨[], fun _ h => absurd h List.not_mem_nil, lb_c29⟩
  | 30, _ => exact ⟨[mm_90], List.forall_mem_cons.mpr ⟨mm_90_ok, fun _ h => absurd h List.not_mem_nil⟩, lb_c30⟩
  | 31, _ => exact ⟨[mm_91], List.forall_mem_cons.mpr ⟨mm_91_ok, fun _ h => absurd h List.not_mem_nil⟩, lb_c31⟩
  | 32, _ => exact ⟨[mm_92], List.forall_mem_cons.mpr ⟨mm_92_ok, fun _ h => absurd h List.not_mem_nil⟩, lb_c32⟩
  | 33, _ => exact ⟨[], fun _ h => absurd h List.not_mem_nil, lb_c33⟩
  | 34, _ => exact ⟨[], fun _ h => absurd h List.not_mem_nil, lb_c34⟩
  | 35, _ => exact ⟨[mm_98], List.forall_mem_cons.mpr ⟨mm_98_ok, fun _ h => absurd h List.not_mem_nil⟩, lb_c35⟩
  | 36, _ => exact ⟨[], fun _ h => absurd h List.not_mem_nil, lb_c36⟩
  | 37, _ => exact ⟨[], fun _ h => absurd h List.not_mem_nil, lb_c37⟩
  | j + 38, hj => exact absurd hj (by omega)
