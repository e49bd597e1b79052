/-! every case -/
theorem lb_all : ∀ j : Nat, j < 38 → ∃ ms : List mm_e, (∀ e ∈ ms, mm_ok e) ∧ lb_case ms j = true := by
  intro j hj
  match j, hj with
  | 0, _ => exact ⟨[], fun _ h => absurd h List.not_mem_nil, lb_c0⟩
  | 1, _ => exact ⟨[], fun _ h => absurd h List.not_mem_nil, lb_c1⟩
  | 2, _ => exact ⟨[], fun _ h => absurd h List.not_mem_nil, lb_c2⟩
  | 3, _ => exact ⟨[mm_6, mm_67], List.forall_mem_cons.mpr ⟨mm_6_ok, List.forall_mem_cons.mpr ⟨mm_67_ok, fun _ h => absurd h List.not_mem_nil⟩⟩, lb_c3⟩
  | 4, _ => exact ⟨[], fun _ h => absurd h List.not_mem_nil, lb_c4⟩
  | 5, _ => exact ⟨[], fun _ h => absurd h List.not_mem_nil, lb_c5⟩
  | 6, _ => exact ⟨[], fun _ h => absurd h List.not_mem_nil, lb_c6⟩
  | 7, _ => exact ⟨[], fun _ h => absurd h List.not_mem_nil, lb_c7⟩
  | 8, _ => exact ⟨[mm_68], List.forall_mem_cons.mpr ⟨mm_68_ok, fun _ h => absurd h List.not_mem_nil⟩, lb_c8⟩
  | 9, _ => exact ⟨[], fun _ h => absurd h List.not_mem_nil, lb_c9⟩
  | 10, _ => exact ⟨[], fun _ h => absurd h List.not_mem_nil, lb_c10⟩
  | 11, _ => exact ⟨[], fun _ h => absurd h List.not_mem_nil, lb_c11⟩
  | 12, _ => exact ⟨[], fun _ h => absurd h List.not_mem_nil, lb_c12⟩
  | 13, _ => exact ⟨[mm_69], List.forall_mem_cons.mpr ⟨mm_69_ok, fun _ h => absurd h List.not_mem_nil⟩, lb_c13⟩
  | 14, _ => exact ⟨[], fun _ h => absurd h List.not_mem_nil, lb_c14⟩
  | 15, _ => exact ⟨[mm_71], List.forall_mem_cons.mpr ⟨mm_71_ok, fun _ h => absurd h List.not_mem_nil⟩, lb_c15⟩
  | 16, _ => exact ⟨[mm_73], List.forall_mem_cons.mpr ⟨mm_73_ok, fun _ h => absurd h List.not_mem_nil⟩, lb_c16⟩
  | 17, _ => exact ⟨[mm_75], List.forall_mem_cons.mpr ⟨mm_75_ok, fun _ h => absurd h List.not_mem_nil⟩, lb_c17⟩
  | 18, _ => exact ⟨[mm_77], List.forall_mem_cons.mpr ⟨mm_77_ok, fun _ h => absurd h List.not_mem_nil⟩, lb_c18⟩
  | 19, _ => exact ⟨[mm_83], List.forall_mem_cons.mpr ⟨mm_83_ok, fun _ h => absurd h List.not_mem_nil⟩, lb_c19⟩
  | 20, _ => exact ⟨[mm_85], List.forall_mem_cons.mpr ⟨mm_85_ok, fun _ h => absurd h List.not_mem_nil⟩, lb_c20⟩
  | 21, _ => exact ⟨[mm_86, mm_87, mm_89], List.forall_mem_cons.mpr ⟨mm_86_ok, List.forall_mem_cons.mpr ⟨mm_87_ok, List.forall_mem_cons.mpr ⟨mm_89_ok, fun _ h => absurd h List.not_mem_nil⟩⟩⟩, lb_c21⟩
  | 22, _ => exact ⟨[mm_90, mm_91, mm_93], List.forall_mem_cons.mpr ⟨mm_90_ok, List.forall_mem_cons.mpr ⟨mm_91_ok, List.forall_mem_cons.mpr ⟨mm_93_ok, fun _ h => absurd h List.not_mem_nil⟩⟩⟩, lb_c22⟩
  | 23, _ => exact ⟨[mm_110], List.forall_mem_cons.mpr ⟨mm_110_ok, fun _ h => absurd h List.not_mem_nil⟩, lb_c23⟩
  | 24, _ => exact ⟨[mm_127], List.forall_mem_cons.mpr ⟨mm_127_ok, fun _ h => absurd h List.not_mem_nil⟩, lb_c24⟩
  | 25, _ => exact ⟨[], fun _ h => absurd h List.not_mem_nil, lb_c25⟩
  | 26, _ => exact ⟨[], fun _ h => absurd h List.not_mem_nil, lb_c26⟩
  | 27, _ => exact ⟨[], fun _ h => absurd h List.not_mem_nil, lb_c27⟩
  | 28, _ => exact ⟨[mm_128], List.forall_mem_cons.mpr ⟨mm_128_ok, fun _ h => absurd h List.not_mem_nil⟩, lb_c28⟩
  | 29, _ => exact ⟨[mm_129], List.forall_mem_cons.mpr ⟨mm_129_ok, fun _ h => absurd h List.not_mem_nil⟩, lb_c29⟩
  | 30, _ => exact ⟨[mm_131], List.forall_mem_cons.mpr ⟨mm_131_ok, fun _ h => absurd h List.not_mem_nil⟩, lb_c30⟩
  | 31, _ => exact ⟨[mm_132], List.forall_mem_cons.mpr ⟨mm_132_ok, fun _ h => absurd h List.not_mem_nil⟩, lb_c31⟩
  | 32, _ => exact ⟨[mm_133], List.forall_mem_cons.mpr ⟨mm_133_ok, fun _ h => absurd h List.not_mem_nil⟩, lb_c32⟩
  | 33, _ => exact ⟨[], fun _ h => absurd h List.not_mem_nil, lb_c33⟩
  | 34, _ => exact ⟨[], fun _ h => absurd h List.not_mem_nil, lb_c34⟩
  | 35, _ => exact ⟨[mm_134, mm_135, mm_144], List.forall_mem_cons.mpr ⟨mm_134_ok, List.forall_mem_cons.mpr ⟨mm_135_ok, List.forall_mem_cons.mpr ⟨mm_144_ok, fun _ h => absurd h List.not_mem_nil⟩⟩⟩, lb_c35⟩
  | 36, _ => exact ⟨[], fun _ h => absurd h List.not_mem_nil, lb_c36⟩
  | 37, _ => exact ⟨[], fun _ h => absurd h List.not_mem_nil, lb_c37⟩
  | j + 38, hj => exact absurd hj (by omega)
