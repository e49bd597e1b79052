/-! every case -/
theorem lb_all : ∀ j : Nat, j < 38 → ∀ cs ∈ lb_R j, ∃ ms : List mm_e, (∀ e ∈ ms, mm_ok e) ∧ lb_case ms j cs = true := by
  intro j hj cs hcs
  match j, hj with
  | 0, _ =>
    have hcs : cs ∈ ([[]] : List (List (Nat × Int × Int))) := hcs
    rcases List.mem_cons.mp hcs with rfl | hcs
    · exact ⟨[], fun _ h => absurd h List.not_mem_nil, lb_c0_0⟩
    cases hcs
  | 1, _ =>
    have hcs : cs ∈ ([[]] : List (List (Nat × Int × Int))) := hcs
    rcases List.mem_cons.mp hcs with rfl | hcs
    · exact ⟨[], fun _ h => absurd h List.not_mem_nil, lb_c1_0⟩
    cases hcs
  | 2, _ =>
    have hcs : cs ∈ ([[]] : List (List (Nat × Int × Int))) := hcs
    rcases List.mem_cons.mp hcs with rfl | hcs
    · exact ⟨[], fun _ h => absurd h List.not_mem_nil, lb_c2_0⟩
    cases hcs
  | 3, _ =>
    have hcs : cs ∈ ([[]] : List (List (Nat × Int × Int))) := hcs
    rcases List.mem_cons.mp hcs with rfl | hcs
    · exact ⟨[mm_6, mm_16], List.forall_mem_cons.mpr ⟨mm_6_ok, List.forall_mem_cons.mpr ⟨mm_16_ok, fun _ h => absurd h List.not_mem_nil⟩⟩, lb_c3_0⟩
    cases hcs
  | 4, _ =>
    have hcs : cs ∈ ([[]] : List (List (Nat × Int × Int))) := hcs
    rcases List.mem_cons.mp hcs with rfl | hcs
    · exact ⟨[], fun _ h => absurd h List.not_mem_nil, lb_c4_0⟩
    cases hcs
  | 5, _ =>
    have hcs : cs ∈ ([[]] : List (List (Nat × Int × Int))) := hcs
    rcases List.mem_cons.mp hcs with rfl | hcs
    · exact ⟨[], fun _ h => absurd h List.not_mem_nil, lb_c5_0⟩
    cases hcs
  | 6, _ =>
    have hcs : cs ∈ ([[]] : List (List (Nat × Int × Int))) := hcs
    rcases List.mem_cons.mp hcs with rfl | hcs
    · exact ⟨[], fun _ h => absurd h List.not_mem_nil, lb_c6_0⟩
    cases hcs
  | 7, _ =>
    have hcs : cs ∈ ([[]] : List (List (Nat × Int × Int))) := hcs
    rcases List.mem_cons.mp hcs with rfl | hcs
    · exact ⟨[], fun _ h => absurd h List.not_mem_nil, lb_c7_0⟩
    cases hcs
  | 8, _ =>
    have hcs : cs ∈ ([[]] : List (List (Nat × Int × Int))) := hcs
    rcases List.mem_cons.mp hcs with rfl | hcs
    · exact ⟨[mm_17], List.forall_mem_cons.mpr ⟨mm_17_ok, fun _ h => absurd h List.not_mem_nil⟩, lb_c8_0⟩
    cases hcs
  | 9, _ =>
    have hcs : cs ∈ ([[]] : List (List (Nat × Int × Int))) := hcs
    rcases List.mem_cons.mp hcs with rfl | hcs
    · exact ⟨[], fun _ h => absurd h List.not_mem_nil, lb_c9_0⟩
    cases hcs
  | 10, _ =>
    have hcs : cs ∈ ([[]] : List (List (Nat × Int × Int))) := hcs
    rcases List.mem_cons.mp hcs with rfl | hcs
    · exact ⟨[], fun _ h => absurd h List.not_mem_nil, lb_c10_0⟩
    cases hcs
  | 11, _ =>
    have hcs : cs ∈ ([[]] : List (List (Nat × Int × Int))) := hcs
    rcases List.mem_cons.mp hcs with rfl | hcs
    · exact ⟨[], fun _ h => absurd h List.not_mem_nil, lb_c11_0⟩
    cases hcs
  | 12, _ =>
    have hcs : cs ∈ ([[]] : List (List (Nat × Int × Int))) := hcs
    rcases List.mem_cons.mp hcs with rfl | hcs
    · exact ⟨[], fun _ h => absurd h List.not_mem_nil, lb_c12_0⟩
    cases hcs
  | 13, _ =>
    have hcs : cs ∈ ([[]] : List (List (Nat × Int × Int))) := hcs
    rcases List.mem_cons.mp hcs with rfl | hcs
    · exact ⟨[], fun _ h => absurd h List.not_mem_nil, lb_c13_0⟩
    cases hcs
  | 14, _ =>
    have hcs : cs ∈ ([[]] : List (List (Nat × Int × Int))) := hcs
    rcases List.mem_cons.mp hcs with rfl | hcs
    · exact ⟨[], fun _ h => absurd h List.not_mem_nil, lb_c14_0⟩
    cases hcs
  | 15, _ =>
    have hcs : cs ∈ ([[]] : List (List (Nat × Int × Int))) := hcs
    rcases List.mem_cons.mp hcs with rfl | hcs
    · exact ⟨[mm_18], List.forall_mem_cons.mpr ⟨mm_18_ok, fun _ h => absurd h List.not_mem_nil⟩, lb_c15_0⟩
    cases hcs
  | 16, _ =>
    have hcs : cs ∈ ([[]] : List (List (Nat × Int × Int))) := hcs
    rcases List.mem_cons.mp hcs with rfl | hcs
    · exact ⟨[mm_19], List.forall_mem_cons.mpr ⟨mm_19_ok, fun _ h => absurd h List.not_mem_nil⟩, lb_c16_0⟩
    cases hcs
  | 17, _ =>
    have hcs : cs ∈ ([[]] : List (List (Nat × Int × Int))) := hcs
    rcases List.mem_cons.mp hcs with rfl | hcs
    · exact ⟨[mm_20], List.forall_mem_cons.mpr ⟨mm_20_ok, fun _ h => absurd h List.not_mem_nil⟩, lb_c17_0⟩
    cases hcs
  | 18, _ =>
    have hcs : cs ∈ ([[]] : List (List (Nat × Int × Int))) := hcs
    rcases List.mem_cons.mp hcs with rfl | hcs
    · exact ⟨[mm_21], List.forall_mem_cons.mpr ⟨mm_21_ok, fun _ h => absurd h List.not_mem_nil⟩, lb_c18_0⟩
    cases hcs
  | 19, _ =>
    have hcs : cs ∈ ([[]] : List (List (Nat × Int × Int))) := hcs
    rcases List.mem_cons.mp hcs with rfl | hcs
    · exact ⟨[mm_22, mm_25], List.forall_mem_cons.mpr ⟨mm_22_ok, List.forall_mem_cons.mpr ⟨mm_25_ok, fun _ h => absurd h List.not_mem_nil⟩⟩, lb_c19_0⟩
    cases hcs
  | 20, _ =>
    have hcs : cs ∈ ([[]] : List (List (Nat × Int × Int))) := hcs
    rcases List.mem_cons.mp hcs with rfl | hcs
    · exact ⟨[mm_26], List.forall_mem_cons.mpr ⟨mm_26_ok, fun _ h => absurd h List.not_mem_nil⟩, lb_c20_0⟩
    cases hcs
  | 21, _ =>
    have hcs : cs ∈ ([[]] : List (List (Nat × Int × Int))) := hcs
    rcases List.mem_cons.mp hcs with rfl | hcs
    · exact ⟨[mm_30], List.forall_mem_cons.mpr ⟨mm_30_ok, fun _ h => absurd h List.not_mem_nil⟩, lb_c21_0⟩
    cases hcs
  | 22, _ =>
    have hcs : cs ∈ ([[]] : List (List (Nat × Int × Int))) := hcs
    rcases List.mem_cons.mp hcs with rfl | hcs
    · exact ⟨[mm_31, mm_32, mm_33], List.forall_mem_cons.mpr ⟨mm_31_ok, List.forall_mem_cons.mpr ⟨mm_32_ok, List.forall_mem_cons.mpr ⟨mm_33_ok, fun _ h => absurd h List.not_mem_nil⟩⟩⟩, lb_c22_0⟩
    cases hcs
  | 23, _ =>
    have hcs : cs ∈ ([[]] : List (List (Nat × Int × Int))) := hcs
    rcases List.mem_cons.mp hcs with rfl | hcs
    · exact ⟨[mm_34], List.forall_mem_cons.mpr ⟨mm_34_ok, fun _ h => absurd h List.not_mem_nil⟩, lb_c23_0⟩
    cases hcs
  | 24, _ =>
    have hcs : cs ∈ ([[]] : List (List (Nat × Int × Int))) := hcs
    rcases List.mem_cons.mp hcs with rfl | hcs
    · exact ⟨[mm_35], List.forall_mem_cons.mpr ⟨mm_35_ok, fun _ h => absurd h List.not_mem_nil⟩, lb_c24_0⟩
    cases hcs
  | 25, _ =>
    have hcs : cs ∈ ([[]] : List (List (Nat × Int × Int))) := hcs
    rcases List.mem_cons.mp hcs with rfl | hcs
    · exact ⟨[], fun _ h => absurd h List.not_mem_nil, lb_c25_0⟩
    cases hcs
  | 26, _ =>
    have hcs : cs ∈ ([[]] : List (List (Nat × Int × Int))) := hcs
    rcases List.mem_cons.mp hcs with rfl | hcs
    · exact ⟨[], fun _ h => absurd h List.not_mem_nil, lb_c26_0⟩
    cases hcs
  | 27, _ =>
    have hcs : cs ∈ ([[]] : List (List (Nat × Int × Int))) := hcs
    rcases List.mem_cons.mp hcs with rfl | hcs
    · exact ⟨[], fun _ h => absurd h List.not_mem_nil, lb_c27_0⟩
    cases hcs
  | 28, _ =>
    have hcs : cs ∈ ([[]] : List (List (Nat × Int × Int))) := hcs
    rcases List.mem_cons.mp hcs with rfl | hcs
    · exact ⟨[mm_36], List.forall_mem_cons.mpr ⟨mm_36_ok, fun _ h => absurd h List.not_mem_nil⟩, lb_c28_0⟩
    cases hcs
  | 29, _ =>
    have hcs : cs ∈ ([[]] : List (List (Nat × Int × Int))) := hcs
    rcases List.mem_cons.mp hcs with rfl | hcs
    · exact ⟨[mm_37], List.forall_mem_cons.mpr ⟨mm_37_ok, fun _ h => absurd h List.not_mem_nil⟩, lb_c29_0⟩
    cases hcs
  | 30, _ =>
    have hcs : cs ∈ ([[]] : List (List (Nat × Int × Int))) := hcs
    rcases List.mem_cons.mp hcs with rfl | hcs
    · exact ⟨[mm_38], List.forall_mem_cons.mpr ⟨mm_38_ok, fun _ h => absurd h List.not_mem_nil⟩, lb_c30_0⟩
    cases hcs
  | 31, _ =>
    have hcs : cs ∈ ([[]] : List (List (Nat × Int × Int))) := hcs
    rcases List.mem_cons.mp hcs with rfl | hcs
    · exact ⟨[mm_39], List.forall_mem_cons.mpr ⟨mm_39_ok, fun _ h => absurd h List.not_mem_nil⟩, lb_c31_0⟩
    cases hcs
  | 32, _ =>
    have hcs : cs ∈ ([[]] : List (List (Nat × Int × Int))) := hcs
    rcases List.mem_cons.mp hcs with rfl | hcs
    · exact ⟨[mm_40], List.forall_mem_cons.mpr ⟨mm_40_ok, fun _ h => absurd h List.not_mem_nil⟩, lb_c32_0⟩
    cases hcs
  | 33, _ =>
    have hcs : cs ∈ ([[]] : List (List (Nat × Int × Int))) := hcs
    rcases List.mem_cons.mp hcs with rfl | hcs
    · exact ⟨[mm_41], List.forall_mem_cons.mpr ⟨mm_41_ok, fun _ h => absurd h List.not_mem_nil⟩, lb_c33_0⟩
    cases hcs
  | 34, _ =>
    have hcs : cs ∈ ([[(4, (-2147483648), (-1))], [(4, 4, 2147483647)], [(4, 0, 0), (12, (-1), (-1)), (16, (-4), (-4))], [(4, 0, 0), (12, 0, 2), (16, 0, 2)], [(4, 1, 1), (13, (-1), (-1)), (17, (-4), (-4))], [(4, 1, 1), (13, 0, 2), (17, 0, 2)], [(4, 2, 2), (14, (-1), (-1)), (18, (-4), (-4))], [(4, 2, 2), (14, 0, 2), (18, 0, 2)], [(4, 3, 3), (15, (-1), (-1)), (19, (-4), (-4))], [(4, 3, 3), (15, 0, 2), (19, 0, 2)]] : List (List (Nat × Int × Int))) := hcs
    rcases List.mem_cons.mp hcs with rfl | hcs
    · exact ⟨[], fun _ h => absurd h List.not_mem_nil, lb_c34_0⟩
    rcases List.mem_cons.mp hcs with rfl | hcs
    · exact ⟨[], fun _ h => absurd h List.not_mem_nil, lb_c34_1⟩
    rcases List.mem_cons.mp hcs with rfl | hcs
    · exact ⟨[], fun _ h => absurd h List.not_mem_nil, lb_c34_2⟩
    rcases List.mem_cons.mp hcs with rfl | hcs
    · exact ⟨[], fun _ h => absurd h List.not_mem_nil, lb_c34_3⟩
    rcases List.mem_cons.mp hcs with rfl | hcs
    · exact ⟨[], fun _ h => absurd h List.not_mem_nil, lb_c34_4⟩
    rcases List.mem_cons.mp hcs with rfl | hcs
    · exact ⟨[], fun _ h => absurd h List.not_mem_nil, lb_c34_5⟩
    rcases List.mem_cons.mp hcs with rfl | hcs
    · exact ⟨[], fun _ h => absurd h List.not_mem_nil, lb_c34_6⟩
    rcases List.mem_cons.mp hcs with rfl | hcs
    · exact ⟨[], fun _ h => absurd h List.not_mem_nil, lb_c34_7⟩
    rcases List.mem_cons.mp hcs with rfl | hcs
    · exact ⟨[], fun _ h => absurd h List.not_mem_nil, lb_c34_8⟩
    rcases List.mem_cons.mp hcs with rfl | hcs
    · exact ⟨[], fun _ h => absurd h List.not_mem_nil, lb_c34_9⟩
    cases hcs
  | 35, _ =>
    have hcs : cs ∈ ([[]] : List (List (Nat × Int × Int))) := hcs
    rcases List.mem_cons.mp hcs with rfl | hcs
    · exact ⟨[mm_42, mm_43, mm_48], List.forall_mem_cons.mpr ⟨mm_42_ok, List.forall_mem_cons.mpr ⟨mm_43_ok, List.forall_mem_cons.mpr ⟨mm_48_ok, fun _ h => absurd h List.not_mem_nil⟩⟩⟩, lb_c35_0⟩
    cases hcs
  | 36, _ =>
    have hcs : cs ∈ ([[]] : List (List (Nat × Int × Int))) := hcs
    rcases List.mem_cons.mp hcs with rfl | hcs
    · exact ⟨[], fun _ h => absurd h List.not_mem_nil, lb_c36_0⟩
    cases hcs
  | 37, _ =>
    have hcs : cs ∈ ([[]] : List (List (Nat × Int × Int))) := hcs
    rcases List.mem_cons.mp hcs with rfl | hcs
    · exact ⟨[], fun _ h => absurd h List.not_mem_nil, lb_c37_0⟩
    cases hcs
  | j + 38, hj => exact absurd hj (by omega)
