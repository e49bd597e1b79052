/-! a pull: what it does, as arithmetic; both sides' walks by their ends -/
def yl (k s p : Int) : Int := if k = 0 then s else if k = 1 then s / 2 else if k = 2 then s / 2 / 4 else max 0 (s - 2 * p)
theorem yl_eq (k s p : Int) : yl k s p = if k = 0 then s else if k = 1 then s / 2 else if k = 2 then s / 2 / 4 else max 0 (s - 2 * p) := rfl
/-- kind, size, moved, pulled, strength, laughs; then moved, pulled, laughs, strength, the answer -/
def pl_rel (k z m p s l v0 v1 v2 v3 w : Int) : Prop :=
  (1 ≤ s ∧ m < z ∧ v0 = min z (m + yl k s p) ∧ v1 = min 99 (p + 1) ∧ v2 = (if 2 * yl k s p < s then min 999 (l + 1) else l) ∧ v3 = s - 1 ∧ w = v0 - m) ∨ (¬ (1 ≤ s ∧ m < z) ∧ v0 = m ∧ v1 = p ∧ v2 = l ∧ v3 = s ∧ w = -2)
def vn (r : List Int) (v : ai_v) : Int := nm r v.2.1 + v.2.2.2
/-- off: the reference's strength is less by 10 -/
def pl_out (off : Int) (r : List Int) (s : sm_t) : Prop := match s.2.2.2.1, s.2.2.1 with
  | [v0, v1, v2, v3], [w] => pl_rel (nm r 2) (nm r 3) (nm r 4) (nm r 5) (nm r 6) (nm r 7) (vn r v0) (vn r v1) (vn r v2) (vn r v3 + off) (vn r w)
  | _, _ => False
def cp_S0 (t : Nat) : List sm_t := [
  (37, [], [(1, 0, 0, -2)], [(1, 4, 0, 0), (1, 5, 0, 0), (1, 7, 0, 0), (1, 6, 0, 0)], [(0, 0, false, 0, 0), (0, 2555, false, 1, 0), (0, 3, false, 2, 0), (1, 99, false, 3, 0), (0, 99, false, 4, 0), (0, 99, false, 5, 0), (0, 0, false, 6, 0), (0, 999, false, 7, 0), ((t : Int) + 1, 4, false, 8, 0)], []),
  (37, [], [(1, 16, 0, 0)], [(1, 13, 0, 0), (1, 14, 0, 99), (1, 7, 0, 0), (1, 6, 0, -1)], [(0, 0, false, 0, 0), (0, 2555, false, 1, 0), (3, 3, false, 2, 0), (1, 99, false, 3, 0), (0, 98, false, 4, 0), (0, 99, false, 5, 0), (1, 20, false, 6, 0), (0, 999, false, 7, 0), ((t : Int) + 1, 4, false, 8, 0), (0, 198, false, 9, 0), (-197, 20, false, 10, 0), (0, 20, false, 11, 0), (0, 118, false, 12, 0), (0, 99, false, 13, 0), (-98, 0, false, 14, 0), (1, 40, false, 15, 0), (-98, 99, false, 16, 0)], [(0, 13, 4, 16, 0), (5, 15, 6, 15, 0), (502, 11, 11, 15, 0), (141, 0, 5, 14, -98), (141, 3, 12, 13, 0), (1, 4, 11, 12, 0), (142, 0, 10, 11, 0), (0, 6, 9, 10, 0), (502, 5, 5, 9, 0), (4, 4, 3, 4, 0)]),
  (37, [], [(1, 17, 0, 0)], [(1, 13, 0, 0), (1, 14, 0, 99), (1, 16, 0, 999), (1, 6, 0, -1)], [(0, 0, false, 0, 0), (0, 2555, false, 1, 0), (3, 3, false, 2, 0), (1, 99, false, 3, 0), (0, 98, false, 4, 0), (0, 99, false, 5, 0), (1, 20, false, 6, 0), (0, 999, false, 7, 0), ((t : Int) + 1, 4, false, 8, 0), (0, 198, false, 9, 0), (-197, 20, false, 10, 0), (0, 20, false, 11, 0), (0, 118, false, 12, 0), (0, 99, false, 13, 0), (-98, 0, false, 14, 0), (0, 19, false, 15, 0), (-998, 0, false, 16, 0), (-98, 99, false, 17, 0)], [(0, 13, 4, 17, 0), (141, 0, 7, 16, -998), (4, 15, 6, 15, 0), (502, 11, 11, 15, 0), (141, 0, 5, 14, -98), (141, 3, 12, 13, 0), (1, 4, 11, 12, 0), (142, 0, 10, 11, 0), (0, 6, 9, 10, 0), (502, 5, 5, 9, 0), (4, 4, 3, 4, 0)]),
  (37, [], [(1, 13, 0, 0)], [(1, 10, 0, 0), (1, 11, 0, 99), (1, 7, 0, 0), (1, 6, 0, -1)], [(0, 0, false, 0, 0), (0, 2555, false, 1, 0), (0, 0, false, 2, 0), (1, 99, false, 3, 0), (0, 98, false, 4, 0), (0, 99, false, 5, 0), (1, 20, false, 6, 0), (0, 999, false, 7, 0), ((t : Int) + 1, 4, false, 8, 0), (1, 118, false, 9, 0), (1, 99, false, 10, 0), (-98, 0, false, 11, 0), (2, 40, false, 12, 0), (-97, 99, false, 13, 0)], [(0, 10, 4, 13, 0), (5, 12, 6, 12, 0), (502, 6, 6, 12, 0), (141, 0, 5, 11, -98), (141, 3, 9, 10, 0), (1, 4, 6, 9, 0), (4, 4, 3, 4, 0)]),
  (37, [], [(1, 14, 0, 0)], [(1, 10, 0, 0), (1, 11, 0, 99), (1, 13, 0, 999), (1, 6, 0, -1)], [(0, 0, false, 0, 0), (0, 2555, false, 1, 0), (0, 0, false, 2, 0), (1, 99, false, 3, 0), (0, 98, false, 4, 0), (0, 99, false, 5, 0), (3, 20, false, 6, 0), (0, 999, false, 7, 0), ((t : Int) + 1, 4, false, 8, 0), (1, 118, false, 9, 0), (1, 99, false, 10, 0), (-98, 0, false, 11, 0), (2, 19, false, 12, 0), (-998, 0, false, 13, 0), (-97, 99, false, 14, 0)], [(0, 10, 4, 14, 0), (141, 0, 7, 13, -998), (4, 12, 6, 12, 0), (502, 6, 6, 12, 0), (141, 0, 5, 11, -98), (141, 3, 9, 10, 0), (1, 4, 6, 9, 0), (4, 4, 3, 4, 0)]),
  (37, [], [(1, 14, 0, 0)], [(1, 11, 0, 0), (1, 12, 0, 99), (1, 7, 0, 0), (1, 6, 0, -1)], [(0, 0, false, 0, 0), (0, 2555, false, 1, 0), (1, 1, false, 2, 0), (1, 99, false, 3, 0), (0, 98, false, 4, 0), (0, 99, false, 5, 0), (1, 20, false, 6, 0), (0, 999, false, 7, 0), ((t : Int) + 1, 4, false, 8, 0), (0, 10, false, 9, 0), (0, 108, false, 10, 0), (0, 99, false, 11, 0), (-98, 0, false, 12, 0), (1, 20, false, 13, 0), (-98, 99, false, 14, 0)], [(0, 11, 4, 14, 0), (5, 13, 6, 13, 0), (502, 9, 9, 13, 0), (141, 0, 5, 12, -98), (141, 3, 10, 11, 0), (1, 4, 9, 10, 0), (152, 6, 6, 9, 0), (4, 4, 3, 4, 0)]),
  (37, [], [(1, 15, 0, 0)], [(1, 11, 0, 0), (1, 12, 0, 99), (1, 14, 0, 999), (1, 6, 0, -1)], [(0, 0, false, 0, 0), (0, 2555, false, 1, 0), (1, 1, false, 2, 0), (1, 99, false, 3, 0), (0, 98, false, 4, 0), (0, 99, false, 5, 0), (1, 20, false, 6, 0), (0, 999, false, 7, 0), ((t : Int) + 1, 4, false, 8, 0), (0, 10, false, 9, 0), (0, 108, false, 10, 0), (0, 99, false, 11, 0), (-98, 0, false, 12, 0), (0, 19, false, 13, 0), (-998, 0, false, 14, 0), (-98, 99, false, 15, 0)], [(0, 11, 4, 15, 0), (141, 0, 7, 14, -998), (4, 13, 6, 13, 0), (502, 9, 9, 13, 0), (141, 0, 5, 12, -98), (141, 3, 10, 11, 0), (1, 4, 9, 10, 0), (152, 6, 6, 9, 0), (4, 4, 3, 4, 0)]),
  (37, [], [(1, 15, 0, 0)], [(1, 12, 0, 0), (1, 13, 0, 99), (1, 7, 0, 0), (1, 6, 0, -1)], [(0, 0, false, 0, 0), (0, 2555, false, 1, 0), (2, 2, false, 2, 0), (1, 99, false, 3, 0), (0, 98, false, 4, 0), (0, 99, false, 5, 0), (1, 4, false, 6, 0), (0, 999, false, 7, 0), ((t : Int) + 1, 4, false, 8, 0), (0, 10, false, 9, 0), (0, 2, false, 10, 0), (0, 100, false, 11, 0), (0, 99, false, 12, 0), (-98, 0, false, 13, 0), (1, 4, false, 14, 0), (-98, 99, false, 15, 0)], [(0, 12, 4, 15, 0), (5, 14, 6, 14, 0), (502, 10, 10, 14, 0), (141, 0, 5, 13, -98), (141, 3, 11, 12, 0), (1, 4, 10, 11, 0), (154, 9, 9, 10, 0), (152, 6, 6, 9, 0), (4, 4, 3, 4, 0)]),
  (37, [], [(1, 16, 0, 0)], [(1, 12, 0, 0), (1, 13, 0, 99), (1, 15, 0, 999), (1, 6, 0, -1)], [(0, 0, false, 0, 0), (0, 2555, false, 1, 0), (2, 2, false, 2, 0), (1, 99, false, 3, 0), (0, 98, false, 4, 0), (0, 99, false, 5, 0), (1, 20, false, 6, 0), (0, 999, false, 7, 0), ((t : Int) + 1, 4, false, 8, 0), (0, 10, false, 9, 0), (0, 2, false, 10, 0), (0, 100, false, 11, 0), (0, 99, false, 12, 0), (-98, 0, false, 13, 0), (0, 4, false, 14, 0), (-998, 0, false, 15, 0), (-98, 99, false, 16, 0)], [(0, 12, 4, 16, 0), (141, 0, 7, 15, -998), (4, 14, 6, 14, 0), (502, 10, 10, 14, 0), (141, 0, 5, 13, -98), (141, 3, 11, 12, 0), (1, 4, 10, 11, 0), (154, 9, 9, 10, 0), (152, 6, 6, 9, 0), (4, 4, 3, 4, 0)]),
  (37, [], [(1, 0, 0, -2)], [(1, 4, 0, 0), (1, 5, 0, 0), (1, 7, 0, 0), (1, 6, 0, 0)], [(0, 0, false, 0, 0), (0, 2555, false, 1, 0), (0, 3, false, 2, 0), (1, 99, false, 3, 0), (1, 99, false, 4, 0), (0, 99, false, 5, 0), (1, 20, false, 6, 0), (0, 999, false, 7, 0), ((t : Int) + 1, 4, false, 8, 0)], [(5, 4, 3, 4, 0)])]
def cp_S (t : Nat) : List sm_t := cp_S0 t
set_option maxHeartbeats 4000000 in
theorem cp_core0 {t : Nat} {s : sm_t} (hs : s ∈ cp_S0 t) {r : List Int} (hb : bnd_b r 0 s.2.2.2.2.1) (hl : lin_b r s.2.2.2.2.2) (hmz : nm r 4 ≤ nm r 3) (h0 : nm r 0 = 0) : pl_out 0 r s := by
  unfold cp_S0 at hs
  rcases List.mem_cons.mp hs with rfl | hs
  · simp (config := { decide := true }) only [bnd_b, lin_b, lin_q, Nat.reduceAdd, Nat.zero_add, Nat.reduceEqDiff, reduceIte, and_true, Int.add_zero] at hb hl
    unfold pl_out vn
    have hy := yl_eq (nm r 2) (nm r 6) (nm r 5)
    show pl_rel _ _ _ _ _ _ _ _ _ _ _
    unfold pl_rel
    generalize yl (nm r 2) (nm r 6) (nm r 5) = y at hy ⊢
    dsimp only
    exact Or.inr ⟨by omega, by omega, by omega, by omega, by omega, by omega⟩
  rcases List.mem_cons.mp hs with rfl | hs
  · simp (config := { decide := true }) only [bnd_b, lin_b, lin_q, Nat.reduceAdd, Nat.zero_add, Nat.reduceEqDiff, reduceIte, and_true, Int.add_zero] at hb hl
    unfold pl_out vn
    have hy := yl_eq (nm r 2) (nm r 6) (nm r 5)
    show pl_rel _ _ _ _ _ _ _ _ _ _ _
    unfold pl_rel
    generalize yl (nm r 2) (nm r 6) (nm r 5) = y at hy ⊢
    dsimp only
    exact Or.inl ⟨by omega, by omega, by omega, by omega, by omega, by omega, by omega⟩
  rcases List.mem_cons.mp hs with rfl | hs
  · simp (config := { decide := true }) only [bnd_b, lin_b, lin_q, Nat.reduceAdd, Nat.zero_add, Nat.reduceEqDiff, reduceIte, and_true, Int.add_zero] at hb hl
    unfold pl_out vn
    have hy := yl_eq (nm r 2) (nm r 6) (nm r 5)
    show pl_rel _ _ _ _ _ _ _ _ _ _ _
    unfold pl_rel
    generalize yl (nm r 2) (nm r 6) (nm r 5) = y at hy ⊢
    dsimp only
    exact Or.inl ⟨by omega, by omega, by omega, by omega, by omega, by omega, by omega⟩
  rcases List.mem_cons.mp hs with rfl | hs
  · simp (config := { decide := true }) only [bnd_b, lin_b, lin_q, Nat.reduceAdd, Nat.zero_add, Nat.reduceEqDiff, reduceIte, and_true, Int.add_zero] at hb hl
    unfold pl_out vn
    have hy := yl_eq (nm r 2) (nm r 6) (nm r 5)
    show pl_rel _ _ _ _ _ _ _ _ _ _ _
    unfold pl_rel
    generalize yl (nm r 2) (nm r 6) (nm r 5) = y at hy ⊢
    dsimp only
    exact Or.inl ⟨by omega, by omega, by omega, by omega, by omega, by omega, by omega⟩
  rcases List.mem_cons.mp hs with rfl | hs
  · simp (config := { decide := true }) only [bnd_b, lin_b, lin_q, Nat.reduceAdd, Nat.zero_add, Nat.reduceEqDiff, reduceIte, and_true, Int.add_zero] at hb hl
    unfold pl_out vn
    have hy := yl_eq (nm r 2) (nm r 6) (nm r 5)
    show pl_rel _ _ _ _ _ _ _ _ _ _ _
    unfold pl_rel
    generalize yl (nm r 2) (nm r 6) (nm r 5) = y at hy ⊢
    dsimp only
    exact Or.inl ⟨by omega, by omega, by omega, by omega, by omega, by omega, by omega⟩
  rcases List.mem_cons.mp hs with rfl | hs
  · simp (config := { decide := true }) only [bnd_b, lin_b, lin_q, Nat.reduceAdd, Nat.zero_add, Nat.reduceEqDiff, reduceIte, and_true, Int.add_zero] at hb hl
    unfold pl_out vn
    have hy := yl_eq (nm r 2) (nm r 6) (nm r 5)
    show pl_rel _ _ _ _ _ _ _ _ _ _ _
    unfold pl_rel
    generalize yl (nm r 2) (nm r 6) (nm r 5) = y at hy ⊢
    dsimp only
    exact Or.inl ⟨by omega, by omega, by omega, by omega, by omega, by omega, by omega⟩
  rcases List.mem_cons.mp hs with rfl | hs
  · simp (config := { decide := true }) only [bnd_b, lin_b, lin_q, Nat.reduceAdd, Nat.zero_add, Nat.reduceEqDiff, reduceIte, and_true, Int.add_zero] at hb hl
    unfold pl_out vn
    have hy := yl_eq (nm r 2) (nm r 6) (nm r 5)
    show pl_rel _ _ _ _ _ _ _ _ _ _ _
    unfold pl_rel
    generalize yl (nm r 2) (nm r 6) (nm r 5) = y at hy ⊢
    dsimp only
    exact Or.inl ⟨by omega, by omega, by omega, by omega, by omega, by omega, by omega⟩
  rcases List.mem_cons.mp hs with rfl | hs
  · simp (config := { decide := true }) only [bnd_b, lin_b, lin_q, Nat.reduceAdd, Nat.zero_add, Nat.reduceEqDiff, reduceIte, and_true, Int.add_zero] at hb hl
    unfold pl_out vn
    have hy := yl_eq (nm r 2) (nm r 6) (nm r 5)
    show pl_rel _ _ _ _ _ _ _ _ _ _ _
    unfold pl_rel
    generalize yl (nm r 2) (nm r 6) (nm r 5) = y at hy ⊢
    dsimp only
    exact Or.inl ⟨by omega, by omega, by omega, by omega, by omega, by omega, by omega⟩
  rcases List.mem_cons.mp hs with rfl | hs
  · simp (config := { decide := true }) only [bnd_b, lin_b, lin_q, Nat.reduceAdd, Nat.zero_add, Nat.reduceEqDiff, reduceIte, and_true, Int.add_zero] at hb hl
    unfold pl_out vn
    have hy := yl_eq (nm r 2) (nm r 6) (nm r 5)
    show pl_rel _ _ _ _ _ _ _ _ _ _ _
    unfold pl_rel
    generalize yl (nm r 2) (nm r 6) (nm r 5) = y at hy ⊢
    dsimp only
    exact Or.inl ⟨by omega, by omega, by omega, by omega, by omega, by omega, by omega⟩
  rcases List.mem_cons.mp hs with rfl | hs
  · simp (config := { decide := true }) only [bnd_b, lin_b, lin_q, Nat.reduceAdd, Nat.zero_add, Nat.reduceEqDiff, reduceIte, and_true, Int.add_zero] at hb hl
    unfold pl_out vn
    have hy := yl_eq (nm r 2) (nm r 6) (nm r 5)
    show pl_rel _ _ _ _ _ _ _ _ _ _ _
    unfold pl_rel
    generalize yl (nm r 2) (nm r 6) (nm r 5) = y at hy ⊢
    dsimp only
    exact Or.inr ⟨by omega, by omega, by omega, by omega, by omega, by omega⟩
  · cases hs
theorem cp_core {t : Nat} {s : sm_t} (hs : s ∈ cp_S t) {r : List Int} (hb : bnd_b r 0 s.2.2.2.2.1) (hl : lin_b r s.2.2.2.2.2) (hmz : nm r 4 ≤ nm r 3) (h0 : nm r 0 = 0) : pl_out 0 r s := by
  unfold cp_S at hs
  exact cp_core0 hs hb hl hmz h0