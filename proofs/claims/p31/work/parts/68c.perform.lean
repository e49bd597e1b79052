/-! an act: what it makes of an evening; perform of the class's trial evening, actsOn of the reference's page 108 -/
def evR (E : Nat → Int) : Nat → Int := ev_up E 16 (min 20 (E 16 + 2))
def evA (E : Nat → Int) (act : Int) : Nat → Int := if act = 4 then evR E else ev_pl E act.toNat
def canB (E : Nat → Int) (act : Int) : Bool := decide (act = 4) || (decide (1 ≤ E 16) && decide (E (8 + act.toNat) < E (4 + act.toNat)))
theorem good_A {n : Nat} {E : Nat → Int} {act : Int} (hn : n ≤ 4) (hg : good n E) (ha : act = 4 ∨ (0 ≤ act ∧ act < n)) : good n (evA E act) := by
  unfold evA
  by_cases h : act = 4
  · rw [if_pos h]
    have := hg.2.1
    exact good_up hg hn (by omega)
  · rw [if_neg h]
    exact good_pl hn (by omega) hg
/-- kind, size, moved, pulled, strength, laughs; then moved, pulled, laughs, strength, whether it could be -/
def pf_r2 (k z m p s l v0 v1 v2 v3 w : Int) : Prop :=
  (1 ≤ s ∧ m < z ∧ v0 = min z (m + yl k s p) ∧ v1 = min 99 (p + 1) ∧ v2 = (if 2 * yl k s p < s then min 999 (l + 1) else l) ∧ v3 = s - 1 ∧ w = 1) ∨ (¬ (1 ≤ s ∧ m < z) ∧ v0 = m ∧ v1 = p ∧ v2 = l ∧ v3 = s ∧ w = 0)
def pf_o2 (r : List Int) (s : sm_t) : Prop := match s.2.2.2.1, s.2.2.1 with
  | [v0, v1, v2, v3], [w] => pf_r2 (nm r 2) (nm r 3) (nm r 4) (nm r 5) (nm r 6) (nm r 7) (vn r v0) (vn r v1) (vn r v2) (vn r v3) (vn r w)
  | _, _ => False
theorem pl_use2 {E : Nat → Int} {t : Nat} (ht : t < 4) {v0 v1 v2 v3 w : Int} (h : pf_r2 (E t) (E (4 + t)) (E (8 + t)) (E (12 + t)) (E 16) (E 17) v0 v1 v2 v3 w) : v0 = ev_pl E t (8 + t) ∧ v1 = ev_pl E t (12 + t) ∧ v2 = ev_pl E t 17 ∧ v3 = ev_pl E t 16 ∧ w = (if canB E t = true then 1 else 0) := by
  obtain ⟨a1, a2, a3, a4⟩ := ev_pull_at (E := E) ht
  have ht4 : ¬ ((t : Int) = 4) := by omega
  have htt : ((t : Int)).toNat = t := by omega
  unfold ev_pl canB
  rw [htt]
  rcases h with ⟨h1, h2, h3, h4, h5, h6, h7⟩ | ⟨h1, h2, h3, h4, h5, h6⟩
  · rw [if_pos ⟨h1, h2⟩, a1, a2, a3, a4]
    refine ⟨h3, h4, h5, h6, ?_⟩
    rw [h7, decide_eq_false ht4, decide_eq_true h1, decide_eq_true h2]
    rfl
  · rw [if_neg h1]
    refine ⟨h2, h3, h4, h5, ?_⟩
    rw [h6, decide_eq_false ht4]
    by_cases hs : 1 ≤ E 16
    · rw [decide_eq_true hs, decide_eq_false (by omega)]
      rfl
    · rw [decide_eq_false hs]
      rfl
def pf_S (t : Nat) : List sm_t := [
  (20, [], [(1, 0, 0, 0)], [(1, 4, 0, 0), (1, 5, 0, 0), (1, 7, 0, 0), (1, 6, 0, 0)], [(0, 0, false, 0, 0), (0, 2555, false, 1, 0), (0, 3, false, 2, 0), (1, 99, false, 3, 0), (0, 99, false, 4, 0), (0, 99, false, 5, 0), (0, 0, false, 6, 0), (0, 999, false, 7, 0), ((t : Int) + 1, 4, false, 8, 0)], []),
  (28, [], [(1, 0, 0, 1)], [(1, 13, 0, 0), (1, 14, 0, 99), (1, 7, 0, 0), (1, 6, 0, -1)], [(0, 0, false, 0, 0), (0, 2555, false, 1, 0), (3, 3, false, 2, 0), (1, 99, false, 3, 0), (0, 98, false, 4, 0), (0, 99, false, 5, 0), (1, 20, false, 6, 0), (0, 999, false, 7, 0), ((t : Int) + 1, 4, false, 8, 0), (0, 198, false, 9, 0), (-197, 20, false, 10, 0), (0, 20, false, 11, 0), (0, 118, false, 12, 0), (0, 99, false, 13, 0), (-98, 0, false, 14, 0), (1, 40, false, 15, 0), (-98, 99, false, 16, 0)], [(0, 13, 4, 16, 0), (5, 15, 6, 15, 0), (502, 11, 11, 15, 0), (141, 0, 5, 14, -98), (141, 3, 12, 13, 0), (1, 4, 11, 12, 0), (142, 0, 10, 11, 0), (0, 6, 9, 10, 0), (502, 5, 5, 9, 0), (4, 4, 3, 4, 0)]),
  (28, [], [(1, 0, 0, 1)], [(1, 13, 0, 0), (1, 14, 0, 99), (1, 16, 0, 999), (1, 6, 0, -1)], [(0, 0, false, 0, 0), (0, 2555, false, 1, 0), (3, 3, false, 2, 0), (1, 99, false, 3, 0), (0, 98, false, 4, 0), (0, 99, false, 5, 0), (1, 20, false, 6, 0), (0, 999, false, 7, 0), ((t : Int) + 1, 4, false, 8, 0), (0, 198, false, 9, 0), (-197, 20, false, 10, 0), (0, 20, false, 11, 0), (0, 118, false, 12, 0), (0, 99, false, 13, 0), (-98, 0, false, 14, 0), (0, 19, false, 15, 0), (-998, 0, false, 16, 0), (-98, 99, false, 17, 0)], [(0, 13, 4, 17, 0), (141, 0, 7, 16, -998), (4, 15, 6, 15, 0), (502, 11, 11, 15, 0), (141, 0, 5, 14, -98), (141, 3, 12, 13, 0), (1, 4, 11, 12, 0), (142, 0, 10, 11, 0), (0, 6, 9, 10, 0), (502, 5, 5, 9, 0), (4, 4, 3, 4, 0)]),
  (28, [], [(1, 0, 0, 1)], [(1, 10, 0, 0), (1, 11, 0, 99), (1, 7, 0, 0), (1, 6, 0, -1)], [(0, 0, false, 0, 0), (0, 2555, false, 1, 0), (0, 0, false, 2, 0), (1, 99, false, 3, 0), (0, 98, false, 4, 0), (0, 99, false, 5, 0), (1, 20, false, 6, 0), (0, 999, false, 7, 0), ((t : Int) + 1, 4, false, 8, 0), (1, 118, false, 9, 0), (1, 99, false, 10, 0), (-98, 0, false, 11, 0), (2, 40, false, 12, 0), (-97, 99, false, 13, 0)], [(0, 10, 4, 13, 0), (5, 12, 6, 12, 0), (502, 6, 6, 12, 0), (141, 0, 5, 11, -98), (141, 3, 9, 10, 0), (1, 4, 6, 9, 0), (4, 4, 3, 4, 0)]),
  (28, [], [(1, 0, 0, 1)], [(1, 10, 0, 0), (1, 11, 0, 99), (1, 13, 0, 999), (1, 6, 0, -1)], [(0, 0, false, 0, 0), (0, 2555, false, 1, 0), (0, 0, false, 2, 0), (1, 99, false, 3, 0), (0, 98, false, 4, 0), (0, 99, false, 5, 0), (3, 20, false, 6, 0), (0, 999, false, 7, 0), ((t : Int) + 1, 4, false, 8, 0), (1, 118, false, 9, 0), (1, 99, false, 10, 0), (-98, 0, false, 11, 0), (2, 19, false, 12, 0), (-998, 0, false, 13, 0), (-97, 99, false, 14, 0)], [(0, 10, 4, 14, 0), (141, 0, 7, 13, -998), (4, 12, 6, 12, 0), (502, 6, 6, 12, 0), (141, 0, 5, 11, -98), (141, 3, 9, 10, 0), (1, 4, 6, 9, 0), (4, 4, 3, 4, 0)]),
  (28, [], [(1, 0, 0, 1)], [(1, 11, 0, 0), (1, 12, 0, 99), (1, 7, 0, 0), (1, 6, 0, -1)], [(0, 0, false, 0, 0), (0, 2555, false, 1, 0), (1, 1, false, 2, 0), (1, 99, false, 3, 0), (0, 98, false, 4, 0), (0, 99, false, 5, 0), (1, 20, false, 6, 0), (0, 999, false, 7, 0), ((t : Int) + 1, 4, false, 8, 0), (0, 10, false, 9, 0), (0, 108, false, 10, 0), (0, 99, false, 11, 0), (-98, 0, false, 12, 0), (1, 20, false, 13, 0), (-98, 99, false, 14, 0)], [(0, 11, 4, 14, 0), (5, 13, 6, 13, 0), (502, 9, 9, 13, 0), (141, 0, 5, 12, -98), (141, 3, 10, 11, 0), (1, 4, 9, 10, 0), (152, 6, 6, 9, 0), (4, 4, 3, 4, 0)]),
  (28, [], [(1, 0, 0, 1)], [(1, 11, 0, 0), (1, 12, 0, 99), (1, 14, 0, 999), (1, 6, 0, -1)], [(0, 0, false, 0, 0), (0, 2555, false, 1, 0), (1, 1, false, 2, 0), (1, 99, false, 3, 0), (0, 98, false, 4, 0), (0, 99, false, 5, 0), (1, 20, false, 6, 0), (0, 999, false, 7, 0), ((t : Int) + 1, 4, false, 8, 0), (0, 10, false, 9, 0), (0, 108, false, 10, 0), (0, 99, false, 11, 0), (-98, 0, false, 12, 0), (0, 19, false, 13, 0), (-998, 0, false, 14, 0), (-98, 99, false, 15, 0)], [(0, 11, 4, 15, 0), (141, 0, 7, 14, -998), (4, 13, 6, 13, 0), (502, 9, 9, 13, 0), (141, 0, 5, 12, -98), (141, 3, 10, 11, 0), (1, 4, 9, 10, 0), (152, 6, 6, 9, 0), (4, 4, 3, 4, 0)]),
  (28, [], [(1, 0, 0, 1)], [(1, 12, 0, 0), (1, 13, 0, 99), (1, 7, 0, 0), (1, 6, 0, -1)], [(0, 0, false, 0, 0), (0, 2555, false, 1, 0), (2, 2, false, 2, 0), (1, 99, false, 3, 0), (0, 98, false, 4, 0), (0, 99, false, 5, 0), (1, 4, false, 6, 0), (0, 999, false, 7, 0), ((t : Int) + 1, 4, false, 8, 0), (0, 10, false, 9, 0), (0, 2, false, 10, 0), (0, 100, false, 11, 0), (0, 99, false, 12, 0), (-98, 0, false, 13, 0), (1, 4, false, 14, 0), (-98, 99, false, 15, 0)], [(0, 12, 4, 15, 0), (5, 14, 6, 14, 0), (502, 10, 10, 14, 0), (141, 0, 5, 13, -98), (141, 3, 11, 12, 0), (1, 4, 10, 11, 0), (154, 9, 9, 10, 0), (152, 6, 6, 9, 0), (4, 4, 3, 4, 0)]),
  (28, [], [(1, 0, 0, 1)], [(1, 12, 0, 0), (1, 13, 0, 99), (1, 15, 0, 999), (1, 6, 0, -1)], [(0, 0, false, 0, 0), (0, 2555, false, 1, 0), (2, 2, false, 2, 0), (1, 99, false, 3, 0), (0, 98, false, 4, 0), (0, 99, false, 5, 0), (1, 20, false, 6, 0), (0, 999, false, 7, 0), ((t : Int) + 1, 4, false, 8, 0), (0, 10, false, 9, 0), (0, 2, false, 10, 0), (0, 100, false, 11, 0), (0, 99, false, 12, 0), (-98, 0, false, 13, 0), (0, 4, false, 14, 0), (-998, 0, false, 15, 0), (-98, 99, false, 16, 0)], [(0, 12, 4, 16, 0), (141, 0, 7, 15, -998), (4, 14, 6, 14, 0), (502, 10, 10, 14, 0), (141, 0, 5, 13, -98), (141, 3, 11, 12, 0), (1, 4, 10, 11, 0), (154, 9, 9, 10, 0), (152, 6, 6, 9, 0), (4, 4, 3, 4, 0)]),
  (20, [], [(1, 0, 0, 0)], [(1, 4, 0, 0), (1, 5, 0, 0), (1, 7, 0, 0), (1, 6, 0, 0)], [(0, 0, false, 0, 0), (0, 2555, false, 1, 0), (0, 3, false, 2, 0), (1, 99, false, 3, 0), (1, 99, false, 4, 0), (0, 99, false, 5, 0), (1, 20, false, 6, 0), (0, 999, false, 7, 0), ((t : Int) + 1, 4, false, 8, 0)], [(5, 4, 3, 4, 0)])]
set_option maxHeartbeats 4000000 in
theorem pf_core {t : Nat} {s : sm_t} (hs : s ∈ pf_S t) {r : List Int} (hb : bnd_b r 0 s.2.2.2.2.1) (hl : lin_b r s.2.2.2.2.2) (hmz : nm r 4 ≤ nm r 3) (h0 : nm r 0 = 0) : pf_o2 r s := by
  unfold pf_S at hs
  rcases List.mem_cons.mp hs with rfl | hs
  · simp (config := { decide := true }) only [bnd_b, lin_b, lin_q, Nat.reduceAdd, Nat.zero_add, Nat.reduceEqDiff, reduceIte, and_true, Int.add_zero] at hb hl
    unfold pf_o2 vn
    have hy := yl_eq (nm r 2) (nm r 6) (nm r 5)
    show pf_r2 _ _ _ _ _ _ _ _ _ _ _
    unfold pf_r2
    generalize yl (nm r 2) (nm r 6) (nm r 5) = y at hy ⊢
    dsimp only
    exact Or.inr ⟨by omega, by omega, by omega, by omega, by omega, by omega⟩
  rcases List.mem_cons.mp hs with rfl | hs
  · simp (config := { decide := true }) only [bnd_b, lin_b, lin_q, Nat.reduceAdd, Nat.zero_add, Nat.reduceEqDiff, reduceIte, and_true, Int.add_zero] at hb hl
    unfold pf_o2 vn
    have hy := yl_eq (nm r 2) (nm r 6) (nm r 5)
    show pf_r2 _ _ _ _ _ _ _ _ _ _ _
    unfold pf_r2
    generalize yl (nm r 2) (nm r 6) (nm r 5) = y at hy ⊢
    dsimp only
    exact Or.inl ⟨by omega, by omega, by omega, by omega, by omega, by omega, by omega⟩
  rcases List.mem_cons.mp hs with rfl | hs
  · simp (config := { decide := true }) only [bnd_b, lin_b, lin_q, Nat.reduceAdd, Nat.zero_add, Nat.reduceEqDiff, reduceIte, and_true, Int.add_zero] at hb hl
    unfold pf_o2 vn
    have hy := yl_eq (nm r 2) (nm r 6) (nm r 5)
    show pf_r2 _ _ _ _ _ _ _ _ _ _ _
    unfold pf_r2
    generalize yl (nm r 2) (nm r 6) (nm r 5) = y at hy ⊢
    dsimp only
    exact Or.inl ⟨by omega, by omega, by omega, by omega, by omega, by omega, by omega⟩
  rcases List.mem_cons.mp hs with rfl | hs
  · simp (config := { decide := true }) only [bnd_b, lin_b, lin_q, Nat.reduceAdd, Nat.zero_add, Nat.reduceEqDiff, reduceIte, and_true, Int.add_zero] at hb hl
    unfold pf_o2 vn
    have hy := yl_eq (nm r 2) (nm r 6) (nm r 5)
    show pf_r2 _ _ _ _ _ _ _ _ _ _ _
    unfold pf_r2
    generalize yl (nm r 2) (nm r 6) (nm r 5) = y at hy ⊢
    dsimp only
    exact Or.inl ⟨by omega, by omega, by omega, by omega, by omega, by omega, by omega⟩
  rcases List.mem_cons.mp hs with rfl | hs
  · simp (config := { decide := true }) only [bnd_b, lin_b, lin_q, Nat.reduceAdd, Nat.zero_add, Nat.reduceEqDiff, reduceIte, and_true, Int.add_zero] at hb hl
    unfold pf_o2 vn
    have hy := yl_eq (nm r 2) (nm r 6) (nm r 5)
    show pf_r2 _ _ _ _ _ _ _ _ _ _ _
    unfold pf_r2
    generalize yl (nm r 2) (nm r 6) (nm r 5) = y at hy ⊢
    dsimp only
    exact Or.inl ⟨by omega, by omega, by omega, by omega, by omega, by omega, by omega⟩
  rcases List.mem_cons.mp hs with rfl | hs
  · simp (config := { decide := true }) only [bnd_b, lin_b, lin_q, Nat.reduceAdd, Nat.zero_add, Nat.reduceEqDiff, reduceIte, and_true, Int.add_zero] at hb hl
    unfold pf_o2 vn
    have hy := yl_eq (nm r 2) (nm r 6) (nm r 5)
    show pf_r2 _ _ _ _ _ _ _ _ _ _ _
    unfold pf_r2
    generalize yl (nm r 2) (nm r 6) (nm r 5) = y at hy ⊢
    dsimp only
    exact Or.inl ⟨by omega, by omega, by omega, by omega, by omega, by omega, by omega⟩
  rcases List.mem_cons.mp hs with rfl | hs
  · simp (config := { decide := true }) only [bnd_b, lin_b, lin_q, Nat.reduceAdd, Nat.zero_add, Nat.reduceEqDiff, reduceIte, and_true, Int.add_zero] at hb hl
    unfold pf_o2 vn
    have hy := yl_eq (nm r 2) (nm r 6) (nm r 5)
    show pf_r2 _ _ _ _ _ _ _ _ _ _ _
    unfold pf_r2
    generalize yl (nm r 2) (nm r 6) (nm r 5) = y at hy ⊢
    dsimp only
    exact Or.inl ⟨by omega, by omega, by omega, by omega, by omega, by omega, by omega⟩
  rcases List.mem_cons.mp hs with rfl | hs
  · simp (config := { decide := true }) only [bnd_b, lin_b, lin_q, Nat.reduceAdd, Nat.zero_add, Nat.reduceEqDiff, reduceIte, and_true, Int.add_zero] at hb hl
    unfold pf_o2 vn
    have hy := yl_eq (nm r 2) (nm r 6) (nm r 5)
    show pf_r2 _ _ _ _ _ _ _ _ _ _ _
    unfold pf_r2
    generalize yl (nm r 2) (nm r 6) (nm r 5) = y at hy ⊢
    dsimp only
    exact Or.inl ⟨by omega, by omega, by omega, by omega, by omega, by omega, by omega⟩
  rcases List.mem_cons.mp hs with rfl | hs
  · simp (config := { decide := true }) only [bnd_b, lin_b, lin_q, Nat.reduceAdd, Nat.zero_add, Nat.reduceEqDiff, reduceIte, and_true, Int.add_zero] at hb hl
    unfold pf_o2 vn
    have hy := yl_eq (nm r 2) (nm r 6) (nm r 5)
    show pf_r2 _ _ _ _ _ _ _ _ _ _ _
    unfold pf_r2
    generalize yl (nm r 2) (nm r 6) (nm r 5) = y at hy ⊢
    dsimp only
    exact Or.inl ⟨by omega, by omega, by omega, by omega, by omega, by omega, by omega⟩
  rcases List.mem_cons.mp hs with rfl | hs
  · simp (config := { decide := true }) only [bnd_b, lin_b, lin_q, Nat.reduceAdd, Nat.zero_add, Nat.reduceEqDiff, reduceIte, and_true, Int.add_zero] at hb hl
    unfold pf_o2 vn
    have hy := yl_eq (nm r 2) (nm r 6) (nm r 5)
    show pf_r2 _ _ _ _ _ _ _ _ _ _ _
    unfold pf_r2
    generalize yl (nm r 2) (nm r 6) (nm r 5) = y at hy ⊢
    dsimp only
    exact Or.inr ⟨by omega, by omega, by omega, by omega, by omega, by omega⟩
  cases hs
def pf_W : List (Nat × Nat × Nat) := [(7, 1, 3), (10, 0, 4), (11, 0, 4)]
def pf_Wt (t : Nat) : List (Nat × Nat × Nat) := [(7, 1, 3), (10, t, t + 1), (11, t, t + 1)]
def pf_kn (t : Nat) : List ai_k := [(8, t, (1, 2, 0, 0)), (9, t, (1, 3, 0, 0)), (10, t, (1, 4, 0, 0)), (11, t, (1, 5, 0, 0)), (7, 1, (1, 6, 0, 0)), (7, 2, (1, 7, 0, 0)), (7, 0, (1, 8, 0, 0))]
noncomputable def pf_r (t : Nat) : Bool := (ai_ex (hk (pf_Wt t)) 600 15 tb_m15 7 [] (0, [(0, (0, 7, 0, 0)), (1, (1, 0, 0, (t : Int)))], [], pl_en t, pf_kn t, [])).any fun xs => xs.all fun x => (pf_S t).any fun s => sm_is [(10, t), (11, t), (7, 2), (7, 1)] x s
theorem pf_ra : ((List.range 4).all pf_r) = true := by decide +kernel
theorem pf_4 : ((ai_ex (hk [(7, 1, 2)]) 100 15 tb_m15 7 [] (0, [(0, (0, 7, 0, 0)), (1, (1, 0, 0, 4))], [], [(0, 0, false, 0, 0), (0, 2555, false, 1, 0), (0, 20, false, 2, 0)], [(7, 1, (1, 2, 0, 0))], [])).any fun xs => xs.all fun x => ([(10, [], [(1, 0, 0, 1)], [(1, 3, 0, 20)], [(0, 0, false, 0, 0), (0, 2555, false, 1, 0), (0, 20, false, 2, 0), (-18, 0, false, 3, 0)], [(141, 0, 2, 3, -18)])] : List sm_t).any fun y => sm_is [(7, 1)] x y) = true := by decide +kernel
def pf_P (ad : List Nat) (tys : ai_ty) (n : Nat) (E : Nat → Int) (act : Int) (ws ws' : va_W) (z : Int32) : Prop := ai_wd tb_TY ad tys ws' ∧ ai_fr pf_W ws ws' ∧ cev ws' 7 n (evA E act) ∧ z.toInt = (if canB E act = true then 1 else 0)
section XPF
variable {ad : List Nat} {p : Program} {l : Launch} {e : Env} {R : Room} {s : State} {m : MethodId} {args : Array Value} {below : List Frame} {meth : Method} {c : Code} {D : va_G} {tys : ai_ty} {A : Nat → Prop} {b L : Nat} {sx : Nat → Int32} {cells slots : Nat} {Q : State → Prop}
theorem pf_all {a n : Nat} {E : Nat → Int} {act : Int} {za : Int32} {ws : va_W} (C : ai_cx tb_m15 7 p R s m args c D tys A b L sx cells slots) (ha : ad[7]? = some a) (hn : n ≤ 4) (hg : good n E) (hact : act = 4 ∨ (0 ≤ act ∧ act < n)) (hz : za.toInt = act) (hw : ai_wd tb_TY ad tys ws) (hv : vi ws 7 0 n) (hc : cev ws 7 n E)
    (kk : ∀ (pcr : Nat) (ws' : va_W) (z : Int32) (lv' : List (Nat × Value)), pcr ∈ [10, 20, 28] → pf_P ad tys n E act ws ws' z → hG tb_m15 p l e R s m args below meth c D A cells slots Q pcr lv' [.int z] ws') : hG tb_m15 p l e R s m args below meth c D A cells slots Q 0 [(0, .ref a), (1, .int za)] [] ws := by
  obtain ⟨b5, b6⟩ := hg.2
  by_cases h4 : act = 4
  · subst h4
    refine hsum (st := (0, [(0, (0, 7, 0, 0)), (1, (1, 0, 0, 4))], [], [(0, 0, false, 0, 0), (0, 2555, false, 1, 0), (0, 20, false, 2, 0)], [(7, 1, (1, 2, 0, 0))], [])) pf_4 rfl C (r := [0, 0, E 16]) ⟨en_mk (by simp only [en_b, and_true]; omega) rfl, sb0, ⟨rfl, Or.inl ⟨rfl, a, ha, rfl⟩, rfl, int_dv (z := 0) rfl (by omega), trivial⟩, trivial, hw, kc (hc.2.1.kn (n := 2) (t := E 16) rfl (by omega)) k0, fun _ _ _ _ h => h, fun h => by cases h⟩ (fun x hx r' lv' sk' ws1 hx' hb hl hs hlo hsk hw1 hv' hf1 _ => ?_)
    have hx9 := List.mem_singleton.mp hx
    subst hx9
    obtain ⟨z, rfl, hz'⟩ := sk1 rfl hsk
    rw [vn_at hx' (n := 0) (z := 0) rfl] at hz'
    obtain ⟨q1, -⟩ := hv'
    have m0 := nm_x hx' (k := 0) rfl
    have m2 := nm_x hx' (k := 2) rfl
    simp (config := { decide := true }) only [bnd_b, lin_b, lin_q, Nat.reduceAdd, Nat.zero_add, Nat.reduceEqDiff, reduceIte, and_true, Int.add_zero] at hb hl
    have q1' : vi ws1 7 1 (min 20 (E 16 + 2)) := q1.eq (by dsimp only; omega)
    have hf' : ai_fr pf_W ws ws1 := wsub_ok (by decide) hf1
    refine kk 10 ws1 z lv' (by decide) ⟨hw1, hf', ?_, ?_⟩
    · unfold evA
      rw [if_pos rfl]
      exact cev_up (j := 1) hn (Or.inl rfl) hc hf1 ⟨rfl, rfl, rfl, rfl⟩ rfl q1'
    · have e1 : canB E 4 = true := by
        unfold canB
        rw [decide_eq_true rfl]
        rfl
      rw [e1, if_pos rfl]
      omega
  · obtain ⟨t, ht⟩ : ∃ t : Nat, act = (t : Int) := ⟨act.toNat, by omega⟩
    subst ht
    have htn : t < n := by omega
    obtain ⟨v1, v2, v3, v4⟩ := hc.1 t htn
    obtain ⟨b1, b2, b3, b4⟩ := hg.1 t htn
    refine hsum (st := (0, [(0, (0, 7, 0, 0)), (1, (1, 0, 0, (t : Int)))], [], pl_en t, pf_kn t, [])) (List.all_eq_true.mp pf_ra t (List.mem_range.mpr (by omega))) rfl C (r := [0, 0, E t, E (4 + t), E (8 + t), E (12 + t), E 16, E 17, (n : Int)]) ⟨en_mk (by simp only [pl_en, en_b, and_true]; omega) rfl, sb0, ⟨rfl, Or.inl ⟨rfl, a, ha, rfl⟩, rfl, int_dv (z := 0) rfl (by omega), trivial⟩, trivial, hw, kc (v1.kn (n := 2) (t := E t) rfl (by omega)) (kc (v2.kn (n := 3) (t := E (4 + t)) rfl (by omega)) (kc (v3.kn (n := 4) (t := E (8 + t)) rfl (by omega)) (kc (v4.kn (n := 5) (t := E (12 + t)) rfl (by omega)) (kc (hc.2.1.kn (n := 6) (t := E 16) rfl (by omega)) (kc (hc.2.2.kn (n := 7) (t := E 17) rfl (by omega)) (kc (hv.kn (n := 8) (t := (n : Int)) rfl (by omega)) k0)))))), fun _ _ _ _ h => h, fun h => by cases h⟩ (fun x hx r' lv' sk' ws' hx' hb hl hs hlo hsk hw' hv' hf _ => ?_)
    have core := pf_core hx hb hl (by rw [nm_x hx' (k := 4) rfl, nm_x hx' (k := 3) rfl]; exact b3.2) (nm_x hx' (k := 0) rfl)
    have hpc : x.1 = 20 ∨ x.1 = 28 := by
      have := List.all_eq_true.mp (show ((pf_S t).all fun x => Nat.beq x.1 20 || Nat.beq x.1 28) = true by rfl) x hx
      rw [Bool.or_eq_true, ai_beq, ai_beq] at this
      exact this
    unfold pf_o2 at core
    split at core
    · rename_i w0 w1 w2 w3 w hvs hss
      rw [hvs] at hv'
      rw [hss] at hsk
      rw [nm_x hx' (k := 2) rfl, nm_x hx' (k := 3) rfl, nm_x hx' (k := 4) rfl, nm_x hx' (k := 5) rfl, nm_x hx' (k := 6) rfl, nm_x hx' (k := 7) rfl] at core
      obtain ⟨u0, u1, u2, u3, u4⟩ := pl_use2 (by omega) core
      obtain ⟨q0, q1, q2, q3, -⟩ := hv'
      have hw1 : w.1 = 1 := by
        have h1 := List.all_eq_true.mp (show ((pf_S t).all fun x => x.2.2.1.all fun v => Nat.beq v.1 1) = true by rfl) x hx
        rw [hss] at h1
        exact ai_beq.mp (List.all_eq_true.mp h1 w List.mem_cons_self)
      obtain ⟨i, rfl, hi⟩ := sk1 hw1 hsk
      have hfW : ai_fr pf_W ws ws' := fr_sub (fun cc j h q hq => by
        have h1 := h (7, 1, 3) (by unfold pf_W; simp)
        have h2 := h (10, 0, 4) (by unfold pf_W; simp)
        have h3 := h (11, 0, 4) (by unfold pf_W; simp)
        dsimp only at h1 h2 h3
        unfold pf_Wt at hq
        simp only [List.mem_cons, List.not_mem_nil, or_false] at hq
        rcases hq with rfl | rfl | rfl <;> dsimp only <;> omega) hf
      have hev : evA E (t : Int) = ev_pl E t := by
        unfold evA
        rw [if_neg h4]
        show ev_pl E ((t : Int)).toNat = ev_pl E t
        rw [show ((t : Int)).toNat = t by omega]
      have fin : pf_P ad tys n E (t : Int) ws ws' i := by
        refine ⟨hw', hfW, ?_, by rw [hi]; exact u4⟩
        rw [hev]
        refine cev_pl hn htn hc hf (fun i => nowr_ok (c := 7 + 1) rfl i i) (fun i => nowr_ok (c := 7 + 2) rfl i i) (fun i hit => wr_no fun q hq => ?_) (fun i hit => wr_no fun q hq => ?_) ?_ ?_ ?_ ?_
        · unfold pf_Wt at hq
          simp only [List.mem_cons, List.not_mem_nil, or_false] at hq
          rcases hq with rfl | rfl | rfl <;> dsimp only <;> omega
        · unfold pf_Wt at hq
          simp only [List.mem_cons, List.not_mem_nil, or_false] at hq
          rcases hq with rfl | rfl | rfl <;> dsimp only <;> omega
        · rw [← u0]; exact q0
        · rw [← u1]; exact q1
        · rw [← u3]; exact q3
        · rw [← u2]; exact q2
      rcases hpc with hpc | hpc
      · rw [hpc]
        exact kk 20 ws' i lv' (by decide) fin
      · rw [hpc]
        exact kk 28 ws' i lv' (by decide) fin
    · exact core.elim
end XPF
/-! actsOn on page 108 -/
def ma_W : List (Nat × Nat × Nat) := [(50, 108, 135)]
def ma_P (ad : List Nat) (tys : ai_ty) (n : Nat) (E : Nat → Int) (act : Int) (ws ws' : va_W) (z : Int32) : Prop := ai_wd tb_TY ad tys ws' ∧ ai_fr ma_W ws ws' ∧ pev ws' 108 n (evA E act) ∧ z.toInt = (if canB E act = true then 1 else 0)
def ma_en (m1 s1 s2 : Int) (t : Nat) : List ai_e := [(0, 0, false, 0, 0), (0, 2555, false, 1, 0), (1, 99, false, 2, 0), (m1, 99, false, 3, 0), (s1, s2, false, 4, 0), ((t : Int) + 1, 4, false, 5, 0)]
def ma_kn (t : Nat) : List ai_k := [(50, 112 + t, (1, 2, 0, 0)), (50, 116 + t, (1, 3, 0, 0)), (50, 124, (1, 4, 0, -10)), (49, 1, (1, 5, 0, 0))]
theorem ma_c : ((List.range 4).all fun t => (ai_ex (hk []) 200 130 tb_m130 7 [27] (0, [(0, (0, 49, 0, 0)), (1, (1, 0, 0, 108)), (2, (1, 0, 0, (t : Int)))], [], ma_en 0 0 20 t, ma_kn t, [(5, 2, 3, 2, 0)])).any fun xs => xs.all fun x => ([(22, [], [(1, 0, 0, 0)], [], ma_en 0 0 0 t, [(140, 3, 2, 3, 0), (5, 2, 3, 2, 0)]), (27, [], [(1, 0, 0, 0), (1, 0, 0, (t : Int)), (1, 0, 0, 108), (0, 49, 0, 0)], [], ma_en 0 1 20 t, [(140, 3, 2, 3, 0), (5, 2, 3, 2, 0)]), (22, [], [(1, 0, 0, 0)], [], ma_en 1 0 20 t, [(4, 3, 2, 3, 1), (5, 3, 2, 3, 0), (5, 2, 3, 2, 0)])] : List sm_t).any fun y => sm_is [] x y) = true := by decide +kernel
theorem ma_e : ((ai_ex (hk []) 20 130 tb_m130 7 [] (30, [], [(1, 2, 0, 0)], [(0, 0, false, 0, 0), (0, 2555, false, 1, 0), (0, 99, false, 2, 0)], [], [])).any fun xs => xs.all (s3_is 32 1)) = true := by decide +kernel
theorem ma_4 : ((ai_ex (hk [(50, 124, 125)]) 100 130 tb_m130 7 [] (0, [(0, (0, 49, 0, 0)), (1, (1, 0, 0, 108)), (2, (1, 0, 0, 4))], [], [(0, 0, false, 0, 0), (0, 2555, false, 1, 0), (0, 20, false, 2, 0)], [(50, 124, (1, 2, 0, -10))], [])).any fun xs => xs.all fun x => ([(11, [], [(1, 0, 0, 1)], [(1, 2, 0, -8)], [(0, 0, false, 0, 0), (0, 2555, false, 1, 0), (0, 18, false, 2, 0)], []), (11, [], [(1, 0, 0, 1)], [(1, 0, 0, 10)], [(0, 0, false, 0, 0), (0, 2555, false, 1, 0), (19, 20, false, 2, 0)], [])] : List sm_t).any fun y => sm_is [(50, 124)] x y) = true := by decide +kernel
theorem pev_upg {W : List (Nat × Nat × Nat)} {ws ws' : va_W} {n pg : Nat} {E : Nat → Int} {z : Int} (hn : n ≤ 4) (h : pev ws pg n E) (hf : ai_fr W ws ws') (hw : ∀ j, j < 18 → j ≠ 16 → ai_wr W 50 (j + pg) (j + pg) = false) (v : vi ws' 50 (16 + pg) (z - 10)) : pev ws' pg n (ev_up E 16 z) := by
  refine ⟨fun i hi => ?_, by rw [ev_up_at]; exact v, by rw [ev_up_ne (by decide)]; exact h.2.2.fr hf (hw 17 (by decide) (by decide))⟩
  obtain ⟨a1, a2, a3, a4⟩ := h.1 i hi
  rw [ev_up_ne (j := i) (by omega), ev_up_ne (j := 4 + i) (by omega), ev_up_ne (j := 8 + i) (by omega), ev_up_ne (j := 12 + i) (by omega)]
  exact ⟨a1.fr hf (hw i (by omega) (by omega)), a2.fr hf (hw (4 + i) (by omega) (by omega)), a3.fr hf (hw (8 + i) (by omega) (by omega)), a4.fr hf (hw (12 + i) (by omega) (by omega))⟩
section XMA
variable {ad : List Nat} {p : Program} {l : Launch} {e : Env} {R : Room} {s : State} {m : MethodId} {args : Array Value} {below : List Frame} {meth : Method} {c : Code} {D : va_G} {tys : ai_ty} {A : Nat → Prop} {b L : Nat} {sx : Nat → Int32} {cells slots : Nat} {Q : State → Prop}
theorem ma_all {a n : Nat} {E : Nat → Int} {act : Int} {zp za : Int32} {ws : va_W} (C : ai_cx tb_m130 7 p R s m args c D tys A b L sx cells slots) (ha : ad[49]? = some a) (hn : n ≤ 4) (hg : good n E) (hact : act = 4 ∨ (0 ≤ act ∧ act < n)) (hzp : zp.toInt = 108) (hz : za.toInt = act) (hw : ai_wd tb_TY ad tys ws) (hv : vi ws 49 1 n) (hc : pev ws 108 n E)
    (kk : ∀ (pcr : Nat) (ws' : va_W) (z : Int32) (lv' : List (Nat × Value)), pcr ∈ [11, 22, 32] → ma_P ad tys n E act ws ws' z → hG tb_m130 p l e R s m args below meth c D A cells slots Q pcr lv' [.int z] ws') : hG tb_m130 p l e R s m args below meth c D A cells slots Q 0 [(0, .ref a), (1, .int zp), (2, .int za)] [] ws := by
  obtain ⟨b5, b6⟩ := hg.2
  have n0 : ∀ {u v : va_W} {Wx : List (Nat × Nat × Nat)}, ai_fr [] u v → ai_fr Wx u v := fun h => wsub_ok (V := []) (by rfl) h
  by_cases h4 : act = 4
  · subst h4
    have rest : ∀ (ws1 : va_W) (z : Int32) (lv' : List (Nat × Value)), ai_wd tb_TY ad tys ws1 → ai_fr [(50, 124, 125)] ws ws1 → z.toInt = 1 → vi ws1 50 124 (min 20 (E 16 + 2) - 10) → hG tb_m130 p l e R s m args below meth c D A cells slots Q 11 lv' [.int z] ws1 := fun ws1 z lv' hw1 hf1 hz1 q1 => kk 11 ws1 z lv' (by decide) ⟨hw1, fr_sub (fun cc j h q hq => by
      have h1 := h (50, 108, 135) (by unfold ma_W; simp)
      dsimp only at h1
      rw [List.mem_singleton.mp hq]
      dsimp only
      omega) hf1, by
      unfold evA
      rw [if_pos rfl]
      exact pev_upg hn hc hf1 (fun j h1 h2 => wr_no fun q hq => by
        rw [List.mem_singleton.mp hq]
        dsimp only
        omega) q1, by
      have e1 : canB E 4 = true := by
        unfold canB
        rw [decide_eq_true rfl]
        rfl
      rw [e1, if_pos rfl]
      exact hz1⟩
    refine hsum (st := (0, [(0, (0, 49, 0, 0)), (1, (1, 0, 0, 108)), (2, (1, 0, 0, 4))], [], [(0, 0, false, 0, 0), (0, 2555, false, 1, 0), (0, 20, false, 2, 0)], [(50, 124, (1, 2, 0, -10))], [])) ma_4 rfl C (r := [0, 0, E 16]) ⟨en_mk (by simp only [en_b, and_true]; omega) rfl, sb0, ⟨rfl, Or.inl ⟨rfl, a, ha, rfl⟩, rfl, int_dv (z := 0) rfl (by omega), rfl, int_dv (z := 0) rfl (by omega), trivial⟩, trivial, hw, kc (hc.2.1.kn (n := 2) (t := E 16) rfl (by omega)) k0, fun _ _ _ _ h => h, fun h => by cases h⟩ (fun x hx r' lv' sk' ws1 hx' hb hl hs hlo hsk hw1 hv' hf1 _ => ?_)
    have m0 := nm_x hx' (k := 0) rfl
    have m2 := nm_x hx' (k := 2) rfl
    rcases List.mem_cons.mp hx with rfl | hx
    · obtain ⟨z, rfl, hz'⟩ := sk1 rfl hsk
      rw [vn_at hx' (n := 0) (z := 0) rfl] at hz'
      obtain ⟨q1, -⟩ := hv'
      simp (config := { decide := true }) only [bnd_b, lin_b, lin_q, Nat.reduceAdd, Nat.zero_add, Nat.reduceEqDiff, reduceIte, and_true, Int.add_zero] at hb hl
      exact rest ws1 z lv' hw1 hf1 (by omega) (q1.eq (by dsimp only; omega))
    · have hx9 := List.mem_singleton.mp hx
      subst hx9
      obtain ⟨z, rfl, hz'⟩ := sk1 rfl hsk
      rw [vn_at hx' (n := 0) (z := 0) rfl] at hz'
      obtain ⟨q1, -⟩ := hv'
      simp (config := { decide := true }) only [bnd_b, lin_b, lin_q, Nat.reduceAdd, Nat.zero_add, Nat.reduceEqDiff, reduceIte, and_true, Int.add_zero] at hb hl
      exact rest ws1 z lv' hw1 hf1 (by omega) (q1.eq (by dsimp only; omega))
  · obtain ⟨t, ht⟩ : ∃ t : Nat, act = (t : Int) := ⟨act.toNat, by omega⟩
    subst ht
    have htn : t < n := by omega
    obtain ⟨v1, v2, v3, v4⟩ := hc.1 t htn
    obtain ⟨b1, b2, b3, b4⟩ := hg.1 t htn
    have v2' : vi ws 50 (112 + t) (E (4 + t)) := by rw [show 112 + t = 4 + t + 108 by omega]; exact v2
    have v3' : vi ws 50 (116 + t) (E (8 + t)) := by rw [show 116 + t = 8 + t + 108 by omega]; exact v3
    have hev : evA E (t : Int) = ev_pl E t := by
      unfold evA
      rw [if_neg h4]
      show ev_pl E ((t : Int)).toNat = ev_pl E t
      rw [show ((t : Int)).toNat = t by omega]
    have hcan : canB E (t : Int) = (decide (1 ≤ E 16) && decide (E (8 + t) < E (4 + t))) := by
      unfold canB
      rw [decide_eq_false h4, show ((t : Int)).toNat = t by omega]
      rfl
    have sbq : ai_sb ws [0, 0, E (4 + t), E (8 + t), E 16, (n : Int)] [(5, 2, 3, 2, 0)] := fun q hq => by
      rw [List.mem_singleton.mp hq]
      refine ⟨E (4 + t), E (8 + t), E (4 + t), rfl, rfl, rfl, fun h0 => ?_, fun h0 => ?_, fun h0 => ?_, fun h0 => ?_, fun h0 => ?_, fun h0 => ?_⟩
      all_goals dsimp only at h0 ⊢
      all_goals omega
    have no : ∀ (ws' : va_W) (i : Int32) (lv' : List (Nat × Value)), ai_wd tb_TY ad tys ws' → ai_fr [] ws ws' → i.toInt = 0 → ¬ (1 ≤ E 16 ∧ E (8 + t) < E (4 + t)) → hG tb_m130 p l e R s m args below meth c D A cells slots Q 22 lv' [.int i] ws' := fun ws' i lv' hw' hf hi hno => kk 22 ws' i lv' (by decide) ⟨hw', n0 hf, by
      rw [hev]
      unfold ev_pl
      rw [if_neg hno]
      exact hc.fr hn hf (fun _ _ => rfl), by
      rw [hcan]
      by_cases h1 : 1 ≤ E 16
      · rw [decide_eq_true h1, decide_eq_false (fun h2 => hno ⟨h1, h2⟩)]
        exact hi
      · rw [decide_eq_false h1]
        exact hi⟩
    refine hsum (st := (0, [(0, (0, 49, 0, 0)), (1, (1, 0, 0, 108)), (2, (1, 0, 0, (t : Int)))], [], ma_en 0 0 20 t, ma_kn t, [(5, 2, 3, 2, 0)])) (List.all_eq_true.mp ma_c t (List.mem_range.mpr (by omega))) rfl C (r := [0, 0, E (4 + t), E (8 + t), E 16, (n : Int)]) ⟨en_mk (by simp only [ma_en, en_b, and_true]; omega) rfl, sbq, ⟨rfl, Or.inl ⟨rfl, a, ha, rfl⟩, rfl, int_dv (z := 0) rfl (by omega), rfl, int_dv (z := 0) rfl (by omega), trivial⟩, trivial, hw, kc (v2'.kn (n := 2) (t := E (4 + t)) rfl (by omega)) (kc (v3'.kn (n := 3) (t := E (8 + t)) rfl (by omega)) (kc (hc.2.1.kn (n := 4) (t := E 16) rfl (by omega)) (kc (hv.kn (n := 5) (t := (n : Int)) rfl (by omega)) k0))), fun _ _ _ _ h => h, fun h => by cases h⟩ (fun x hx r' lv' sk' ws1 hx' hb hl hs hlo hsk hw1 hv' hf1 _ => ?_)
    have m2 := nm_x hx' (k := 2) rfl
    have m3 := nm_x hx' (k := 3) rfl
    have m4 := nm_x hx' (k := 4) rfl
    rcases List.mem_cons.mp hx with rfl | hx
    · obtain ⟨i, rfl, hi⟩ := sk1 rfl hsk
      rw [vn_at hx' (n := 0) (z := 0) rfl] at hi
      simp (config := { decide := true }) only [ma_en, bnd_b, lin_b, lin_q, Nat.reduceAdd, Nat.zero_add, Nat.reduceEqDiff, reduceIte, and_true, Int.add_zero] at hb hl
      exact no ws1 i lv' hw1 hf1 (by omega) (by omega)
    rcases List.mem_cons.mp hx with rfl | hx
    · dsimp only at hsk ⊢
      obtain ⟨x0, s0, rfl, d0, g3⟩ := hsk.cons
      obtain ⟨x1, s1, rfl, d1, g4⟩ := g3.cons
      obtain ⟨x2, s2, rfl, d2, g5⟩ := g4.cons
      obtain ⟨x3, s3, rfl, d3, g6⟩ := g5.cons
      cases g6.nil
      obtain ⟨u0, rfl, w0⟩ := dvn d0 (hx'.at (k := 0) rfl)
      obtain ⟨u1, rfl, w1⟩ := dvn d1 (hx'.at (k := 0) rfl)
      obtain ⟨u2, rfl, w2⟩ := dvn d2 (hx'.at (k := 0) rfl)
      have f3 := ref_of49 ha d3
      subst f3
      simp (config := { decide := true }) only [ma_en, bnd_b, lin_b, lin_q, Nat.reduceAdd, Nat.zero_add, Nat.reduceEqDiff, reduceIte, and_true, Int.add_zero] at hb hl
      have hyes : 1 ≤ E 16 ∧ E (8 + t) < E (4 + t) := by omega
      refine hcallI (q := (167, 0, 128, 3, 6)) (M' := tb_m128) (cl := 49) (a := a) (As := [.int u2, .int u1, .int u0]) (rest := []) (rets := [178]) (P := fun w i => po_P ad tys 108 t false (E t) (E (4 + t)) (E (8 + t)) (E (12 + t)) (E 16) (E 17) ws1 w i) C (by decide) (tv_m130.1.1.1 (27, .invokevirtual 167, 3) (List.mem_of_getElem? (i := 19) rfl)) (tv_m130.2 _ (List.mem_of_getElem? (i := 19) rfl)) rfl rfl rfl rfl (by decide) (Nat.le_of_ble_eq_true rfl) rfl rfl rfl rfl hw1 ha (by decide) ?_ ?_ ?_
      · intro pcr hp
        rw [List.mem_singleton.mp hp]
        exact tv_m128.1.1.1 (178, .ireturn, 1) (List.mem_of_getElem? (i := 114) rfl)
      · intro p2 e2 R2 s2 m2 args2 below2 meth2 c2 Q2 C2 kk2
        exact po_all (sl := false) C2 (Or.inr rfl) (by omega) ha (by omega) (by omega) (by rw [if_neg (by decide)]; omega) ⟨b1, b2, b3, b4, b5, b6⟩ (by omega) hw1 ⟨v1.fr hf1 rfl, v2.fr hf1 rfl, v3.fr hf1 rfl, v4.fr hf1 rfl, hc.2.1.fr hf1 rfl, hc.2.2.fr hf1 rfl⟩ (fun w i lv2 hP => kk2 178 w i lv2 (by decide) hP)
      · intro ws2 i hP
        obtain ⟨hw2, hf2, ei, q1, q2, q3, q4⟩ := hP
        rw [if_neg (by decide)] at ei
        have bi : 0 ≤ i.toInt ∧ i.toInt ≤ 99 := by
          have := yl_rg (k := E t) (s := E 16) (p := E (12 + t)) b5.1 b5.2 b4.1
          omega
        refine hG_sub (lv2 := []) (fun q hq => by cases hq) ?_
        obtain ⟨xs, y1, y2⟩ := ai_anyE ma_e
        refine hseg (st := (30, [], [(1, 2, 0, 0)], [(0, 0, false, 0, 0), (0, 2555, false, 1, 0), (0, 99, false, 2, 0)], [], [])) (r := [0, 0, i.toInt]) y1 rfl C ⟨en_mk (by simp only [en_b, and_true]; omega) rfl, sb0, trivial, ⟨int_dv (z := i.toInt) rfl (by omega), trivial⟩, hw2, k0, fun _ _ _ _ h => h, fun h => by cases h⟩ (fun x hx r3 lv3 sk3 ws3 hx3 g' => ?_)
        obtain ⟨g1, g2, g3, g4, g5, g6, g7, g8⟩ := g'
        have hbb := List.all_eq_true.mp y2 x hx
        unfold s3_is at hbb
        rw [Bool.and_eq_true, ai_beq, decide_eq_true_eq] at hbb
        rw [hbb.2] at g4
        obtain ⟨i2, rfl, hi2⟩ := sk1 rfl g4
        rw [vn_at hx3 (n := 0) (z := 0) rfl] at hi2
        rw [hbb.1]
        have hfx : ai_fr [(50, 8 + t + 108, 9 + t + 108), (50, 12 + t + 108, 13 + t + 108), (50, 16 + 108, 18 + 108)] ws ws3 := ((n0 hf1).tr hf2).tr (n0 g7)
        obtain ⟨a1, a2, a3, a4⟩ := ev_pull_at (E := E) (t := t) (by omega)
        have e1 : ev_pl E t = ev_pull E t := by
          unfold ev_pl
          rw [if_pos hyes]
        refine kk 32 ws3 i2 lv3 (by decide) ⟨g5, fr_sub (fun cc j h q hq => ?_) hfx, ?_, ?_⟩
        · have h1 := h (50, 108, 135) (by unfold ma_W; simp)
          dsimp only at h1
          simp only [List.mem_cons, List.not_mem_nil, or_false] at hq
          rcases hq with rfl | rfl | rfl <;> dsimp only <;> omega
        · rw [hev]
          refine pev_pl hn htn hc hfx (fun j h1 h2 h3 => wr_no fun q hq => ?_) ?_ ?_ ?_ ?_
          · simp only [List.mem_cons, List.not_mem_nil, or_false] at hq
            rcases hq with rfl | rfl | rfl <;> dsimp only <;> omega
          · rw [e1, a1]
            exact (q1.fr g7 rfl).eq (by omega)
          · rw [e1, a2]
            exact q2.fr g7 rfl
          · rw [e1, a4]
            exact q4.fr g7 rfl
          · rw [e1, a3]
            exact q3.fr g7 rfl
        · rw [hcan, decide_eq_true hyes.1, decide_eq_true hyes.2]
          show i2.toInt = 1
          omega
    rcases List.mem_cons.mp hx with rfl | hx
    · obtain ⟨i, rfl, hi⟩ := sk1 rfl hsk
      rw [vn_at hx' (n := 0) (z := 0) rfl] at hi
      simp (config := { decide := true }) only [ma_en, bnd_b, lin_b, lin_q, Nat.reduceAdd, Nat.zero_add, Nat.reduceEqDiff, reduceIte, and_true, Int.add_zero] at hb hl
      exact no ws1 i lv' hw1 hf1 (by omega) (by omega)
    · cases hx
end XMA
