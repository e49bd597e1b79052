theorem lr_armsA : lw_A 980 1001 4 = true := by decide +kernel
theorem lr_armsB : lw_B 1001 1025 4 true = true := by decide +kernel
theorem lr_armsC : lw_C 1025 true = true := by decide +kernel
/-! arms, compared -/
/-- could a strength s have yielded y of a kind in a -/
def arK (a : Nat) (p y : Int) (s : Int) : Bool := !decide (a &&& ktF s p y 4 = 0)
def arI (a : Nat) (p y s : Int) : Nat → Bool
  | 0 => false
  | k + 1 => arI a p y s k || (a.testBit k && decide (yl (k : Int) s p = y))
theorem bt4_0 : ∀ b0 b1 b2 b3 : Bool, (!decide (bt4 b0 b1 b2 b3 = 0)) = ((((false || b0) || b1) || b2) || b3) := by decide +kernel
theorem bt4_t : ∀ a, a < 16 → a = bt4 (a.testBit 0) (a.testBit 1) (a.testBit 2) (a.testBit 3) := by decide +kernel
theorem arI_4 {a : Nat} (ha : a < 16) (p y s : Int) : arI a p y s 4 = arK a p y s := by
  have h : ∀ c0 c1 c2 c3 : Bool, a &&& bt4 c0 c1 c2 c3 = bt4 (a.testBit 0 && c0) (a.testBit 1 && c1) (a.testBit 2 && c2) (a.testBit 3 && c3) := fun c0 c1 c2 c3 => by
    conv => lhs; rw [bt4_t a ha]
    exact bt4_and _ _ _ _ _ _ _ _
  unfold arK
  rw [ktF_4, h, bt4_0]
  rfl
theorem arI_1 {a : Nat} {p y s : Int} {k : Nat} (h : arI a p y s k = true) : arI a p y s (k + 1) = true := by
  show (arI a p y s k || (a.testBit k && decide (yl (k : Int) s p = y))) = true
  rw [h]
  rfl
theorem arI_n {a : Nat} {p y s : Int} {k : Nat} (h : ¬ arI a p y s k = true) (c : ¬ a.testBit k = true ∨ ¬ yl (k : Int) s p = y) : ¬ arI a p y s (k + 1) = true := by
  show ¬ (arI a p y s k || (a.testBit k && decide (yl (k : Int) s p = y))) = true
  rw [Bool.not_eq_true] at h
  rw [h, Bool.false_or]
  rcases c with c | c
  · rw [Bool.not_eq_true] at c
    rw [c, Bool.false_and]
    decide
  · rw [decide_eq_false c, Bool.and_false]
    decide
theorem arI_y {a : Nat} {p y s : Int} {k : Nat} (c : a.testBit k = true) (h : yl (k : Int) s p = y) : arI a p y s (k + 1) = true := by
  show (arI a p y s k || (a.testBit k && decide (yl (k : Int) s p = y))) = true
  rw [c, decide_eq_true h, Bool.and_self, Bool.or_true]
/-- how many, the least, the greatest, from s on -/
def arF (K : Int → Bool) : Nat → Int → Int → Int → Int → Int × Int × Int
  | 0, _, n, lo, gr => (n, lo, gr)
  | f + 1, s, n, lo, gr => if K s = true then arF K f (s + 1) (n + 1) (if lo = -4 then s else lo) s else arF K f (s + 1) n lo gr
theorem arF_y {K : Int → Bool} {f : Nat} {s n lo gr : Int} (h : K s = true) : arF K (f + 1) s n lo gr = arF K f (s + 1) (n + 1) (if lo = -4 then s else lo) s := if_pos h
theorem arF_n {K : Int → Bool} {f : Nat} {s n lo gr : Int} (h : ¬ K s = true) : arF K (f + 1) s n lo gr = arF K f (s + 1) n lo gr := if_neg h
def arW (R : Int × Int × Int) (w : Int) : Int := if w = 0 then R.1 else if w = 1 then R.2.1 else R.2.2
def ar_cx_S : List sm_t := [
  (137, [], [(1, 8, 0, 0)], [], [(0, 0, false, 0, 0), (0, 2555, false, 1, 0), (0, 20, false, 2, 0), (0, 20, false, 3, 0), (2, 2, false, 4, 0), (0, 15, false, 5, 0), (0, 20, false, 6, 0), (-4, 20, false, 7, 0), (-4, 20, false, 8, 0), (21, 21, false, 9, 0)], [(140, 4, 0, 4, 1), (140, 4, 0, 4, 0)]),
  (137, [], [(1, 7, 0, 0)], [], [(0, 0, false, 0, 0), (0, 2555, false, 1, 0), (0, 20, false, 2, 0), (0, 20, false, 3, 0), (1, 1, false, 4, 0), (0, 15, false, 5, 0), (0, 20, false, 6, 0), (-4, 20, false, 7, 0), (-4, 20, false, 8, 0), (21, 21, false, 9, 0)], [(140, 4, 0, 4, 0)]),
  (123, [], [(1, 6, 0, 0)], [], [(0, 0, false, 0, 0), (0, 2555, false, 1, 0), (0, 20, false, 2, 0), (0, 20, false, 3, 0), (0, 0, false, 4, 0), (0, 15, false, 5, 0), (0, 20, false, 6, 0), (-4, 20, false, 7, 0), (-4, 20, false, 8, 0), (21, 21, false, 9, 0)], [])]
theorem ar_cx : ((ai_ex (hk []) 300 84 tb_m84 10 [] (69, [(0, (0, 0, 0, 0)), (2, (1, 2, 0, 0)), (3, (1, 3, 0, 0)), (4, (1, 4, 0, 0)), (5, (1, 5, 0, 0)), (6, (1, 6, 0, 0)), (7, (1, 7, 0, 0)), (8, (1, 8, 0, 0)), (9, (1, 9, 0, 0))], [(1, 9, 0, 0)], [(0, 0, false, 0, 0), (0, 2555, false, 1, 0), (0, 20, false, 2, 0), (0, 20, false, 3, 0), (0, 2, false, 4, 0), (0, 15, false, 5, 0), (0, 20, false, 6, 0), (-4, 20, false, 7, 0), (-4, 20, false, 8, 0), (21, 21, false, 9, 0)], [], [])).any fun xs => xs.all fun x => (ar_cx_S : List sm_t).any fun y => sm_is [] x y) = true := by decide +kernel
theorem ar_c1 : ((ai_ex (hk []) 300 84 tb_m84 10 [80] (69, [(0, (0, 0, 0, 0)), (2, (1, 2, 0, 0)), (3, (1, 3, 0, 0)), (4, (1, 4, 0, 0)), (5, (1, 5, 0, 0)), (6, (1, 6, 0, 0)), (7, (1, 7, 0, 0)), (8, (1, 8, 0, 0)), (9, (1, 9, 0, 0))], [(1, 9, 0, 0)], [(0, 0, false, 0, 0), (0, 2555, false, 1, 0), (0, 20, false, 2, 0), (0, 20, false, 3, 0), (0, 2, false, 4, 0), (0, 15, false, 5, 0), (0, 19, false, 6, 0), (-4, 20, false, 7, 0), (-4, 20, false, 8, 0), (1, 20, false, 9, 0)], [], [])).any fun xs => xs.all fun x => ([(80, [(0, (0, 0, 0, 0)), (2, (1, 2, 0, 0)), (3, (1, 3, 0, 0)), (4, (1, 4, 0, 0)), (5, (1, 5, 0, 0)), (6, (1, 6, 0, 0)), (7, (1, 7, 0, 0)), (8, (1, 8, 0, 0)), (9, (1, 9, 0, 0))], [(1, 2, 0, 0), (1, 9, 0, 0), (1, 3, 0, 0), (1, 5, 0, 0)], [], [(0, 0, false, 0, 0), (0, 2555, false, 1, 0), (0, 20, false, 2, 0), (0, 20, false, 3, 0), (0, 2, false, 4, 0), (0, 15, false, 5, 0), (0, 19, false, 6, 0), (-4, 20, false, 7, 0), (-4, 20, false, 8, 0), (1, 20, false, 9, 0)], [])] : List sm_t).any fun y => sm_is [] x y) = true := by decide +kernel
def ar_c2_S : List sm_t := [
  (67, [(0, (0, 0, 0, 0)), (2, (1, 2, 0, 0)), (3, (1, 3, 0, 0)), (4, (1, 4, 0, 0)), (5, (1, 5, 0, 0)), (6, (1, 6, 0, 0)), (7, (1, 7, 0, 0)), (8, (1, 8, 0, 0)), (9, (1, 9, 0, 1))], [], [], [(0, 0, false, 0, 0), (0, 2555, false, 1, 0), (0, 20, false, 2, 0), (0, 20, false, 3, 0), (0, 2, false, 4, 0), (0, 15, false, 5, 0), (0, 19, false, 6, 0), (-4, 20, false, 7, 0), (-4, 20, false, 8, 0), (1, 20, false, 9, 0), (0, 0, false, 10, 0)], []),
  (67, [(0, (0, 0, 0, 0)), (2, (1, 2, 0, 0)), (3, (1, 3, 0, 0)), (4, (1, 4, 0, 0)), (5, (1, 5, 0, 0)), (6, (1, 6, 0, 1)), (7, (1, 7, 0, 0)), (8, (1, 9, 0, 0)), (9, (1, 9, 0, 1))], [], [], [(0, 0, false, 0, 0), (0, 2555, false, 1, 0), (0, 20, false, 2, 0), (0, 20, false, 3, 0), (0, 2, false, 4, 0), (0, 15, false, 5, 0), (0, 19, false, 6, 0), (-3, 20, false, 7, 0), (-4, 20, false, 8, 0), (1, 20, false, 9, 0), (1, 15, false, 10, 0)], [(140, 7, 0, 7, -4), (140, 10, 0, 10, 0)]),
  (67, [(0, (0, 0, 0, 0)), (2, (1, 2, 0, 0)), (3, (1, 3, 0, 0)), (4, (1, 4, 0, 0)), (5, (1, 5, 0, 0)), (6, (1, 6, 0, 1)), (7, (1, 9, 0, 0)), (8, (1, 9, 0, 0)), (9, (1, 9, 0, 1))], [], [], [(0, 0, false, 0, 0), (0, 2555, false, 1, 0), (0, 20, false, 2, 0), (0, 20, false, 3, 0), (0, 2, false, 4, 0), (0, 15, false, 5, 0), (0, 19, false, 6, 0), (-4, -4, false, 7, 0), (-4, 20, false, 8, 0), (1, 20, false, 9, 0), (1, 15, false, 10, 0)], [(140, 10, 0, 10, 0)])]
theorem ar_c2 : ((ai_ex (hk []) 300 84 tb_m84 10 [67] (84, [(0, (0, 0, 0, 0)), (2, (1, 2, 0, 0)), (3, (1, 3, 0, 0)), (4, (1, 4, 0, 0)), (5, (1, 5, 0, 0)), (6, (1, 6, 0, 0)), (7, (1, 7, 0, 0)), (8, (1, 8, 0, 0)), (9, (1, 9, 0, 0))], [(1, 10, 0, 0)], [(0, 0, false, 0, 0), (0, 2555, false, 1, 0), (0, 20, false, 2, 0), (0, 20, false, 3, 0), (0, 2, false, 4, 0), (0, 15, false, 5, 0), (0, 19, false, 6, 0), (-4, 20, false, 7, 0), (-4, 20, false, 8, 0), (1, 20, false, 9, 0), (0, 15, false, 10, 0)], [], [])).any fun xs => xs.all fun x => (ar_c2_S : List sm_t).any fun y => sm_is [] x y) = true := by decide +kernel
theorem ar_c3 : ((List.range 4).all fun t => (ai_ex (hk []) 300 84 tb_m84 10 [48] (0, [(0, (0, 0, 0, 0)), (1, (1, 0, 0, (t : Int))), (2, (1, 2, 0, 0)), (3, (1, 3, 0, 0)), (4, (1, 4, 0, 0))], [], [(0, 0, false, 0, 0), (0, 2555, false, 1, 0), (0, 20, false, 2, 0), (0, 20, false, 3, 0), (0, 2, false, 4, 0), ((t : Int) + 1, 4, false, 5, 0)], [(1, 0, (1, 5, 0, 0))], [])).any fun xs => xs.all fun x => ([(48, [(0, (0, 0, 0, 0)), (2, (1, 2, 0, 0)), (3, (1, 3, 0, 0)), (4, (1, 4, 0, 0))], [(1, 0, 0, (t : Int)), (0, 34, 0, 0)], [], [(0, 0, false, 0, 0), (0, 2555, false, 1, 0), (0, 20, false, 2, 0), (0, 20, false, 3, 0), (0, 2, false, 4, 0), ((t : Int) + 1, 4, false, 5, 0)], [])] : List sm_t).any fun y => sm_is [] x y) = true := by decide +kernel
theorem ar_c4 : ((ai_ex (hk []) 300 84 tb_m84 10 [67] (51, [(0, (0, 0, 0, 0)), (2, (1, 2, 0, 0)), (3, (1, 3, 0, 0)), (4, (1, 4, 0, 0))], [(1, 5, 0, 0)], [(0, 0, false, 0, 0), (0, 2555, false, 1, 0), (0, 20, false, 2, 0), (0, 20, false, 3, 0), (0, 2, false, 4, 0), (0, 15, false, 5, 0)], [], [])).any fun xs => xs.all fun x => ([(67, [(0, (0, 0, 0, 0)), (2, (1, 2, 0, 0)), (3, (1, 3, 0, 0)), (4, (1, 4, 0, 0)), (5, (1, 5, 0, 0)), (6, (1, 0, 0, 0)), (7, (1, 0, 0, -4)), (8, (1, 0, 0, -4)), (9, (1, 0, 0, 1))], [], [], [(0, 0, false, 0, 0), (0, 2555, false, 1, 0), (0, 20, false, 2, 0), (0, 20, false, 3, 0), (0, 2, false, 4, 0), (0, 15, false, 5, 0)], [])] : List sm_t).any fun y => sm_is [] x y) = true := by decide +kernel
theorem ar_ix : ((ai_ex (hk []) 300 160 tb_m160 10 [128] (83, [(0, (0, 49, 0, 0)), (2, (1, 2, 0, 0)), (3, (1, 3, 0, 0)), (4, (1, 4, 0, 0)), (5, (1, 5, 0, 0)), (6, (1, 6, 0, 0)), (7, (1, 7, 0, 0)), (8, (1, 8, 0, 0)), (9, (1, 9, 0, 0)), (10, (1, 10, 0, 0)), (11, (1, 0, 0, 4))], [(1, 0, 0, 4)], [(0, 0, false, 0, 0), (0, 2555, false, 1, 0), (0, 20, false, 2, 0), (0, 20, false, 3, 0), (0, 2, false, 4, 0), (0, 15, false, 5, 0), (0, 19, false, 6, 0), (-4, 20, false, 7, 0), (-4, 20, false, 8, 0), (1, 20, false, 9, 0), (0, 1, false, 10, 0)], [], [])).any fun xs => xs.all fun x => ([(128, [(0, (0, 49, 0, 0)), (2, (1, 2, 0, 0)), (3, (1, 3, 0, 0)), (4, (1, 4, 0, 0)), (5, (1, 5, 0, 0)), (6, (1, 6, 0, 0)), (7, (1, 7, 0, 0)), (8, (1, 8, 0, 0)), (9, (1, 9, 0, 0)), (10, (1, 10, 0, 0)), (11, (1, 0, 0, 4))], [], [], [(0, 0, false, 0, 0), (0, 2555, false, 1, 0), (0, 20, false, 2, 0), (0, 20, false, 3, 0), (0, 2, false, 4, 0), (0, 15, false, 5, 0), (0, 19, false, 6, 0), (-4, 20, false, 7, 0), (-4, 20, false, 8, 0), (1, 20, false, 9, 0), (0, 1, false, 10, 0)], [])] : List sm_t).any fun y => sm_is [] x y) = true := by decide +kernel
theorem ar_b0 : ∀ a, a < 16 → (a.testBit 0 = true → a ∈ ([1, 3, 5, 7, 9, 11, 13, 15] : List Nat)) ∧ (¬ a.testBit 0 = true → a ∈ ([0, 2, 4, 6, 8, 10, 12, 14] : List Nat)) := by decide +kernel
def ar_i01_S (aa : Nat) : List sm_t := [
  (81, [(0, (0, 49, 0, 0)), (2, (1, 2, 0, 0)), (3, (1, 3, 0, 0)), (4, (1, 4, 0, 0)), (5, (1, 0, 0, (aa : Int))), (6, (1, 6, 0, 0)), (7, (1, 7, 0, 0)), (8, (1, 8, 0, 0)), (9, (1, 9, 0, 0)), (10, (1, 0, 0, 1)), (11, (1, 0, 0, 1))], [], [], [(0, 0, false, 0, 0), (0, 2555, false, 1, 0), (0, 20, false, 2, 0), (0, 20, false, 3, 0), (0, 2, false, 4, 0), (0, 15, false, 5, 0), (0, 19, false, 6, 0), (-4, 20, false, 7, 0), (-4, 20, false, 8, 0), (1, 20, false, 9, 0), (1, 1, false, 10, 0)], [(140, 10, 0, 10, 0)]),
  (81, [(0, (0, 49, 0, 0)), (2, (1, 2, 0, 0)), (3, (1, 3, 0, 0)), (4, (1, 4, 0, 0)), (5, (1, 0, 0, (aa : Int))), (6, (1, 6, 0, 0)), (7, (1, 7, 0, 0)), (8, (1, 8, 0, 0)), (9, (1, 9, 0, 0)), (10, (1, 0, 0, 0)), (11, (1, 0, 0, 1))], [], [], [(0, 0, false, 0, 0), (0, 2555, false, 1, 0), (0, 20, false, 2, 0), (0, 20, false, 3, 0), (0, 2, false, 4, 0), (0, 15, false, 5, 0), (0, 19, false, 6, 0), (-4, 20, false, 7, 0), (-4, 20, false, 8, 0), (1, 20, false, 9, 0), (0, 0, false, 10, 0)], [(140, 9, 3, 9, 0)]),
  (81, [(0, (0, 49, 0, 0)), (2, (1, 2, 0, 0)), (3, (1, 3, 0, 0)), (4, (1, 4, 0, 0)), (5, (1, 0, 0, (aa : Int))), (6, (1, 6, 0, 0)), (7, (1, 7, 0, 0)), (8, (1, 8, 0, 0)), (9, (1, 9, 0, 0)), (10, (1, 0, 0, 1)), (11, (1, 0, 0, 1))], [], [], [(0, 0, false, 0, 0), (0, 2555, false, 1, 0), (0, 20, false, 2, 0), (1, 20, false, 3, 0), (0, 2, false, 4, 0), (0, 15, false, 5, 0), (0, 19, false, 6, 0), (-4, 20, false, 7, 0), (-4, 20, false, 8, 0), (1, 20, false, 9, 0), (0, 0, false, 10, 0)], [(4, 9, 3, 9, 1), (5, 9, 3, 9, 0)])]
theorem ar_i01 : (([1, 3, 5, 7, 9, 11, 13, 15] : List Nat).all fun aa => (ai_ex (hk []) 300 160 tb_m160 10 [81] (83, [(0, (0, 49, 0, 0)), (2, (1, 2, 0, 0)), (3, (1, 3, 0, 0)), (4, (1, 4, 0, 0)), (5, (1, 0, 0, (aa : Int))), (6, (1, 6, 0, 0)), (7, (1, 7, 0, 0)), (8, (1, 8, 0, 0)), (9, (1, 9, 0, 0)), (10, (1, 10, 0, 0)), (11, (1, 0, 0, 0))], [(1, 0, 0, 0)], [(0, 0, false, 0, 0), (0, 2555, false, 1, 0), (0, 20, false, 2, 0), (0, 20, false, 3, 0), (0, 2, false, 4, 0), (0, 15, false, 5, 0), (0, 19, false, 6, 0), (-4, 20, false, 7, 0), (-4, 20, false, 8, 0), (1, 20, false, 9, 0), (0, 1, false, 10, 0)], [], [])).any fun xs => xs.all fun x => (ar_i01_S aa : List sm_t).any fun y => sm_is [] x y) = true := by decide +kernel
def ar_i00_S (aa : Nat) : List sm_t := [
  (81, [(0, (0, 49, 0, 0)), (2, (1, 2, 0, 0)), (3, (1, 3, 0, 0)), (4, (1, 4, 0, 0)), (5, (1, 0, 0, (aa : Int))), (6, (1, 6, 0, 0)), (7, (1, 7, 0, 0)), (8, (1, 8, 0, 0)), (9, (1, 9, 0, 0)), (10, (1, 0, 0, 1)), (11, (1, 0, 0, 1))], [], [], [(0, 0, false, 0, 0), (0, 2555, false, 1, 0), (0, 20, false, 2, 0), (0, 20, false, 3, 0), (0, 2, false, 4, 0), (0, 15, false, 5, 0), (0, 19, false, 6, 0), (-4, 20, false, 7, 0), (-4, 20, false, 8, 0), (1, 20, false, 9, 0), (1, 1, false, 10, 0)], [(140, 10, 0, 10, 0)]),
  (81, [(0, (0, 49, 0, 0)), (2, (1, 2, 0, 0)), (3, (1, 3, 0, 0)), (4, (1, 4, 0, 0)), (5, (1, 0, 0, (aa : Int))), (6, (1, 6, 0, 0)), (7, (1, 7, 0, 0)), (8, (1, 8, 0, 0)), (9, (1, 9, 0, 0)), (10, (1, 0, 0, 0)), (11, (1, 0, 0, 1))], [], [], [(0, 0, false, 0, 0), (0, 2555, false, 1, 0), (0, 20, false, 2, 0), (0, 20, false, 3, 0), (0, 2, false, 4, 0), (0, 15, false, 5, 0), (0, 19, false, 6, 0), (-4, 20, false, 7, 0), (-4, 20, false, 8, 0), (1, 20, false, 9, 0), (0, 0, false, 10, 0)], [])]
theorem ar_i00 : (([0, 2, 4, 6, 8, 10, 12, 14] : List Nat).all fun aa => (ai_ex (hk []) 300 160 tb_m160 10 [81] (83, [(0, (0, 49, 0, 0)), (2, (1, 2, 0, 0)), (3, (1, 3, 0, 0)), (4, (1, 4, 0, 0)), (5, (1, 0, 0, (aa : Int))), (6, (1, 6, 0, 0)), (7, (1, 7, 0, 0)), (8, (1, 8, 0, 0)), (9, (1, 9, 0, 0)), (10, (1, 10, 0, 0)), (11, (1, 0, 0, 0))], [(1, 0, 0, 0)], [(0, 0, false, 0, 0), (0, 2555, false, 1, 0), (0, 20, false, 2, 0), (0, 20, false, 3, 0), (0, 2, false, 4, 0), (0, 15, false, 5, 0), (0, 19, false, 6, 0), (-4, 20, false, 7, 0), (-4, 20, false, 8, 0), (1, 20, false, 9, 0), (0, 1, false, 10, 0)], [], [])).any fun xs => xs.all fun x => (ar_i00_S aa : List sm_t).any fun y => sm_is [] x y) = true := by decide +kernel
theorem ar_b1 : ∀ a, a < 16 → (a.testBit 1 = true → a ∈ ([2, 3, 6, 7, 10, 11, 14, 15] : List Nat)) ∧ (¬ a.testBit 1 = true → a ∈ ([0, 1, 4, 5, 8, 9, 12, 13] : List Nat)) := by decide +kernel
def ar_i11_S (aa : Nat) : List sm_t := [
  (81, [(0, (0, 49, 0, 0)), (2, (1, 2, 0, 0)), (3, (1, 3, 0, 0)), (4, (1, 4, 0, 0)), (5, (1, 0, 0, (aa : Int))), (6, (1, 6, 0, 0)), (7, (1, 7, 0, 0)), (8, (1, 8, 0, 0)), (9, (1, 9, 0, 0)), (10, (1, 0, 0, 1)), (11, (1, 0, 0, 2))], [], [], [(0, 0, false, 0, 0), (0, 2555, false, 1, 0), (0, 20, false, 2, 0), (0, 20, false, 3, 0), (0, 2, false, 4, 0), (0, 15, false, 5, 0), (0, 19, false, 6, 0), (-4, 20, false, 7, 0), (-4, 20, false, 8, 0), (1, 20, false, 9, 0), (1, 1, false, 10, 0)], [(140, 10, 0, 10, 0)]),
  (81, [(0, (0, 49, 0, 0)), (2, (1, 2, 0, 0)), (3, (1, 3, 0, 0)), (4, (1, 4, 0, 0)), (5, (1, 0, 0, (aa : Int))), (6, (1, 6, 0, 0)), (7, (1, 7, 0, 0)), (8, (1, 8, 0, 0)), (9, (1, 9, 0, 0)), (10, (1, 0, 0, 0)), (11, (1, 0, 0, 2))], [], [], [(0, 0, false, 0, 0), (0, 2555, false, 1, 0), (0, 20, false, 2, 0), (0, 20, false, 3, 0), (0, 2, false, 4, 0), (0, 15, false, 5, 0), (0, 19, false, 6, 0), (-4, 20, false, 7, 0), (-4, 20, false, 8, 0), (1, 20, false, 9, 0), (0, 0, false, 10, 0), (0, 10, false, 11, 0)], [(140, 11, 3, 11, 0), (152, 9, 9, 11, 0)]),
  (81, [(0, (0, 49, 0, 0)), (2, (1, 2, 0, 0)), (3, (1, 3, 0, 0)), (4, (1, 4, 0, 0)), (5, (1, 0, 0, (aa : Int))), (6, (1, 6, 0, 0)), (7, (1, 7, 0, 0)), (8, (1, 8, 0, 0)), (9, (1, 9, 0, 0)), (10, (1, 0, 0, 1)), (11, (1, 0, 0, 2))], [], [], [(0, 0, false, 0, 0), (0, 2555, false, 1, 0), (0, 20, false, 2, 0), (0, 10, false, 3, 0), (0, 2, false, 4, 0), (0, 15, false, 5, 0), (0, 19, false, 6, 0), (-4, 20, false, 7, 0), (-4, 20, false, 8, 0), (1, 20, false, 9, 0), (0, 0, false, 10, 0), (0, 10, false, 11, 0)], [(4, 11, 3, 11, 1), (5, 11, 3, 11, 0), (152, 9, 9, 11, 0)])]
theorem ar_i11 : (([2, 3, 6, 7, 10, 11, 14, 15] : List Nat).all fun aa => (ai_ex (hk []) 300 160 tb_m160 10 [81] (83, [(0, (0, 49, 0, 0)), (2, (1, 2, 0, 0)), (3, (1, 3, 0, 0)), (4, (1, 4, 0, 0)), (5, (1, 0, 0, (aa : Int))), (6, (1, 6, 0, 0)), (7, (1, 7, 0, 0)), (8, (1, 8, 0, 0)), (9, (1, 9, 0, 0)), (10, (1, 10, 0, 0)), (11, (1, 0, 0, 1))], [(1, 0, 0, 1)], [(0, 0, false, 0, 0), (0, 2555, false, 1, 0), (0, 20, false, 2, 0), (0, 20, false, 3, 0), (0, 2, false, 4, 0), (0, 15, false, 5, 0), (0, 19, false, 6, 0), (-4, 20, false, 7, 0), (-4, 20, false, 8, 0), (1, 20, false, 9, 0), (0, 1, false, 10, 0)], [], [])).any fun xs => xs.all fun x => (ar_i11_S aa : List sm_t).any fun y => sm_is [] x y) = true := by decide +kernel
def ar_i10_S (aa : Nat) : List sm_t := [
  (81, [(0, (0, 49, 0, 0)), (2, (1, 2, 0, 0)), (3, (1, 3, 0, 0)), (4, (1, 4, 0, 0)), (5, (1, 0, 0, (aa : Int))), (6, (1, 6, 0, 0)), (7, (1, 7, 0, 0)), (8, (1, 8, 0, 0)), (9, (1, 9, 0, 0)), (10, (1, 0, 0, 1)), (11, (1, 0, 0, 2))], [], [], [(0, 0, false, 0, 0), (0, 2555, false, 1, 0), (0, 20, false, 2, 0), (0, 20, false, 3, 0), (0, 2, false, 4, 0), (0, 15, false, 5, 0), (0, 19, false, 6, 0), (-4, 20, false, 7, 0), (-4, 20, false, 8, 0), (1, 20, false, 9, 0), (1, 1, false, 10, 0)], [(140, 10, 0, 10, 0)]),
  (81, [(0, (0, 49, 0, 0)), (2, (1, 2, 0, 0)), (3, (1, 3, 0, 0)), (4, (1, 4, 0, 0)), (5, (1, 0, 0, (aa : Int))), (6, (1, 6, 0, 0)), (7, (1, 7, 0, 0)), (8, (1, 8, 0, 0)), (9, (1, 9, 0, 0)), (10, (1, 0, 0, 0)), (11, (1, 0, 0, 2))], [], [], [(0, 0, false, 0, 0), (0, 2555, false, 1, 0), (0, 20, false, 2, 0), (0, 20, false, 3, 0), (0, 2, false, 4, 0), (0, 15, false, 5, 0), (0, 19, false, 6, 0), (-4, 20, false, 7, 0), (-4, 20, false, 8, 0), (1, 20, false, 9, 0), (0, 0, false, 10, 0)], [])]
theorem ar_i10 : (([0, 1, 4, 5, 8, 9, 12, 13] : List Nat).all fun aa => (ai_ex (hk []) 300 160 tb_m160 10 [81] (83, [(0, (0, 49, 0, 0)), (2, (1, 2, 0, 0)), (3, (1, 3, 0, 0)), (4, (1, 4, 0, 0)), (5, (1, 0, 0, (aa : Int))), (6, (1, 6, 0, 0)), (7, (1, 7, 0, 0)), (8, (1, 8, 0, 0)), (9, (1, 9, 0, 0)), (10, (1, 10, 0, 0)), (11, (1, 0, 0, 1))], [(1, 0, 0, 1)], [(0, 0, false, 0, 0), (0, 2555, false, 1, 0), (0, 20, false, 2, 0), (0, 20, false, 3, 0), (0, 2, false, 4, 0), (0, 15, false, 5, 0), (0, 19, false, 6, 0), (-4, 20, false, 7, 0), (-4, 20, false, 8, 0), (1, 20, false, 9, 0), (0, 1, false, 10, 0)], [], [])).any fun xs => xs.all fun x => (ar_i10_S aa : List sm_t).any fun y => sm_is [] x y) = true := by decide +kernel
theorem ar_b2 : ∀ a, a < 16 → (a.testBit 2 = true → a ∈ ([4, 5, 6, 7, 12, 13, 14, 15] : List Nat)) ∧ (¬ a.testBit 2 = true → a ∈ ([0, 1, 2, 3, 8, 9, 10, 11] : List Nat)) := by decide +kernel
def ar_i21_S (aa : Nat) : List sm_t := [
  (81, [(0, (0, 49, 0, 0)), (2, (1, 2, 0, 0)), (3, (1, 3, 0, 0)), (4, (1, 4, 0, 0)), (5, (1, 0, 0, (aa : Int))), (6, (1, 6, 0, 0)), (7, (1, 7, 0, 0)), (8, (1, 8, 0, 0)), (9, (1, 9, 0, 0)), (10, (1, 0, 0, 1)), (11, (1, 0, 0, 3))], [], [], [(0, 0, false, 0, 0), (0, 2555, false, 1, 0), (0, 20, false, 2, 0), (0, 20, false, 3, 0), (0, 2, false, 4, 0), (0, 15, false, 5, 0), (0, 19, false, 6, 0), (-4, 20, false, 7, 0), (-4, 20, false, 8, 0), (1, 20, false, 9, 0), (1, 1, false, 10, 0)], [(140, 10, 0, 10, 0)]),
  (81, [(0, (0, 49, 0, 0)), (2, (1, 2, 0, 0)), (3, (1, 3, 0, 0)), (4, (1, 4, 0, 0)), (5, (1, 0, 0, (aa : Int))), (6, (1, 6, 0, 0)), (7, (1, 7, 0, 0)), (8, (1, 8, 0, 0)), (9, (1, 9, 0, 0)), (10, (1, 0, 0, 0)), (11, (1, 0, 0, 3))], [], [], [(0, 0, false, 0, 0), (0, 2555, false, 1, 0), (0, 20, false, 2, 0), (0, 20, false, 3, 0), (0, 2, false, 4, 0), (0, 15, false, 5, 0), (0, 19, false, 6, 0), (-4, 20, false, 7, 0), (-4, 20, false, 8, 0), (1, 20, false, 9, 0), (0, 0, false, 10, 0), (0, 10, false, 11, 0), (0, 2, false, 12, 0)], [(140, 12, 3, 12, 0), (154, 11, 11, 12, 0), (152, 9, 9, 11, 0)]),
  (81, [(0, (0, 49, 0, 0)), (2, (1, 2, 0, 0)), (3, (1, 3, 0, 0)), (4, (1, 4, 0, 0)), (5, (1, 0, 0, (aa : Int))), (6, (1, 6, 0, 0)), (7, (1, 7, 0, 0)), (8, (1, 8, 0, 0)), (9, (1, 9, 0, 0)), (10, (1, 0, 0, 1)), (11, (1, 0, 0, 3))], [], [], [(0, 0, false, 0, 0), (0, 2555, false, 1, 0), (0, 20, false, 2, 0), (0, 2, false, 3, 0), (0, 2, false, 4, 0), (0, 15, false, 5, 0), (0, 19, false, 6, 0), (-4, 20, false, 7, 0), (-4, 20, false, 8, 0), (1, 20, false, 9, 0), (0, 0, false, 10, 0), (0, 10, false, 11, 0), (0, 2, false, 12, 0)], [(4, 12, 3, 12, 1), (5, 12, 3, 12, 0), (154, 11, 11, 12, 0), (152, 9, 9, 11, 0)])]
theorem ar_i21 : (([4, 5, 6, 7, 12, 13, 14, 15] : List Nat).all fun aa => (ai_ex (hk []) 300 160 tb_m160 10 [81] (83, [(0, (0, 49, 0, 0)), (2, (1, 2, 0, 0)), (3, (1, 3, 0, 0)), (4, (1, 4, 0, 0)), (5, (1, 0, 0, (aa : Int))), (6, (1, 6, 0, 0)), (7, (1, 7, 0, 0)), (8, (1, 8, 0, 0)), (9, (1, 9, 0, 0)), (10, (1, 10, 0, 0)), (11, (1, 0, 0, 2))], [(1, 0, 0, 2)], [(0, 0, false, 0, 0), (0, 2555, false, 1, 0), (0, 20, false, 2, 0), (0, 20, false, 3, 0), (0, 2, false, 4, 0), (0, 15, false, 5, 0), (0, 19, false, 6, 0), (-4, 20, false, 7, 0), (-4, 20, false, 8, 0), (1, 20, false, 9, 0), (0, 1, false, 10, 0)], [], [])).any fun xs => xs.all fun x => (ar_i21_S aa : List sm_t).any fun y => sm_is [] x y) = true := by decide +kernel
def ar_i20_S (aa : Nat) : List sm_t := [
  (81, [(0, (0, 49, 0, 0)), (2, (1, 2, 0, 0)), (3, (1, 3, 0, 0)), (4, (1, 4, 0, 0)), (5, (1, 0, 0, (aa : Int))), (6, (1, 6, 0, 0)), (7, (1, 7, 0, 0)), (8, (1, 8, 0, 0)), (9, (1, 9, 0, 0)), (10, (1, 0, 0, 1)), (11, (1, 0, 0, 3))], [], [], [(0, 0, false, 0, 0), (0, 2555, false, 1, 0), (0, 20, false, 2, 0), (0, 20, false, 3, 0), (0, 2, false, 4, 0), (0, 15, false, 5, 0), (0, 19, false, 6, 0), (-4, 20, false, 7, 0), (-4, 20, false, 8, 0), (1, 20, false, 9, 0), (1, 1, false, 10, 0)], [(140, 10, 0, 10, 0)]),
  (81, [(0, (0, 49, 0, 0)), (2, (1, 2, 0, 0)), (3, (1, 3, 0, 0)), (4, (1, 4, 0, 0)), (5, (1, 0, 0, (aa : Int))), (6, (1, 6, 0, 0)), (7, (1, 7, 0, 0)), (8, (1, 8, 0, 0)), (9, (1, 9, 0, 0)), (10, (1, 0, 0, 0)), (11, (1, 0, 0, 3))], [], [], [(0, 0, false, 0, 0), (0, 2555, false, 1, 0), (0, 20, false, 2, 0), (0, 20, false, 3, 0), (0, 2, false, 4, 0), (0, 15, false, 5, 0), (0, 19, false, 6, 0), (-4, 20, false, 7, 0), (-4, 20, false, 8, 0), (1, 20, false, 9, 0), (0, 0, false, 10, 0)], [])]
theorem ar_i20 : (([0, 1, 2, 3, 8, 9, 10, 11] : List Nat).all fun aa => (ai_ex (hk []) 300 160 tb_m160 10 [81] (83, [(0, (0, 49, 0, 0)), (2, (1, 2, 0, 0)), (3, (1, 3, 0, 0)), (4, (1, 4, 0, 0)), (5, (1, 0, 0, (aa : Int))), (6, (1, 6, 0, 0)), (7, (1, 7, 0, 0)), (8, (1, 8, 0, 0)), (9, (1, 9, 0, 0)), (10, (1, 10, 0, 0)), (11, (1, 0, 0, 2))], [(1, 0, 0, 2)], [(0, 0, false, 0, 0), (0, 2555, false, 1, 0), (0, 20, false, 2, 0), (0, 20, false, 3, 0), (0, 2, false, 4, 0), (0, 15, false, 5, 0), (0, 19, false, 6, 0), (-4, 20, false, 7, 0), (-4, 20, false, 8, 0), (1, 20, false, 9, 0), (0, 1, false, 10, 0)], [], [])).any fun xs => xs.all fun x => (ar_i20_S aa : List sm_t).any fun y => sm_is [] x y) = true := by decide +kernel
theorem ar_b3 : ∀ a, a < 16 → (a.testBit 3 = true → a ∈ ([8, 9, 10, 11, 12, 13, 14, 15] : List Nat)) ∧ (¬ a.testBit 3 = true → a ∈ ([0, 1, 2, 3, 4, 5, 6, 7] : List Nat)) := by decide +kernel
def ar_i31_S (aa : Nat) : List sm_t := [
  (81, [(0, (0, 49, 0, 0)), (2, (1, 2, 0, 0)), (3, (1, 3, 0, 0)), (4, (1, 4, 0, 0)), (5, (1, 0, 0, (aa : Int))), (6, (1, 6, 0, 0)), (7, (1, 7, 0, 0)), (8, (1, 8, 0, 0)), (9, (1, 9, 0, 0)), (10, (1, 0, 0, 1)), (11, (1, 0, 0, 4))], [], [], [(0, 0, false, 0, 0), (0, 2555, false, 1, 0), (0, 20, false, 2, 0), (0, 20, false, 3, 0), (0, 2, false, 4, 0), (0, 15, false, 5, 0), (0, 19, false, 6, 0), (-4, 20, false, 7, 0), (-4, 20, false, 8, 0), (1, 20, false, 9, 0), (1, 1, false, 10, 0)], [(140, 10, 0, 10, 0)]),
  (81, [(0, (0, 49, 0, 0)), (2, (1, 2, 0, 0)), (3, (1, 3, 0, 0)), (4, (1, 4, 0, 0)), (5, (1, 0, 0, (aa : Int))), (6, (1, 6, 0, 0)), (7, (1, 7, 0, 0)), (8, (1, 8, 0, 0)), (9, (1, 9, 0, 0)), (10, (1, 0, 0, 0)), (11, (1, 0, 0, 4))], [], [], [(0, 0, false, 0, 0), (0, 2555, false, 1, 0), (0, 20, false, 2, 0), (1, 20, false, 3, 0), (0, 2, false, 4, 0), (0, 15, false, 5, 0), (0, 19, false, 6, 0), (-4, 20, false, 7, 0), (-4, 20, false, 8, 0), (1, 20, false, 9, 0), (0, 0, false, 10, 0), (1, 40, false, 11, 0)], [(4, 9, 11, 9, 1), (502, 2, 2, 11, 0)]),
  (81, [(0, (0, 49, 0, 0)), (2, (1, 2, 0, 0)), (3, (1, 3, 0, 0)), (4, (1, 4, 0, 0)), (5, (1, 0, 0, (aa : Int))), (6, (1, 6, 0, 0)), (7, (1, 7, 0, 0)), (8, (1, 8, 0, 0)), (9, (1, 9, 0, 0)), (10, (1, 0, 0, 1)), (11, (1, 0, 0, 4))], [], [], [(0, 0, false, 0, 0), (0, 2555, false, 1, 0), (0, 20, false, 2, 0), (0, 0, false, 3, 0), (0, 2, false, 4, 0), (0, 15, false, 5, 0), (0, 19, false, 6, 0), (-4, 20, false, 7, 0), (-4, 20, false, 8, 0), (1, 20, false, 9, 0), (0, 0, false, 10, 0), (1, 40, false, 11, 0)], [(4, 9, 11, 9, 1), (502, 2, 2, 11, 0)]),
  (81, [(0, (0, 49, 0, 0)), (2, (1, 2, 0, 0)), (3, (1, 3, 0, 0)), (4, (1, 4, 0, 0)), (5, (1, 0, 0, (aa : Int))), (6, (1, 6, 0, 0)), (7, (1, 7, 0, 0)), (8, (1, 8, 0, 0)), (9, (1, 9, 0, 0)), (10, (1, 0, 0, 0)), (11, (1, 0, 0, 4))], [], [], [(0, 0, false, 0, 0), (0, 2555, false, 1, 0), (0, 20, false, 2, 0), (0, 20, false, 3, 0), (0, 2, false, 4, 0), (0, 15, false, 5, 0), (0, 19, false, 6, 0), (-4, 20, false, 7, 0), (-4, 20, false, 8, 0), (1, 20, false, 9, 0), (0, 0, false, 10, 0), (0, 19, false, 11, 0), (0, 40, false, 12, 0), (-39, 20, false, 13, 0)], [(140, 13, 3, 13, 0), (0, 9, 12, 13, 0), (502, 2, 2, 12, 0), (5, 9, 11, 9, 1), (502, 2, 2, 11, 0)]),
  (81, [(0, (0, 49, 0, 0)), (2, (1, 2, 0, 0)), (3, (1, 3, 0, 0)), (4, (1, 4, 0, 0)), (5, (1, 0, 0, (aa : Int))), (6, (1, 6, 0, 0)), (7, (1, 7, 0, 0)), (8, (1, 8, 0, 0)), (9, (1, 9, 0, 0)), (10, (1, 0, 0, 1)), (11, (1, 0, 0, 4))], [], [], [(0, 0, false, 0, 0), (0, 2555, false, 1, 0), (0, 20, false, 2, 0), (0, 20, false, 3, 0), (0, 2, false, 4, 0), (0, 15, false, 5, 0), (0, 19, false, 6, 0), (-4, 20, false, 7, 0), (-4, 20, false, 8, 0), (1, 20, false, 9, 0), (0, 0, false, 10, 0), (0, 19, false, 11, 0), (0, 40, false, 12, 0), (0, 20, false, 13, 0)], [(4, 13, 3, 13, 1), (5, 13, 3, 13, 0), (0, 9, 12, 13, 0), (502, 2, 2, 12, 0), (5, 9, 11, 9, 1), (502, 2, 2, 11, 0)])]
theorem ar_i31 : (([8, 9, 10, 11, 12, 13, 14, 15] : List Nat).all fun aa => (ai_ex (hk []) 300 160 tb_m160 10 [81] (83, [(0, (0, 49, 0, 0)), (2, (1, 2, 0, 0)), (3, (1, 3, 0, 0)), (4, (1, 4, 0, 0)), (5, (1, 0, 0, (aa : Int))), (6, (1, 6, 0, 0)), (7, (1, 7, 0, 0)), (8, (1, 8, 0, 0)), (9, (1, 9, 0, 0)), (10, (1, 10, 0, 0)), (11, (1, 0, 0, 3))], [(1, 0, 0, 3)], [(0, 0, false, 0, 0), (0, 2555, false, 1, 0), (0, 20, false, 2, 0), (0, 20, false, 3, 0), (0, 2, false, 4, 0), (0, 15, false, 5, 0), (0, 19, false, 6, 0), (-4, 20, false, 7, 0), (-4, 20, false, 8, 0), (1, 20, false, 9, 0), (0, 1, false, 10, 0)], [], [])).any fun xs => xs.all fun x => (ar_i31_S aa : List sm_t).any fun y => sm_is [] x y) = true := by decide +kernel
def ar_i30_S (aa : Nat) : List sm_t := [
  (81, [(0, (0, 49, 0, 0)), (2, (1, 2, 0, 0)), (3, (1, 3, 0, 0)), (4, (1, 4, 0, 0)), (5, (1, 0, 0, (aa : Int))), (6, (1, 6, 0, 0)), (7, (1, 7, 0, 0)), (8, (1, 8, 0, 0)), (9, (1, 9, 0, 0)), (10, (1, 0, 0, 1)), (11, (1, 0, 0, 4))], [], [], [(0, 0, false, 0, 0), (0, 2555, false, 1, 0), (0, 20, false, 2, 0), (0, 20, false, 3, 0), (0, 2, false, 4, 0), (0, 15, false, 5, 0), (0, 19, false, 6, 0), (-4, 20, false, 7, 0), (-4, 20, false, 8, 0), (1, 20, false, 9, 0), (1, 1, false, 10, 0)], [(140, 10, 0, 10, 0)]),
  (81, [(0, (0, 49, 0, 0)), (2, (1, 2, 0, 0)), (3, (1, 3, 0, 0)), (4, (1, 4, 0, 0)), (5, (1, 0, 0, (aa : Int))), (6, (1, 6, 0, 0)), (7, (1, 7, 0, 0)), (8, (1, 8, 0, 0)), (9, (1, 9, 0, 0)), (10, (1, 0, 0, 0)), (11, (1, 0, 0, 4))], [], [], [(0, 0, false, 0, 0), (0, 2555, false, 1, 0), (0, 20, false, 2, 0), (0, 20, false, 3, 0), (0, 2, false, 4, 0), (0, 15, false, 5, 0), (0, 19, false, 6, 0), (-4, 20, false, 7, 0), (-4, 20, false, 8, 0), (1, 20, false, 9, 0), (0, 0, false, 10, 0)], [])]
theorem ar_i30 : (([0, 1, 2, 3, 4, 5, 6, 7] : List Nat).all fun aa => (ai_ex (hk []) 300 160 tb_m160 10 [81] (83, [(0, (0, 49, 0, 0)), (2, (1, 2, 0, 0)), (3, (1, 3, 0, 0)), (4, (1, 4, 0, 0)), (5, (1, 0, 0, (aa : Int))), (6, (1, 6, 0, 0)), (7, (1, 7, 0, 0)), (8, (1, 8, 0, 0)), (9, (1, 9, 0, 0)), (10, (1, 10, 0, 0)), (11, (1, 0, 0, 3))], [(1, 0, 0, 3)], [(0, 0, false, 0, 0), (0, 2555, false, 1, 0), (0, 20, false, 2, 0), (0, 20, false, 3, 0), (0, 2, false, 4, 0), (0, 15, false, 5, 0), (0, 19, false, 6, 0), (-4, 20, false, 7, 0), (-4, 20, false, 8, 0), (1, 20, false, 9, 0), (0, 1, false, 10, 0)], [], [])).any fun xs => xs.all fun x => (ar_i30_S aa : List sm_t).any fun y => sm_is [] x y) = true := by decide +kernel
def ar_mx_S : List sm_t := [
  (205, [], [(1, 8, 0, 0)], [], [(0, 0, false, 0, 0), (0, 2555, false, 1, 0), (0, 20, false, 2, 0), (0, 20, false, 3, 0), (2, 2, false, 4, 0), (0, 15, false, 5, 0), (0, 20, false, 6, 0), (-4, 20, false, 7, 0), (-4, 20, false, 8, 0), (21, 21, false, 9, 0)], [(140, 4, 0, 4, 1), (140, 4, 0, 4, 0)]),
  (205, [], [(1, 7, 0, 0)], [], [(0, 0, false, 0, 0), (0, 2555, false, 1, 0), (0, 20, false, 2, 0), (0, 20, false, 3, 0), (1, 1, false, 4, 0), (0, 15, false, 5, 0), (0, 20, false, 6, 0), (-4, 20, false, 7, 0), (-4, 20, false, 8, 0), (21, 21, false, 9, 0)], [(140, 4, 0, 4, 0)]),
  (205, [], [(1, 6, 0, 0)], [], [(0, 0, false, 0, 0), (0, 2555, false, 1, 0), (0, 20, false, 2, 0), (0, 20, false, 3, 0), (0, 0, false, 4, 0), (0, 15, false, 5, 0), (0, 20, false, 6, 0), (-4, 20, false, 7, 0), (-4, 20, false, 8, 0), (21, 21, false, 9, 0)], [])]
theorem ar_mx : ((ai_ex (hk []) 300 160 tb_m160 10 [] (70, [(0, (0, 49, 0, 0)), (2, (1, 2, 0, 0)), (3, (1, 3, 0, 0)), (4, (1, 4, 0, 0)), (5, (1, 5, 0, 0)), (6, (1, 6, 0, 0)), (7, (1, 7, 0, 0)), (8, (1, 8, 0, 0)), (9, (1, 9, 0, 0))], [(1, 9, 0, 0)], [(0, 0, false, 0, 0), (0, 2555, false, 1, 0), (0, 20, false, 2, 0), (0, 20, false, 3, 0), (0, 2, false, 4, 0), (0, 15, false, 5, 0), (0, 20, false, 6, 0), (-4, 20, false, 7, 0), (-4, 20, false, 8, 0), (21, 21, false, 9, 0)], [], [])).any fun xs => xs.all fun x => (ar_mx_S : List sm_t).any fun y => sm_is [] x y) = true := by decide +kernel
theorem ar_m1 : ((ai_ex (hk []) 300 160 tb_m160 10 [81] (70, [(0, (0, 49, 0, 0)), (2, (1, 2, 0, 0)), (3, (1, 3, 0, 0)), (4, (1, 4, 0, 0)), (5, (1, 5, 0, 0)), (6, (1, 6, 0, 0)), (7, (1, 7, 0, 0)), (8, (1, 8, 0, 0)), (9, (1, 9, 0, 0))], [(1, 9, 0, 0)], [(0, 0, false, 0, 0), (0, 2555, false, 1, 0), (0, 20, false, 2, 0), (0, 20, false, 3, 0), (0, 2, false, 4, 0), (0, 15, false, 5, 0), (0, 19, false, 6, 0), (-4, 20, false, 7, 0), (-4, 20, false, 8, 0), (1, 20, false, 9, 0)], [], [])).any fun xs => xs.all fun x => ([(81, [(0, (0, 49, 0, 0)), (2, (1, 2, 0, 0)), (3, (1, 3, 0, 0)), (4, (1, 4, 0, 0)), (5, (1, 5, 0, 0)), (6, (1, 6, 0, 0)), (7, (1, 7, 0, 0)), (8, (1, 8, 0, 0)), (9, (1, 9, 0, 0)), (10, (1, 0, 0, 0)), (11, (1, 0, 0, 0))], [], [], [(0, 0, false, 0, 0), (0, 2555, false, 1, 0), (0, 20, false, 2, 0), (0, 20, false, 3, 0), (0, 2, false, 4, 0), (0, 15, false, 5, 0), (0, 19, false, 6, 0), (-4, 20, false, 7, 0), (-4, 20, false, 8, 0), (1, 20, false, 9, 0)], [])] : List sm_t).any fun y => sm_is [] x y) = true := by decide +kernel
def ar_m2_S : List sm_t := [
  (68, [(0, (0, 49, 0, 0)), (2, (1, 2, 0, 0)), (3, (1, 3, 0, 0)), (4, (1, 4, 0, 0)), (5, (1, 5, 0, 0)), (6, (1, 6, 0, 0)), (7, (1, 7, 0, 0)), (8, (1, 8, 0, 0)), (9, (1, 9, 0, 1))], [], [], [(0, 0, false, 0, 0), (0, 2555, false, 1, 0), (0, 20, false, 2, 0), (0, 20, false, 3, 0), (0, 2, false, 4, 0), (0, 15, false, 5, 0), (0, 19, false, 6, 0), (-4, 20, false, 7, 0), (-4, 20, false, 8, 0), (1, 20, false, 9, 0), (0, 0, false, 10, 0)], []),
  (68, [(0, (0, 49, 0, 0)), (2, (1, 2, 0, 0)), (3, (1, 3, 0, 0)), (4, (1, 4, 0, 0)), (5, (1, 5, 0, 0)), (6, (1, 6, 0, 1)), (7, (1, 7, 0, 0)), (8, (1, 9, 0, 0)), (9, (1, 9, 0, 1))], [], [], [(0, 0, false, 0, 0), (0, 2555, false, 1, 0), (0, 20, false, 2, 0), (0, 20, false, 3, 0), (0, 2, false, 4, 0), (0, 15, false, 5, 0), (1, 19, false, 6, 0), (-4, 20, false, 7, 0), (-4, 20, false, 8, 0), (1, 20, false, 9, 0), (1, 1, true, 10, 0)], [(140, 6, 0, 6, 0), (140, 10, 0, 10, 0)]),
  (68, [(0, (0, 49, 0, 0)), (2, (1, 2, 0, 0)), (3, (1, 3, 0, 0)), (4, (1, 4, 0, 0)), (5, (1, 5, 0, 0)), (6, (1, 6, 0, 1)), (7, (1, 9, 0, 0)), (8, (1, 9, 0, 0)), (9, (1, 9, 0, 1))], [], [], [(0, 0, false, 0, 0), (0, 2555, false, 1, 0), (0, 20, false, 2, 0), (0, 20, false, 3, 0), (0, 2, false, 4, 0), (0, 15, false, 5, 0), (0, 0, false, 6, 0), (-4, 20, false, 7, 0), (-4, 20, false, 8, 0), (1, 20, false, 9, 0), (1, 1, true, 10, 0)], [(140, 10, 0, 10, 0)])]
theorem ar_m2 : ((ai_ex (hk []) 300 160 tb_m160 10 [68] (128, [(0, (0, 49, 0, 0)), (2, (1, 2, 0, 0)), (3, (1, 3, 0, 0)), (4, (1, 4, 0, 0)), (5, (1, 5, 0, 0)), (6, (1, 6, 0, 0)), (7, (1, 7, 0, 0)), (8, (1, 8, 0, 0)), (9, (1, 9, 0, 0)), (10, (1, 10, 0, 0))], [], [(0, 0, false, 0, 0), (0, 2555, false, 1, 0), (0, 20, false, 2, 0), (0, 20, false, 3, 0), (0, 2, false, 4, 0), (0, 15, false, 5, 0), (0, 19, false, 6, 0), (-4, 20, false, 7, 0), (-4, 20, false, 8, 0), (1, 20, false, 9, 0), (0, 1, false, 10, 0)], [], [])).any fun xs => xs.all fun x => (ar_m2_S : List sm_t).any fun y => sm_is [] x y) = true := by decide +kernel
theorem ar_m3 : ((List.range 4).all fun t => (ai_ex (hk []) 300 160 tb_m160 10 [49] (0, [(0, (0, 49, 0, 0)), (1, (1, 0, 0, (t : Int))), (2, (1, 2, 0, 0)), (3, (1, 3, 0, 0)), (4, (1, 4, 0, 0))], [], [(0, 0, false, 0, 0), (0, 2555, false, 1, 0), (0, 20, false, 2, 0), (0, 20, false, 3, 0), (0, 2, false, 4, 0), ((t : Int) + 1, 4, false, 5, 0)], [(49, 1, (1, 5, 0, 0))], [])).any fun xs => xs.all fun x => ([(49, [(0, (0, 49, 0, 0)), (2, (1, 2, 0, 0)), (3, (1, 3, 0, 0)), (4, (1, 4, 0, 0))], [(1, 0, 0, (t : Int)), (0, 49, 0, 0)], [], [(0, 0, false, 0, 0), (0, 2555, false, 1, 0), (0, 20, false, 2, 0), (0, 20, false, 3, 0), (0, 2, false, 4, 0), ((t : Int) + 1, 4, false, 5, 0)], [])] : List sm_t).any fun y => sm_is [] x y) = true := by decide +kernel
theorem ar_m4 : ((ai_ex (hk []) 300 160 tb_m160 10 [68] (52, [(0, (0, 49, 0, 0)), (2, (1, 2, 0, 0)), (3, (1, 3, 0, 0)), (4, (1, 4, 0, 0))], [(1, 5, 0, 0)], [(0, 0, false, 0, 0), (0, 2555, false, 1, 0), (0, 20, false, 2, 0), (0, 20, false, 3, 0), (0, 2, false, 4, 0), (0, 15, false, 5, 0)], [], [])).any fun xs => xs.all fun x => ([(68, [(0, (0, 49, 0, 0)), (2, (1, 2, 0, 0)), (3, (1, 3, 0, 0)), (4, (1, 4, 0, 0)), (5, (1, 5, 0, 0)), (6, (1, 0, 0, 0)), (7, (1, 0, 0, -4)), (8, (1, 0, 0, -4)), (9, (1, 0, 0, 1))], [], [], [(0, 0, false, 0, 0), (0, 2555, false, 1, 0), (0, 20, false, 2, 0), (0, 20, false, 3, 0), (0, 2, false, 4, 0), (0, 15, false, 5, 0)], [])] : List sm_t).any fun y => sm_is [] x y) = true := by decide +kernel
section XAR
variable {ad : List Nat} {M : ai_m} {d : Nat} {p : Program} {l : Launch} {e : Env} {R : Room} {s : State} {m : MethodId} {args : Array Value} {below : List Frame} {meth : Method} {c : Code} {D : va_G} {tys : ai_ty} {A : Nat → Prop} {b L : Nat} {sx : Nat → Int32} {cells slots : Nat} {Q : State → Prop}
theorem ar_cl {a0 aa : Nat} {R0 : Int × Int × Int} {zp zy zw zo : Int32} {ws0 : va_W} (C : ai_cx tb_m84 10 p R s m args c D tys A b L sx cells slots) (ha0 : ad[0]? = some a0) (hp : 0 ≤ zp.toInt ∧ zp.toInt ≤ 20) (hy : 0 ≤ zy.toInt ∧ zy.toInt ≤ 20) (hzw : 0 ≤ zw.toInt ∧ zw.toInt ≤ 2) (haa : aa < 16) (eo : zo.toInt = aa)
    (kk : ∀ (pcr : Nat) (ws' : va_W) (z : Int32) (lv' : List (Nat × Value)), pcr ∈ [123, 137] → ai_wd tb_TY ad tys ws' → ai_fr [] ws0 ws' → z.toInt = arW R0 zw.toInt → hG tb_m84 p l e R s m args below meth c D A cells slots Q pcr lv' [.int z] ws') :
    ∀ (f : Nat) (zn zl zg zs : Int32) (ws : va_W), zs.toInt + f = 21 → 1 ≤ zs.toInt → (0 ≤ zn.toInt ∧ zn.toInt + f ≤ 20) → (-4 ≤ zl.toInt ∧ zl.toInt ≤ 20) → (-4 ≤ zg.toInt ∧ zg.toInt ≤ 20) → arF (arK aa zp.toInt zy.toInt) f zs.toInt zn.toInt zl.toInt zg.toInt = R0 → ai_wd tb_TY ad tys ws → ai_fr [] ws0 ws → hG tb_m84 p l e R s m args below meth c D A cells slots Q 67 [(0, .ref a0), (2, .int zp), (3, .int zy), (4, .int zw), (5, .int zo), (6, .int zn), (7, .int zl), (8, .int zg), (9, .int zs)] [] ws := by
  intro f
  induction f with
  | zero =>
    intro zn zl zg zs ws hf h1 hn hl hgr hR hw hfr
    have hR' : (zn.toInt, zl.toInt, zg.toInt) = R0 := hR
    refine hildw (j := 9) (x := zs) C (tv_m84.1.1.1 (67, .iload 9, 2) (List.mem_of_getElem? (i := 35) rfl)) (List.mem_of_getElem? (i := 8) rfl) ?_
    refine hsum (st := (69, [(0, (0, 0, 0, 0)), (2, (1, 2, 0, 0)), (3, (1, 3, 0, 0)), (4, (1, 4, 0, 0)), (5, (1, 5, 0, 0)), (6, (1, 6, 0, 0)), (7, (1, 7, 0, 0)), (8, (1, 8, 0, 0)), (9, (1, 9, 0, 0))], [(1, 9, 0, 0)], [(0, 0, false, 0, 0), (0, 2555, false, 1, 0), (0, 20, false, 2, 0), (0, 20, false, 3, 0), (0, 2, false, 4, 0), (0, 15, false, 5, 0), (0, 20, false, 6, 0), (-4, 20, false, 7, 0), (-4, 20, false, 8, 0), (21, 21, false, 9, 0)], [], [])) ar_cx rfl C (r := [0, 0, zp.toInt, zy.toInt, zw.toInt, zo.toInt, zn.toInt, zl.toInt, zg.toInt, zs.toInt]) ⟨en_mk (by simp only [en_b, and_true]; omega) rfl, sb0, ⟨rfl, Or.inl ⟨rfl, a0, ha0, rfl⟩, rfl, int_dv (z := zp.toInt) rfl (by omega), rfl, int_dv (z := zy.toInt) rfl (by omega), rfl, int_dv (z := zw.toInt) rfl (by omega), rfl, int_dv (z := zo.toInt) rfl (by omega), rfl, int_dv (z := zn.toInt) rfl (by omega), rfl, int_dv (z := zl.toInt) rfl (by omega), rfl, int_dv (z := zg.toInt) rfl (by omega), rfl, int_dv (z := zs.toInt) rfl (by omega), trivial⟩, ⟨int_dv (z := zs.toInt) rfl (by omega), trivial⟩, hw, k0, fun _ _ _ _ h => h, fun h => by cases h⟩ (fun x hx r1 lv1 st1 ws1 hx1 hb1 hl1 hs1 hlo1 hsk1 hw1 hV1 hf1 _ => ?_)
    unfold ar_cx_S at hx
    have m1_2 := nm_x hx1 (k := 2) rfl
    have m1_3 := nm_x hx1 (k := 3) rfl
    have m1_4 := nm_x hx1 (k := 4) rfl
    have m1_5 := nm_x hx1 (k := 5) rfl
    have m1_6 := nm_x hx1 (k := 6) rfl
    have m1_7 := nm_x hx1 (k := 7) rfl
    have m1_8 := nm_x hx1 (k := 8) rfl
    have m1_9 := nm_x hx1 (k := 9) rfl
    rcases List.mem_cons.mp hx with rfl | hx
    · skip
      dsimp only at hlo1 hsk1 ⊢
      simp (config := { decide := true }) only [bnd_b, lin_b, lin_q, Nat.reduceAdd, Nat.zero_add, Nat.reduceEqDiff, reduceIte, and_true, Int.add_zero] at hb1 hl1
      obtain ⟨z, rfl, hz⟩ := sk1 rfl hsk1
      unfold vn at hz
      dsimp only at hz
      refine kk 137 ws1 z lv1 (by decide) hw1 (hfr.tr hf1) ?_
      rw [← hR']
      unfold arW
      dsimp only
      rw [if_neg (by omega), if_neg (by omega)]
      omega
    rcases List.mem_cons.mp hx with rfl | hx
    · skip
      dsimp only at hlo1 hsk1 ⊢
      simp (config := { decide := true }) only [bnd_b, lin_b, lin_q, Nat.reduceAdd, Nat.zero_add, Nat.reduceEqDiff, reduceIte, and_true, Int.add_zero] at hb1 hl1
      obtain ⟨z, rfl, hz⟩ := sk1 rfl hsk1
      unfold vn at hz
      dsimp only at hz
      refine kk 137 ws1 z lv1 (by decide) hw1 (hfr.tr hf1) ?_
      rw [← hR']
      unfold arW
      dsimp only
      rw [if_neg (by omega), if_pos (by omega)]
      omega
    have hx0 := List.mem_singleton.mp hx
    subst hx0
    dsimp only at hlo1 hsk1 ⊢
    simp (config := { decide := true }) only [bnd_b, lin_b, lin_q, Nat.reduceAdd, Nat.zero_add, Nat.reduceEqDiff, reduceIte, and_true, Int.add_zero] at hb1 hl1
    obtain ⟨z, rfl, hz⟩ := sk1 rfl hsk1
    unfold vn at hz
    dsimp only at hz
    refine kk 123 ws1 z lv1 (by decide) hw1 (hfr.tr hf1) ?_
    rw [← hR']
    unfold arW
    dsimp only
    rw [if_pos (by omega)]
    omega
  | succ f ih =>
    intro zn zl zg zs ws hf h1 hn hl hgr hR hw hfr
    have hs20 : zs.toInt ≤ 20 := by omega
    refine hildw (j := 9) (x := zs) C (tv_m84.1.1.1 (67, .iload 9, 2) (List.mem_of_getElem? (i := 35) rfl)) (List.mem_of_getElem? (i := 8) rfl) ?_
    refine hsum (st := (69, [(0, (0, 0, 0, 0)), (2, (1, 2, 0, 0)), (3, (1, 3, 0, 0)), (4, (1, 4, 0, 0)), (5, (1, 5, 0, 0)), (6, (1, 6, 0, 0)), (7, (1, 7, 0, 0)), (8, (1, 8, 0, 0)), (9, (1, 9, 0, 0))], [(1, 9, 0, 0)], [(0, 0, false, 0, 0), (0, 2555, false, 1, 0), (0, 20, false, 2, 0), (0, 20, false, 3, 0), (0, 2, false, 4, 0), (0, 15, false, 5, 0), (0, 19, false, 6, 0), (-4, 20, false, 7, 0), (-4, 20, false, 8, 0), (1, 20, false, 9, 0)], [], [])) ar_c1 rfl C (r := [0, 0, zp.toInt, zy.toInt, zw.toInt, zo.toInt, zn.toInt, zl.toInt, zg.toInt, zs.toInt]) ⟨en_mk (by simp only [en_b, and_true]; omega) rfl, sb0, ⟨rfl, Or.inl ⟨rfl, a0, ha0, rfl⟩, rfl, int_dv (z := zp.toInt) rfl (by omega), rfl, int_dv (z := zy.toInt) rfl (by omega), rfl, int_dv (z := zw.toInt) rfl (by omega), rfl, int_dv (z := zo.toInt) rfl (by omega), rfl, int_dv (z := zn.toInt) rfl (by omega), rfl, int_dv (z := zl.toInt) rfl (by omega), rfl, int_dv (z := zg.toInt) rfl (by omega), rfl, int_dv (z := zs.toInt) rfl (by omega), trivial⟩, ⟨int_dv (z := zs.toInt) rfl (by omega), trivial⟩, hw, k0, fun _ _ _ _ h => h, fun h => by cases h⟩ (fun x hx r1 lv1 st1 ws1 hx1 hb1 hl1 hs1 hlo1 hsk1 hw1 hV1 hf1 _ => ?_)
    have hx9 := List.mem_singleton.mp hx
    subst hx9
    dsimp only at hlo1 hsk1 ⊢
    obtain ⟨l10, rfl, p10⟩ := lo_ref ha0 hlo1
    obtain ⟨y11, l11, rfl, d11, p11⟩ := lo_int rfl p10
    obtain ⟨y12, l12, rfl, d12, p12⟩ := lo_int rfl p11
    obtain ⟨y13, l13, rfl, d13, p13⟩ := lo_int rfl p12
    obtain ⟨y14, l14, rfl, d14, p14⟩ := lo_int rfl p13
    obtain ⟨y15, l15, rfl, d15, p15⟩ := lo_int rfl p14
    obtain ⟨y16, l16, rfl, d16, p16⟩ := lo_int rfl p15
    obtain ⟨y17, l17, rfl, d17, p17⟩ := lo_int rfl p16
    obtain ⟨y18, l18, rfl, d18, p18⟩ := lo_int rfl p17
    cases lo_nil p18
    rw [vn_at hx1 (n := 2) (z := zp.toInt) rfl] at d11
    have e11 : zp = y11 := Int32.toInt_inj.mp (by omega)
    subst e11
    rw [vn_at hx1 (n := 3) (z := zy.toInt) rfl] at d12
    have e12 : zy = y12 := Int32.toInt_inj.mp (by omega)
    subst e12
    rw [vn_at hx1 (n := 4) (z := zw.toInt) rfl] at d13
    have e13 : zw = y13 := Int32.toInt_inj.mp (by omega)
    subst e13
    rw [vn_at hx1 (n := 5) (z := zo.toInt) rfl] at d14
    have e14 : zo = y14 := Int32.toInt_inj.mp (by omega)
    subst e14
    rw [vn_at hx1 (n := 6) (z := zn.toInt) rfl] at d15
    have e15 : zn = y15 := Int32.toInt_inj.mp (by omega)
    subst e15
    rw [vn_at hx1 (n := 7) (z := zl.toInt) rfl] at d16
    have e16 : zl = y16 := Int32.toInt_inj.mp (by omega)
    subst e16
    rw [vn_at hx1 (n := 8) (z := zg.toInt) rfl] at d17
    have e17 : zg = y17 := Int32.toInt_inj.mp (by omega)
    subst e17
    rw [vn_at hx1 (n := 9) (z := zs.toInt) rfl] at d18
    have e18 : zs = y18 := Int32.toInt_inj.mp (by omega)
    subst e18
    obtain ⟨x10, s10, rfl, c10, g10⟩ := hsk1.cons
    obtain ⟨x11, s11, rfl, c11, g11⟩ := g10.cons
    obtain ⟨x12, s12, rfl, c12, g12⟩ := g11.cons
    obtain ⟨x13, s13, rfl, c13, g13⟩ := g12.cons
    cases g13.nil
    obtain ⟨u10, rfl, w10⟩ := dvn c10 (hx1.at (k := 2) rfl)
    obtain ⟨u11, rfl, w11⟩ := dvn c11 (hx1.at (k := 9) rfl)
    obtain ⟨u12, rfl, w12⟩ := dvn c12 (hx1.at (k := 3) rfl)
    obtain ⟨u13, rfl, w13⟩ := dvn c13 (hx1.at (k := 5) rfl)
    refine hcallS (q := (227, 1, 97, 3, 0)) (M' := tb_m97) (As := [.int u12, .int u11, .int u10]) (rest := [.int u13]) (rets := [36]) (P := fun w z => ai_wd tb_TY ad tys w ∧ ai_fr [] ws1 w ∧ z.toInt = ((ktF zs.toInt zp.toInt zy.toInt 4 : Nat) : Int)) C (by decide) (tv_m84.1.1.1 (80, .invokestatic 227, 3) (List.mem_of_getElem? (i := 42) rfl)) (tv_m84.2 _ (List.mem_of_getElem? (i := 34) rfl)) (Or.inl rfl) rfl rfl rfl (Nat.le_of_ble_eq_true rfl) (Nat.le_of_ble_eq_true rfl) rfl (Nat.le_of_ble_eq_true rfl) ?_ ?_ ?_
    · intro pcr hp
      simp only [List.mem_cons, List.not_mem_nil, or_false] at hp
      rcases hp with rfl
      · exact tv_m97.1.1.1 (36, .ireturn, 1) (List.mem_of_getElem? (i := 22) rfl)
    · intro p2 e2 R2 s2 m2 args2 below2 meth2 c2 Q2 C2 kk2
      exact kt_all (mm_cx (by decide) C2) (by omega) (by omega) (by omega) hw1 (fun w z lv2 h1 h2 h3 => kk2 36 w z lv2 (by decide) ⟨h1, h2, by rw [h3, show u11.toInt = zs.toInt by omega, show u10.toInt = zp.toInt by omega, show u12.toInt = zy.toInt by omega]⟩)
    · intro ws2 zk hP
      obtain ⟨hw2, hf2, ezk⟩ := hP
      have bt := ktF_b zs.toInt zp.toInt zy.toInt 4 (by decide)
      have q1 : u13 = Int32.ofNat aa := i32_of (by omega) (by omega)
      have q2 : zk = Int32.ofNat (ktF zs.toInt zp.toInt zy.toInt 4) := i32_of (by omega) (by omega)
      have han := and_i _ haa _ bt
      have hab := and_b _ haa _ bt
      rw [q1, q2]
      refine hiand (pc := 83) C (tv_m84.1.1.1 (83, .iand, 1) (List.mem_of_getElem? (i := 43) rfl)) ?_
      generalize (Int32.ofNat aa &&& Int32.ofNat (ktF zs.toInt zp.toInt zy.toInt 4)) = zv at han ⊢
      refine hsum (st := (84, [(0, (0, 0, 0, 0)), (2, (1, 2, 0, 0)), (3, (1, 3, 0, 0)), (4, (1, 4, 0, 0)), (5, (1, 5, 0, 0)), (6, (1, 6, 0, 0)), (7, (1, 7, 0, 0)), (8, (1, 8, 0, 0)), (9, (1, 9, 0, 0))], [(1, 10, 0, 0)], [(0, 0, false, 0, 0), (0, 2555, false, 1, 0), (0, 20, false, 2, 0), (0, 20, false, 3, 0), (0, 2, false, 4, 0), (0, 15, false, 5, 0), (0, 19, false, 6, 0), (-4, 20, false, 7, 0), (-4, 20, false, 8, 0), (1, 20, false, 9, 0), (0, 15, false, 10, 0)], [], [])) ar_c2 rfl C (r := [0, 0, zp.toInt, zy.toInt, zw.toInt, zo.toInt, zn.toInt, zl.toInt, zg.toInt, zs.toInt, zv.toInt]) ⟨en_mk (by simp only [en_b, and_true]; omega) rfl, sb0, ⟨rfl, Or.inl ⟨rfl, a0, ha0, rfl⟩, rfl, int_dv (z := zp.toInt) rfl (by omega), rfl, int_dv (z := zy.toInt) rfl (by omega), rfl, int_dv (z := zw.toInt) rfl (by omega), rfl, int_dv (z := zo.toInt) rfl (by omega), rfl, int_dv (z := zn.toInt) rfl (by omega), rfl, int_dv (z := zl.toInt) rfl (by omega), rfl, int_dv (z := zg.toInt) rfl (by omega), rfl, int_dv (z := zs.toInt) rfl (by omega), trivial⟩, ⟨int_dv (z := zv.toInt) rfl (by omega), trivial⟩, hw2, k0, fun _ _ _ _ h => h, fun h => by cases h⟩ (fun x hx r3 lv3 st3 ws3 hx3 hb3 hl3 hs3 hlo3 hsk3 hw3 hV3 hf3 _ => ?_)
      unfold ar_c2_S at hx
      have m3_2 := nm_x hx3 (k := 2) rfl
      have m3_3 := nm_x hx3 (k := 3) rfl
      have m3_4 := nm_x hx3 (k := 4) rfl
      have m3_5 := nm_x hx3 (k := 5) rfl
      have m3_6 := nm_x hx3 (k := 6) rfl
      have m3_7 := nm_x hx3 (k := 7) rfl
      have m3_8 := nm_x hx3 (k := 8) rfl
      have m3_9 := nm_x hx3 (k := 9) rfl
      have m3_10 := nm_x hx3 (k := 10) rfl
      rcases List.mem_cons.mp hx with rfl | hx
      · skip
        dsimp only at hlo3 hsk3 ⊢
        simp (config := { decide := true }) only [bnd_b, lin_b, lin_q, Nat.reduceAdd, Nat.zero_add, Nat.reduceEqDiff, reduceIte, and_true, Int.add_zero] at hb3 hl3
        cases hsk3.nil
        obtain ⟨l30, rfl, p30⟩ := lo_ref ha0 hlo3
        obtain ⟨y31, l31, rfl, d31, p31⟩ := lo_int rfl p30
        obtain ⟨y32, l32, rfl, d32, p32⟩ := lo_int rfl p31
        obtain ⟨y33, l33, rfl, d33, p33⟩ := lo_int rfl p32
        obtain ⟨y34, l34, rfl, d34, p34⟩ := lo_int rfl p33
        obtain ⟨y35, l35, rfl, d35, p35⟩ := lo_int rfl p34
        obtain ⟨y36, l36, rfl, d36, p36⟩ := lo_int rfl p35
        obtain ⟨y37, l37, rfl, d37, p37⟩ := lo_int rfl p36
        obtain ⟨y38, l38, rfl, d38, p38⟩ := lo_int rfl p37
        cases lo_nil p38
        rw [vn_at hx3 (n := 2) (z := zp.toInt) rfl] at d31
        have e31 : zp = y31 := Int32.toInt_inj.mp (by omega)
        subst e31
        rw [vn_at hx3 (n := 3) (z := zy.toInt) rfl] at d32
        have e32 : zy = y32 := Int32.toInt_inj.mp (by omega)
        subst e32
        rw [vn_at hx3 (n := 4) (z := zw.toInt) rfl] at d33
        have e33 : zw = y33 := Int32.toInt_inj.mp (by omega)
        subst e33
        rw [vn_at hx3 (n := 5) (z := zo.toInt) rfl] at d34
        have e34 : zo = y34 := Int32.toInt_inj.mp (by omega)
        subst e34
        rw [vn_at hx3 (n := 6) (z := zn.toInt) rfl] at d35
        rw [vn_at hx3 (n := 7) (z := zl.toInt) rfl] at d36
        rw [vn_at hx3 (n := 8) (z := zg.toInt) rfl] at d37
        rw [vn_at hx3 (n := 9) (z := zs.toInt) rfl] at d38
        have hK : ¬ arK aa zp.toInt zy.toInt zs.toInt = true := by
          unfold arK
          rw [decide_eq_true (by omega)]
          decide
        refine ih y35 y36 y37 y38 ws3 (by omega) (by omega) (by omega) (by omega) (by omega) ?_ hw3 (((hfr.tr hf1).tr hf2).tr hf3)
        rw [← hR, arF_n hK, show y38.toInt = zs.toInt + 1 by omega, show y35.toInt = zn.toInt by omega, show y36.toInt = zl.toInt by omega, show y37.toInt = zg.toInt by omega]
      rcases List.mem_cons.mp hx with rfl | hx
      · skip
        dsimp only at hlo3 hsk3 ⊢
        simp (config := { decide := true }) only [bnd_b, lin_b, lin_q, Nat.reduceAdd, Nat.zero_add, Nat.reduceEqDiff, reduceIte, and_true, Int.add_zero] at hb3 hl3
        cases hsk3.nil
        obtain ⟨l30, rfl, p30⟩ := lo_ref ha0 hlo3
        obtain ⟨y31, l31, rfl, d31, p31⟩ := lo_int rfl p30
        obtain ⟨y32, l32, rfl, d32, p32⟩ := lo_int rfl p31
        obtain ⟨y33, l33, rfl, d33, p33⟩ := lo_int rfl p32
        obtain ⟨y34, l34, rfl, d34, p34⟩ := lo_int rfl p33
        obtain ⟨y35, l35, rfl, d35, p35⟩ := lo_int rfl p34
        obtain ⟨y36, l36, rfl, d36, p36⟩ := lo_int rfl p35
        obtain ⟨y37, l37, rfl, d37, p37⟩ := lo_int rfl p36
        obtain ⟨y38, l38, rfl, d38, p38⟩ := lo_int rfl p37
        cases lo_nil p38
        rw [vn_at hx3 (n := 2) (z := zp.toInt) rfl] at d31
        have e31 : zp = y31 := Int32.toInt_inj.mp (by omega)
        subst e31
        rw [vn_at hx3 (n := 3) (z := zy.toInt) rfl] at d32
        have e32 : zy = y32 := Int32.toInt_inj.mp (by omega)
        subst e32
        rw [vn_at hx3 (n := 4) (z := zw.toInt) rfl] at d33
        have e33 : zw = y33 := Int32.toInt_inj.mp (by omega)
        subst e33
        rw [vn_at hx3 (n := 5) (z := zo.toInt) rfl] at d34
        have e34 : zo = y34 := Int32.toInt_inj.mp (by omega)
        subst e34
        rw [vn_at hx3 (n := 6) (z := zn.toInt) rfl] at d35
        rw [vn_at hx3 (n := 7) (z := zl.toInt) rfl] at d36
        rw [vn_at hx3 (n := 9) (z := zs.toInt) rfl] at d37
        rw [vn_at hx3 (n := 9) (z := zs.toInt) rfl] at d38
        have hK : arK aa zp.toInt zy.toInt zs.toInt = true := by
          unfold arK
          rw [decide_eq_false (by omega)]
          rfl
        refine ih y35 y36 y37 y38 ws3 (by omega) (by omega) (by omega) (by omega) (by omega) ?_ hw3 (((hfr.tr hf1).tr hf2).tr hf3)
        rw [← hR, arF_y hK, if_neg (by omega), show y38.toInt = zs.toInt + 1 by omega, show y35.toInt = zn.toInt + 1 by omega, show y36.toInt = zl.toInt by omega, show y37.toInt = zs.toInt by omega]
      have hx0 := List.mem_singleton.mp hx
      subst hx0
      dsimp only at hlo3 hsk3 ⊢
      simp (config := { decide := true }) only [bnd_b, lin_b, lin_q, Nat.reduceAdd, Nat.zero_add, Nat.reduceEqDiff, reduceIte, and_true, Int.add_zero] at hb3 hl3
      cases hsk3.nil
      obtain ⟨l30, rfl, p30⟩ := lo_ref ha0 hlo3
      obtain ⟨y31, l31, rfl, d31, p31⟩ := lo_int rfl p30
      obtain ⟨y32, l32, rfl, d32, p32⟩ := lo_int rfl p31
      obtain ⟨y33, l33, rfl, d33, p33⟩ := lo_int rfl p32
      obtain ⟨y34, l34, rfl, d34, p34⟩ := lo_int rfl p33
      obtain ⟨y35, l35, rfl, d35, p35⟩ := lo_int rfl p34
      obtain ⟨y36, l36, rfl, d36, p36⟩ := lo_int rfl p35
      obtain ⟨y37, l37, rfl, d37, p37⟩ := lo_int rfl p36
      obtain ⟨y38, l38, rfl, d38, p38⟩ := lo_int rfl p37
      cases lo_nil p38
      rw [vn_at hx3 (n := 2) (z := zp.toInt) rfl] at d31
      have e31 : zp = y31 := Int32.toInt_inj.mp (by omega)
      subst e31
      rw [vn_at hx3 (n := 3) (z := zy.toInt) rfl] at d32
      have e32 : zy = y32 := Int32.toInt_inj.mp (by omega)
      subst e32
      rw [vn_at hx3 (n := 4) (z := zw.toInt) rfl] at d33
      have e33 : zw = y33 := Int32.toInt_inj.mp (by omega)
      subst e33
      rw [vn_at hx3 (n := 5) (z := zo.toInt) rfl] at d34
      have e34 : zo = y34 := Int32.toInt_inj.mp (by omega)
      subst e34
      rw [vn_at hx3 (n := 6) (z := zn.toInt) rfl] at d35
      rw [vn_at hx3 (n := 9) (z := zs.toInt) rfl] at d36
      rw [vn_at hx3 (n := 9) (z := zs.toInt) rfl] at d37
      rw [vn_at hx3 (n := 9) (z := zs.toInt) rfl] at d38
      have hK : arK aa zp.toInt zy.toInt zs.toInt = true := by
        unfold arK
        rw [decide_eq_false (by omega)]
        rfl
      refine ih y35 y36 y37 y38 ws3 (by omega) (by omega) (by omega) (by omega) (by omega) ?_ hw3 (((hfr.tr hf1).tr hf2).tr hf3)
      rw [← hR, arF_y hK, if_pos (by omega), show y38.toInt = zs.toInt + 1 by omega, show y35.toInt = zn.toInt + 1 by omega, show y36.toInt = zs.toInt by omega, show y37.toInt = zs.toInt by omega]
theorem ar_cls {a0 a34 n t q : Nat} {S : Nat → Nat → Int} {zt zp zy zw : Int32} {ws : va_W} (C : ai_cx tb_m84 10 p R s m args c D tys A b L sx cells slots) (ha0 : ad[0]? = some a0) (ha34 : ad[34]? = some a34) (hn : n ≤ 4) (ht : t < n) (et : zt.toInt = t) (hp : 0 ≤ zp.toInt ∧ zp.toInt ≤ 20) (hy : 0 ≤ zy.toInt ∧ zy.toInt ≤ 20) (hzw : 0 ≤ zw.toInt ∧ zw.toInt ≤ 2) (hq : q ≤ 6) (hS : ∀ j, j < q → seB (S j)) (hw : ai_wd tb_TY ad tys ws) (hv0 : vi ws 1 0 n) (hq0 : vi ws 34 0 q) (hv : ∀ j, j < q → ∀ r, r < 4 → vi ws (35 + r) j (S j r))
    (kk : ∀ (pcr : Nat) (ws' : va_W) (z : Int32) (lv' : List (Nat × Value)), pcr ∈ [123, 137] → ai_wd tb_TY ad tys ws' → ai_fr [] ws ws' → z.toInt = arW (arF (arK (kiB S (t : Int) q) zp.toInt zy.toInt) 20 1 0 (-4) (-4)) zw.toInt → hG tb_m84 p l e R s m args below meth c D A cells slots Q pcr lv' [.int z] ws') : hG tb_m84 p l e R s m args below meth c D A cells slots Q 0 [(0, .ref a0), (1, .int zt), (2, .int zp), (3, .int zy), (4, .int zw)] [] ws := by
  refine hsum (st := (0, [(0, (0, 0, 0, 0)), (1, (1, 0, 0, (t : Int))), (2, (1, 2, 0, 0)), (3, (1, 3, 0, 0)), (4, (1, 4, 0, 0))], [], [(0, 0, false, 0, 0), (0, 2555, false, 1, 0), (0, 20, false, 2, 0), (0, 20, false, 3, 0), (0, 2, false, 4, 0), ((t : Int) + 1, 4, false, 5, 0)], [(1, 0, (1, 5, 0, 0))], [])) (List.all_eq_true.mp ar_c3 t (List.mem_range.mpr (by omega))) rfl C (r := [0, 0, zp.toInt, zy.toInt, zw.toInt, (n : Int)]) ⟨en_mk (by simp only [en_b, and_true]; omega) rfl, sb0, ⟨rfl, Or.inl ⟨rfl, a0, ha0, rfl⟩, rfl, int_dv (z := 0) rfl (by omega), rfl, int_dv (z := zp.toInt) rfl (by omega), rfl, int_dv (z := zy.toInt) rfl (by omega), rfl, int_dv (z := zw.toInt) rfl (by omega), trivial⟩, trivial, hw, kc (hv0.kn (n := 5) (t := (n : Int)) rfl (by omega)) (k0), fun _ _ _ _ h => h, fun h => by cases h⟩ (fun x hx r1 lv1 st1 ws1 hx1 hb1 hl1 hs1 hlo1 hsk1 hw1 hV1 hf1 _ => ?_)
  have hx9 := List.mem_singleton.mp hx
  subst hx9
  dsimp only at hlo1 hsk1 ⊢
  obtain ⟨l10, rfl, p10⟩ := lo_ref ha0 hlo1
  obtain ⟨y11, l11, rfl, d11, p11⟩ := lo_int rfl p10
  obtain ⟨y12, l12, rfl, d12, p12⟩ := lo_int rfl p11
  obtain ⟨y13, l13, rfl, d13, p13⟩ := lo_int rfl p12
  cases lo_nil p13
  rw [vn_at hx1 (n := 2) (z := zp.toInt) rfl] at d11
  have e11 : zp = y11 := Int32.toInt_inj.mp (by omega)
  subst e11
  rw [vn_at hx1 (n := 3) (z := zy.toInt) rfl] at d12
  have e12 : zy = y12 := Int32.toInt_inj.mp (by omega)
  subst e12
  rw [vn_at hx1 (n := 4) (z := zw.toInt) rfl] at d13
  have e13 : zw = y13 := Int32.toInt_inj.mp (by omega)
  subst e13
  obtain ⟨x10, s10, rfl, c10, g10⟩ := hsk1.cons
  obtain ⟨x11, s11, rfl, c11, g11⟩ := g10.cons
  cases g11.nil
  obtain ⟨u10, rfl, w10⟩ := dvn c10 (hx1.at (k := 0) rfl)
  have f11 := ref_of ha34 c11
  subst f11
  refine hcallI (q := (210, 0, 45, 1, 4)) (M' := tb_m45) (cl := 34) (a := a34) (As := [.int u10]) (rest := []) (rets := [54]) (P := fun w z => ai_wd tb_TY ad tys w ∧ ai_fr [] ws1 w ∧ z.toInt = ((kiB S (t : Int) q : Nat) : Int)) C (by decide) (tv_m84.1.1.1 (48, .invokevirtual 210, 3) (List.mem_of_getElem? (i := 25) rfl)) (tv_m84.2 _ (List.mem_of_getElem? (i := 29) rfl)) rfl rfl rfl rfl (by decide) (Nat.le_of_ble_eq_true rfl) rfl rfl rfl rfl hw1 ha34 (Nat.le_of_ble_eq_true rfl) ?_ ?_ ?_
  · intro pcr hp
    simp only [List.mem_cons, List.not_mem_nil, or_false] at hp
    rcases hp with rfl
    · exact tv_m45.1.1.1 (54, .ireturn, 1) (List.mem_of_getElem? (i := 33) rfl)
  · intro p2 e2 R2 s2 m2 args2 below2 meth2 c2 Q2 C2 kk2
    exact kc_all (mm_cx (by decide) C2) ha34 hq hS (by omega) (by omega) hw1 (hq0.fr hf1 rfl) (fun j hj r hr => (hv j hj r hr).fr hf1 rfl) (fun w z lv2 h1 h2 h3 => kk2 54 w z lv2 (by decide) ⟨h1, h2, h3⟩)
  · intro ws2 zo hP
    obtain ⟨hw2, hf2, eo⟩ := hP
    have bz := kiB_b S (t : Int) q
    refine hsum (st := (51, [(0, (0, 0, 0, 0)), (2, (1, 2, 0, 0)), (3, (1, 3, 0, 0)), (4, (1, 4, 0, 0))], [(1, 5, 0, 0)], [(0, 0, false, 0, 0), (0, 2555, false, 1, 0), (0, 20, false, 2, 0), (0, 20, false, 3, 0), (0, 2, false, 4, 0), (0, 15, false, 5, 0)], [], [])) ar_c4 rfl C (r := [0, 0, zp.toInt, zy.toInt, zw.toInt, zo.toInt]) ⟨en_mk (by simp only [en_b, and_true]; omega) rfl, sb0, ⟨rfl, Or.inl ⟨rfl, a0, ha0, rfl⟩, rfl, int_dv (z := zp.toInt) rfl (by omega), rfl, int_dv (z := zy.toInt) rfl (by omega), rfl, int_dv (z := zw.toInt) rfl (by omega), trivial⟩, ⟨int_dv (z := zo.toInt) rfl (by omega), trivial⟩, hw2, k0, fun _ _ _ _ h => h, fun h => by cases h⟩ (fun x hx r3 lv3 st3 ws3 hx3 hb3 hl3 hs3 hlo3 hsk3 hw3 hV3 hf3 _ => ?_)
    have hx9 := List.mem_singleton.mp hx
    subst hx9
    dsimp only at hlo3 hsk3 ⊢
    obtain ⟨l30, rfl, p30⟩ := lo_ref ha0 hlo3
    obtain ⟨y31, l31, rfl, d31, p31⟩ := lo_int rfl p30
    obtain ⟨y32, l32, rfl, d32, p32⟩ := lo_int rfl p31
    obtain ⟨y33, l33, rfl, d33, p33⟩ := lo_int rfl p32
    obtain ⟨y34, l34, rfl, d34, p34⟩ := lo_int rfl p33
    obtain ⟨y35, l35, rfl, d35, p35⟩ := lo_int rfl p34
    obtain ⟨y36, l36, rfl, d36, p36⟩ := lo_int rfl p35
    obtain ⟨y37, l37, rfl, d37, p37⟩ := lo_int rfl p36
    obtain ⟨y38, l38, rfl, d38, p38⟩ := lo_int rfl p37
    cases lo_nil p38
    rw [vn_at hx3 (n := 2) (z := zp.toInt) rfl] at d31
    have e31 : zp = y31 := Int32.toInt_inj.mp (by omega)
    subst e31
    rw [vn_at hx3 (n := 3) (z := zy.toInt) rfl] at d32
    have e32 : zy = y32 := Int32.toInt_inj.mp (by omega)
    subst e32
    rw [vn_at hx3 (n := 4) (z := zw.toInt) rfl] at d33
    have e33 : zw = y33 := Int32.toInt_inj.mp (by omega)
    subst e33
    rw [vn_at hx3 (n := 5) (z := zo.toInt) rfl] at d34
    have e34 : zo = y34 := Int32.toInt_inj.mp (by omega)
    subst e34
    rw [vn_at hx3 (n := 0) (z := 0) rfl] at d35
    rw [vn_at hx3 (n := 0) (z := 0) rfl] at d36
    rw [vn_at hx3 (n := 0) (z := 0) rfl] at d37
    rw [vn_at hx3 (n := 0) (z := 0) rfl] at d38
    cases hsk3.nil
    exact ar_cl (ws0 := ws) C ha0 hp hy hzw bz eo kk 20 y35 y36 y37 y38 ws3 (by omega) (by omega) (by omega) (by omega) (by omega) (by rw [show y38.toInt = 1 by omega, show y35.toInt = 0 by omega, show y36.toInt = -4 by omega, show y37.toInt = -4 by omega]) hw3 ((hf1.tr hf2).tr hf3)
theorem ar_in {ar aa : Nat} {zp zy zw zo zn zl zg zs : Int32} {ws0 : va_W} (C : ai_cx tb_m160 10 p R s m args c D tys A b L sx cells slots) (ha : ad[49]? = some ar) (hp : 0 ≤ zp.toInt ∧ zp.toInt ≤ 20) (hy : 0 ≤ zy.toInt ∧ zy.toInt ≤ 20) (hzw : 0 ≤ zw.toInt ∧ zw.toInt ≤ 2) (haa : aa < 16) (eo : zo.toInt = aa) (hs : 1 ≤ zs.toInt ∧ zs.toInt ≤ 20) (hn : 0 ≤ zn.toInt ∧ zn.toInt ≤ 19) (hl : -4 ≤ zl.toInt ∧ zl.toInt ≤ 20) (hgr : -4 ≤ zg.toInt ∧ zg.toInt ≤ 20)
    (kk : ∀ (ws' : va_W) (zi zk : Int32), ai_wd tb_TY ad tys ws' → ai_fr [] ws0 ws' → zi.toInt = (if arK aa zp.toInt zy.toInt zs.toInt = true then 1 else 0) → hG tb_m160 p l e R s m args below meth c D A cells slots Q 128 [(0, .ref ar), (2, .int zp), (3, .int zy), (4, .int zw), (5, .int zo), (6, .int zn), (7, .int zl), (8, .int zg), (9, .int zs), (10, .int zi), (11, .int zk)] [] ws') :
    ∀ (f k : Nat) (zi zk : Int32) (ws : va_W), k + f = 4 → zi.toInt = (if arI aa zp.toInt zy.toInt zs.toInt k = true then 1 else 0) → zk.toInt = k → ai_wd tb_TY ad tys ws → ai_fr [] ws0 ws → hG tb_m160 p l e R s m args below meth c D A cells slots Q 81 [(0, .ref ar), (2, .int zp), (3, .int zy), (4, .int zw), (5, .int zo), (6, .int zn), (7, .int zl), (8, .int zg), (9, .int zs), (10, .int zi), (11, .int zk)] [] ws := by
  have ezo : zo = Int32.ofNat aa := i32_of (by omega) eo
  intro f
  induction f with
  | zero =>
    intro k zi zk ws hf ei ek hw hfr
    have hk : k = 4 := by omega
    subst hk
    rw [arI_4 haa] at ei
    have bi : 0 ≤ zi.toInt ∧ zi.toInt ≤ 1 := by split at ei <;> omega
    refine hildw (j := 11) (x := zk) C (tv_m160.1.1.1 (81, .iload 11, 2) (List.mem_of_getElem? (i := 43) rfl)) (List.mem_of_getElem? (i := 10) rfl) ?_
    refine hsum (st := (83, [(0, (0, 49, 0, 0)), (2, (1, 2, 0, 0)), (3, (1, 3, 0, 0)), (4, (1, 4, 0, 0)), (5, (1, 5, 0, 0)), (6, (1, 6, 0, 0)), (7, (1, 7, 0, 0)), (8, (1, 8, 0, 0)), (9, (1, 9, 0, 0)), (10, (1, 10, 0, 0)), (11, (1, 0, 0, 4))], [(1, 0, 0, 4)], [(0, 0, false, 0, 0), (0, 2555, false, 1, 0), (0, 20, false, 2, 0), (0, 20, false, 3, 0), (0, 2, false, 4, 0), (0, 15, false, 5, 0), (0, 19, false, 6, 0), (-4, 20, false, 7, 0), (-4, 20, false, 8, 0), (1, 20, false, 9, 0), (0, 1, false, 10, 0)], [], [])) ar_ix rfl C (r := [0, 0, zp.toInt, zy.toInt, zw.toInt, zo.toInt, zn.toInt, zl.toInt, zg.toInt, zs.toInt, zi.toInt]) ⟨en_mk (by simp only [en_b, and_true]; omega) rfl, sb0, ⟨rfl, Or.inl ⟨rfl, ar, ha, rfl⟩, rfl, int_dv (z := zp.toInt) rfl (by omega), rfl, int_dv (z := zy.toInt) rfl (by omega), rfl, int_dv (z := zw.toInt) rfl (by omega), rfl, int_dv (z := zo.toInt) rfl (by omega), rfl, int_dv (z := zn.toInt) rfl (by omega), rfl, int_dv (z := zl.toInt) rfl (by omega), rfl, int_dv (z := zg.toInt) rfl (by omega), rfl, int_dv (z := zs.toInt) rfl (by omega), rfl, int_dv (z := zi.toInt) rfl (by omega), rfl, int_dv (z := 0) rfl (by omega), trivial⟩, ⟨int_dv (z := 0) rfl (by omega), trivial⟩, hw, k0, fun _ _ _ _ h => h, fun h => by cases h⟩ (fun x hx r1 lv1 st1 ws1 hx1 hb1 hl1 hs1 hlo1 hsk1 hw1 hV1 hf1 _ => ?_)
    have hx9 := List.mem_singleton.mp hx
    subst hx9
    dsimp only at hlo1 hsk1 ⊢
    obtain ⟨l10, rfl, p10⟩ := lo_ref ha hlo1
    obtain ⟨y11, l11, rfl, d11, p11⟩ := lo_int rfl p10
    obtain ⟨y12, l12, rfl, d12, p12⟩ := lo_int rfl p11
    obtain ⟨y13, l13, rfl, d13, p13⟩ := lo_int rfl p12
    obtain ⟨y14, l14, rfl, d14, p14⟩ := lo_int rfl p13
    obtain ⟨y15, l15, rfl, d15, p15⟩ := lo_int rfl p14
    obtain ⟨y16, l16, rfl, d16, p16⟩ := lo_int rfl p15
    obtain ⟨y17, l17, rfl, d17, p17⟩ := lo_int rfl p16
    obtain ⟨y18, l18, rfl, d18, p18⟩ := lo_int rfl p17
    obtain ⟨y19, l19, rfl, d19, p19⟩ := lo_int rfl p18
    obtain ⟨y110, l110, rfl, d110, p110⟩ := lo_int rfl p19
    cases lo_nil p110
    rw [vn_at hx1 (n := 2) (z := zp.toInt) rfl] at d11
    have e11 : zp = y11 := Int32.toInt_inj.mp (by omega)
    subst e11
    rw [vn_at hx1 (n := 3) (z := zy.toInt) rfl] at d12
    have e12 : zy = y12 := Int32.toInt_inj.mp (by omega)
    subst e12
    rw [vn_at hx1 (n := 4) (z := zw.toInt) rfl] at d13
    have e13 : zw = y13 := Int32.toInt_inj.mp (by omega)
    subst e13
    rw [vn_at hx1 (n := 5) (z := zo.toInt) rfl] at d14
    have e14 : zo = y14 := Int32.toInt_inj.mp (by omega)
    subst e14
    rw [vn_at hx1 (n := 6) (z := zn.toInt) rfl] at d15
    have e15 : zn = y15 := Int32.toInt_inj.mp (by omega)
    subst e15
    rw [vn_at hx1 (n := 7) (z := zl.toInt) rfl] at d16
    have e16 : zl = y16 := Int32.toInt_inj.mp (by omega)
    subst e16
    rw [vn_at hx1 (n := 8) (z := zg.toInt) rfl] at d17
    have e17 : zg = y17 := Int32.toInt_inj.mp (by omega)
    subst e17
    rw [vn_at hx1 (n := 9) (z := zs.toInt) rfl] at d18
    have e18 : zs = y18 := Int32.toInt_inj.mp (by omega)
    subst e18
    rw [vn_at hx1 (n := 10) (z := zi.toInt) rfl] at d19
    have e19 : zi = y19 := Int32.toInt_inj.mp (by omega)
    subst e19
    rw [vn_at hx1 (n := 0) (z := 0) rfl] at d110
    have e110 : zk = y110 := Int32.toInt_inj.mp (by omega)
    subst e110
    cases hsk1.nil
    exact kk ws1 zi zk hw1 (hfr.tr hf1) ei
  | succ f ih =>
    intro k zi zk ws hf ei ek hw hfr
    have bi : 0 ≤ zi.toInt ∧ zi.toInt ≤ 1 := by split at ei <;> omega
    have hk : k = 0 ∨ k = 1 ∨ k = 2 ∨ k = 3 := by omega
    rcases hk with rfl | rfl | rfl | rfl
    · skip
      refine hildw (j := 11) (x := zk) C (tv_m160.1.1.1 (81, .iload 11, 2) (List.mem_of_getElem? (i := 43) rfl)) (List.mem_of_getElem? (i := 10) rfl) ?_
      by_cases hb : aa.testBit 0 = true
      · have hmem := (ar_b0 aa haa).1 hb
        refine hsum (st := (83, [(0, (0, 49, 0, 0)), (2, (1, 2, 0, 0)), (3, (1, 3, 0, 0)), (4, (1, 4, 0, 0)), (5, (1, 0, 0, (aa : Int))), (6, (1, 6, 0, 0)), (7, (1, 7, 0, 0)), (8, (1, 8, 0, 0)), (9, (1, 9, 0, 0)), (10, (1, 10, 0, 0)), (11, (1, 0, 0, 0))], [(1, 0, 0, 0)], [(0, 0, false, 0, 0), (0, 2555, false, 1, 0), (0, 20, false, 2, 0), (0, 20, false, 3, 0), (0, 2, false, 4, 0), (0, 15, false, 5, 0), (0, 19, false, 6, 0), (-4, 20, false, 7, 0), (-4, 20, false, 8, 0), (1, 20, false, 9, 0), (0, 1, false, 10, 0)], [], [])) (List.all_eq_true.mp ar_i01 aa hmem) rfl C (r := [0, 0, zp.toInt, zy.toInt, zw.toInt, zo.toInt, zn.toInt, zl.toInt, zg.toInt, zs.toInt, zi.toInt]) ⟨en_mk (by simp only [en_b, and_true]; omega) rfl, sb0, ⟨rfl, Or.inl ⟨rfl, ar, ha, rfl⟩, rfl, int_dv (z := zp.toInt) rfl (by omega), rfl, int_dv (z := zy.toInt) rfl (by omega), rfl, int_dv (z := zw.toInt) rfl (by omega), rfl, int_dv (z := 0) rfl (by omega), rfl, int_dv (z := zn.toInt) rfl (by omega), rfl, int_dv (z := zl.toInt) rfl (by omega), rfl, int_dv (z := zg.toInt) rfl (by omega), rfl, int_dv (z := zs.toInt) rfl (by omega), rfl, int_dv (z := zi.toInt) rfl (by omega), rfl, int_dv (z := 0) rfl (by omega), trivial⟩, ⟨int_dv (z := 0) rfl (by omega), trivial⟩, hw, k0, fun _ _ _ _ h => h, fun h => by cases h⟩ (fun x hx r1 lv1 st1 ws1 hx1 hb1 hl1 hs1 hlo1 hsk1 hw1 hV1 hf1 _ => ?_)
        unfold ar_i01_S at hx
        have m1_2 := nm_x hx1 (k := 2) rfl
        have m1_3 := nm_x hx1 (k := 3) rfl
        have m1_4 := nm_x hx1 (k := 4) rfl
        have m1_5 := nm_x hx1 (k := 5) rfl
        have m1_6 := nm_x hx1 (k := 6) rfl
        have m1_7 := nm_x hx1 (k := 7) rfl
        have m1_8 := nm_x hx1 (k := 8) rfl
        have m1_9 := nm_x hx1 (k := 9) rfl
        have m1_10 := nm_x hx1 (k := 10) rfl
        rcases List.mem_cons.mp hx with rfl | hx
        · skip
          dsimp only at hlo1 hsk1 ⊢
          simp (config := { decide := true }) only [bnd_b, lin_b, lin_q, Nat.reduceAdd, Nat.zero_add, Nat.reduceEqDiff, reduceIte, and_true, Int.add_zero] at hb1 hl1
          cases hsk1.nil
          obtain ⟨l10, rfl, p10⟩ := lo_ref ha hlo1
          obtain ⟨y11, l11, rfl, d11, p11⟩ := lo_int rfl p10
          obtain ⟨y12, l12, rfl, d12, p12⟩ := lo_int rfl p11
          obtain ⟨y13, l13, rfl, d13, p13⟩ := lo_int rfl p12
          obtain ⟨y14, l14, rfl, d14, p14⟩ := lo_int rfl p13
          obtain ⟨y15, l15, rfl, d15, p15⟩ := lo_int rfl p14
          obtain ⟨y16, l16, rfl, d16, p16⟩ := lo_int rfl p15
          obtain ⟨y17, l17, rfl, d17, p17⟩ := lo_int rfl p16
          obtain ⟨y18, l18, rfl, d18, p18⟩ := lo_int rfl p17
          obtain ⟨y19, l19, rfl, d19, p19⟩ := lo_int rfl p18
          obtain ⟨y110, l110, rfl, d110, p110⟩ := lo_int rfl p19
          cases lo_nil p110
          rw [vn_at hx1 (n := 2) (z := zp.toInt) rfl] at d11
          have e11 : zp = y11 := Int32.toInt_inj.mp (by omega)
          subst e11
          rw [vn_at hx1 (n := 3) (z := zy.toInt) rfl] at d12
          have e12 : zy = y12 := Int32.toInt_inj.mp (by omega)
          subst e12
          rw [vn_at hx1 (n := 4) (z := zw.toInt) rfl] at d13
          have e13 : zw = y13 := Int32.toInt_inj.mp (by omega)
          subst e13
          rw [vn_at hx1 (n := 0) (z := 0) rfl] at d14
          have e14 : zo = y14 := Int32.toInt_inj.mp (by omega)
          subst e14
          rw [vn_at hx1 (n := 6) (z := zn.toInt) rfl] at d15
          have e15 : zn = y15 := Int32.toInt_inj.mp (by omega)
          subst e15
          rw [vn_at hx1 (n := 7) (z := zl.toInt) rfl] at d16
          have e16 : zl = y16 := Int32.toInt_inj.mp (by omega)
          subst e16
          rw [vn_at hx1 (n := 8) (z := zg.toInt) rfl] at d17
          have e17 : zg = y17 := Int32.toInt_inj.mp (by omega)
          subst e17
          rw [vn_at hx1 (n := 9) (z := zs.toInt) rfl] at d18
          have e18 : zs = y18 := Int32.toInt_inj.mp (by omega)
          subst e18
          rw [vn_at hx1 (n := 0) (z := 0) rfl] at d19
          rw [vn_at hx1 (n := 0) (z := 0) rfl] at d110
          have hK : arI aa zp.toInt zy.toInt zs.toInt 1 = true := arI_1 (by
              by_cases h9 : arI aa zp.toInt zy.toInt zs.toInt 0 = true
              · exact h9
              · rw [if_neg h9] at ei
                omega)
          exact ih 1 y19 y110 ws1 (by omega) (by rw [if_pos hK]; omega) (by omega) hw1 (hfr.tr hf1)
        rcases List.mem_cons.mp hx with rfl | hx
        · skip
          dsimp only at hlo1 hsk1 ⊢
          simp (config := { decide := true }) only [bnd_b, lin_b, lin_q, Nat.reduceAdd, Nat.zero_add, Nat.reduceEqDiff, reduceIte, and_true, Int.add_zero] at hb1 hl1
          cases hsk1.nil
          obtain ⟨l10, rfl, p10⟩ := lo_ref ha hlo1
          obtain ⟨y11, l11, rfl, d11, p11⟩ := lo_int rfl p10
          obtain ⟨y12, l12, rfl, d12, p12⟩ := lo_int rfl p11
          obtain ⟨y13, l13, rfl, d13, p13⟩ := lo_int rfl p12
          obtain ⟨y14, l14, rfl, d14, p14⟩ := lo_int rfl p13
          obtain ⟨y15, l15, rfl, d15, p15⟩ := lo_int rfl p14
          obtain ⟨y16, l16, rfl, d16, p16⟩ := lo_int rfl p15
          obtain ⟨y17, l17, rfl, d17, p17⟩ := lo_int rfl p16
          obtain ⟨y18, l18, rfl, d18, p18⟩ := lo_int rfl p17
          obtain ⟨y19, l19, rfl, d19, p19⟩ := lo_int rfl p18
          obtain ⟨y110, l110, rfl, d110, p110⟩ := lo_int rfl p19
          cases lo_nil p110
          rw [vn_at hx1 (n := 2) (z := zp.toInt) rfl] at d11
          have e11 : zp = y11 := Int32.toInt_inj.mp (by omega)
          subst e11
          rw [vn_at hx1 (n := 3) (z := zy.toInt) rfl] at d12
          have e12 : zy = y12 := Int32.toInt_inj.mp (by omega)
          subst e12
          rw [vn_at hx1 (n := 4) (z := zw.toInt) rfl] at d13
          have e13 : zw = y13 := Int32.toInt_inj.mp (by omega)
          subst e13
          rw [vn_at hx1 (n := 0) (z := 0) rfl] at d14
          have e14 : zo = y14 := Int32.toInt_inj.mp (by omega)
          subst e14
          rw [vn_at hx1 (n := 6) (z := zn.toInt) rfl] at d15
          have e15 : zn = y15 := Int32.toInt_inj.mp (by omega)
          subst e15
          rw [vn_at hx1 (n := 7) (z := zl.toInt) rfl] at d16
          have e16 : zl = y16 := Int32.toInt_inj.mp (by omega)
          subst e16
          rw [vn_at hx1 (n := 8) (z := zg.toInt) rfl] at d17
          have e17 : zg = y17 := Int32.toInt_inj.mp (by omega)
          subst e17
          rw [vn_at hx1 (n := 9) (z := zs.toInt) rfl] at d18
          have e18 : zs = y18 := Int32.toInt_inj.mp (by omega)
          subst e18
          rw [vn_at hx1 (n := 0) (z := 0) rfl] at d19
          rw [vn_at hx1 (n := 0) (z := 0) rfl] at d110
          have hK : ¬ arI aa zp.toInt zy.toInt zs.toInt 1 = true := arI_n (fun h9 => by rw [if_pos h9] at ei; omega) (Or.inr (by rw [yl_0]; omega))
          exact ih 1 y19 y110 ws1 (by omega) (by rw [if_neg hK]; omega) (by omega) hw1 (hfr.tr hf1)
        have hx0 := List.mem_singleton.mp hx
        subst hx0
        dsimp only at hlo1 hsk1 ⊢
        simp (config := { decide := true }) only [bnd_b, lin_b, lin_q, Nat.reduceAdd, Nat.zero_add, Nat.reduceEqDiff, reduceIte, and_true, Int.add_zero] at hb1 hl1
        cases hsk1.nil
        obtain ⟨l10, rfl, p10⟩ := lo_ref ha hlo1
        obtain ⟨y11, l11, rfl, d11, p11⟩ := lo_int rfl p10
        obtain ⟨y12, l12, rfl, d12, p12⟩ := lo_int rfl p11
        obtain ⟨y13, l13, rfl, d13, p13⟩ := lo_int rfl p12
        obtain ⟨y14, l14, rfl, d14, p14⟩ := lo_int rfl p13
        obtain ⟨y15, l15, rfl, d15, p15⟩ := lo_int rfl p14
        obtain ⟨y16, l16, rfl, d16, p16⟩ := lo_int rfl p15
        obtain ⟨y17, l17, rfl, d17, p17⟩ := lo_int rfl p16
        obtain ⟨y18, l18, rfl, d18, p18⟩ := lo_int rfl p17
        obtain ⟨y19, l19, rfl, d19, p19⟩ := lo_int rfl p18
        obtain ⟨y110, l110, rfl, d110, p110⟩ := lo_int rfl p19
        cases lo_nil p110
        rw [vn_at hx1 (n := 2) (z := zp.toInt) rfl] at d11
        have e11 : zp = y11 := Int32.toInt_inj.mp (by omega)
        subst e11
        rw [vn_at hx1 (n := 3) (z := zy.toInt) rfl] at d12
        have e12 : zy = y12 := Int32.toInt_inj.mp (by omega)
        subst e12
        rw [vn_at hx1 (n := 4) (z := zw.toInt) rfl] at d13
        have e13 : zw = y13 := Int32.toInt_inj.mp (by omega)
        subst e13
        rw [vn_at hx1 (n := 0) (z := 0) rfl] at d14
        have e14 : zo = y14 := Int32.toInt_inj.mp (by omega)
        subst e14
        rw [vn_at hx1 (n := 6) (z := zn.toInt) rfl] at d15
        have e15 : zn = y15 := Int32.toInt_inj.mp (by omega)
        subst e15
        rw [vn_at hx1 (n := 7) (z := zl.toInt) rfl] at d16
        have e16 : zl = y16 := Int32.toInt_inj.mp (by omega)
        subst e16
        rw [vn_at hx1 (n := 8) (z := zg.toInt) rfl] at d17
        have e17 : zg = y17 := Int32.toInt_inj.mp (by omega)
        subst e17
        rw [vn_at hx1 (n := 9) (z := zs.toInt) rfl] at d18
        have e18 : zs = y18 := Int32.toInt_inj.mp (by omega)
        subst e18
        rw [vn_at hx1 (n := 0) (z := 0) rfl] at d19
        rw [vn_at hx1 (n := 0) (z := 0) rfl] at d110
        have hK : arI aa zp.toInt zy.toInt zs.toInt 1 = true := arI_y hb (by rw [yl_0]; omega)
        exact ih 1 y19 y110 ws1 (by omega) (by rw [if_pos hK]; omega) (by omega) hw1 (hfr.tr hf1)
      · have hmem := (ar_b0 aa haa).2 hb
        refine hsum (st := (83, [(0, (0, 49, 0, 0)), (2, (1, 2, 0, 0)), (3, (1, 3, 0, 0)), (4, (1, 4, 0, 0)), (5, (1, 0, 0, (aa : Int))), (6, (1, 6, 0, 0)), (7, (1, 7, 0, 0)), (8, (1, 8, 0, 0)), (9, (1, 9, 0, 0)), (10, (1, 10, 0, 0)), (11, (1, 0, 0, 0))], [(1, 0, 0, 0)], [(0, 0, false, 0, 0), (0, 2555, false, 1, 0), (0, 20, false, 2, 0), (0, 20, false, 3, 0), (0, 2, false, 4, 0), (0, 15, false, 5, 0), (0, 19, false, 6, 0), (-4, 20, false, 7, 0), (-4, 20, false, 8, 0), (1, 20, false, 9, 0), (0, 1, false, 10, 0)], [], [])) (List.all_eq_true.mp ar_i00 aa hmem) rfl C (r := [0, 0, zp.toInt, zy.toInt, zw.toInt, zo.toInt, zn.toInt, zl.toInt, zg.toInt, zs.toInt, zi.toInt]) ⟨en_mk (by simp only [en_b, and_true]; omega) rfl, sb0, ⟨rfl, Or.inl ⟨rfl, ar, ha, rfl⟩, rfl, int_dv (z := zp.toInt) rfl (by omega), rfl, int_dv (z := zy.toInt) rfl (by omega), rfl, int_dv (z := zw.toInt) rfl (by omega), rfl, int_dv (z := 0) rfl (by omega), rfl, int_dv (z := zn.toInt) rfl (by omega), rfl, int_dv (z := zl.toInt) rfl (by omega), rfl, int_dv (z := zg.toInt) rfl (by omega), rfl, int_dv (z := zs.toInt) rfl (by omega), rfl, int_dv (z := zi.toInt) rfl (by omega), rfl, int_dv (z := 0) rfl (by omega), trivial⟩, ⟨int_dv (z := 0) rfl (by omega), trivial⟩, hw, k0, fun _ _ _ _ h => h, fun h => by cases h⟩ (fun x hx r1 lv1 st1 ws1 hx1 hb1 hl1 hs1 hlo1 hsk1 hw1 hV1 hf1 _ => ?_)
        unfold ar_i00_S at hx
        have m1_2 := nm_x hx1 (k := 2) rfl
        have m1_3 := nm_x hx1 (k := 3) rfl
        have m1_4 := nm_x hx1 (k := 4) rfl
        have m1_5 := nm_x hx1 (k := 5) rfl
        have m1_6 := nm_x hx1 (k := 6) rfl
        have m1_7 := nm_x hx1 (k := 7) rfl
        have m1_8 := nm_x hx1 (k := 8) rfl
        have m1_9 := nm_x hx1 (k := 9) rfl
        have m1_10 := nm_x hx1 (k := 10) rfl
        rcases List.mem_cons.mp hx with rfl | hx
        · skip
          dsimp only at hlo1 hsk1 ⊢
          simp (config := { decide := true }) only [bnd_b, lin_b, lin_q, Nat.reduceAdd, Nat.zero_add, Nat.reduceEqDiff, reduceIte, and_true, Int.add_zero] at hb1 hl1
          cases hsk1.nil
          obtain ⟨l10, rfl, p10⟩ := lo_ref ha hlo1
          obtain ⟨y11, l11, rfl, d11, p11⟩ := lo_int rfl p10
          obtain ⟨y12, l12, rfl, d12, p12⟩ := lo_int rfl p11
          obtain ⟨y13, l13, rfl, d13, p13⟩ := lo_int rfl p12
          obtain ⟨y14, l14, rfl, d14, p14⟩ := lo_int rfl p13
          obtain ⟨y15, l15, rfl, d15, p15⟩ := lo_int rfl p14
          obtain ⟨y16, l16, rfl, d16, p16⟩ := lo_int rfl p15
          obtain ⟨y17, l17, rfl, d17, p17⟩ := lo_int rfl p16
          obtain ⟨y18, l18, rfl, d18, p18⟩ := lo_int rfl p17
          obtain ⟨y19, l19, rfl, d19, p19⟩ := lo_int rfl p18
          obtain ⟨y110, l110, rfl, d110, p110⟩ := lo_int rfl p19
          cases lo_nil p110
          rw [vn_at hx1 (n := 2) (z := zp.toInt) rfl] at d11
          have e11 : zp = y11 := Int32.toInt_inj.mp (by omega)
          subst e11
          rw [vn_at hx1 (n := 3) (z := zy.toInt) rfl] at d12
          have e12 : zy = y12 := Int32.toInt_inj.mp (by omega)
          subst e12
          rw [vn_at hx1 (n := 4) (z := zw.toInt) rfl] at d13
          have e13 : zw = y13 := Int32.toInt_inj.mp (by omega)
          subst e13
          rw [vn_at hx1 (n := 0) (z := 0) rfl] at d14
          have e14 : zo = y14 := Int32.toInt_inj.mp (by omega)
          subst e14
          rw [vn_at hx1 (n := 6) (z := zn.toInt) rfl] at d15
          have e15 : zn = y15 := Int32.toInt_inj.mp (by omega)
          subst e15
          rw [vn_at hx1 (n := 7) (z := zl.toInt) rfl] at d16
          have e16 : zl = y16 := Int32.toInt_inj.mp (by omega)
          subst e16
          rw [vn_at hx1 (n := 8) (z := zg.toInt) rfl] at d17
          have e17 : zg = y17 := Int32.toInt_inj.mp (by omega)
          subst e17
          rw [vn_at hx1 (n := 9) (z := zs.toInt) rfl] at d18
          have e18 : zs = y18 := Int32.toInt_inj.mp (by omega)
          subst e18
          rw [vn_at hx1 (n := 0) (z := 0) rfl] at d19
          rw [vn_at hx1 (n := 0) (z := 0) rfl] at d110
          have hK : arI aa zp.toInt zy.toInt zs.toInt 1 = true := arI_1 (by
              by_cases h9 : arI aa zp.toInt zy.toInt zs.toInt 0 = true
              · exact h9
              · rw [if_neg h9] at ei
                omega)
          exact ih 1 y19 y110 ws1 (by omega) (by rw [if_pos hK]; omega) (by omega) hw1 (hfr.tr hf1)
        have hx0 := List.mem_singleton.mp hx
        subst hx0
        dsimp only at hlo1 hsk1 ⊢
        simp (config := { decide := true }) only [bnd_b, lin_b, lin_q, Nat.reduceAdd, Nat.zero_add, Nat.reduceEqDiff, reduceIte, and_true, Int.add_zero] at hb1 hl1
        cases hsk1.nil
        obtain ⟨l10, rfl, p10⟩ := lo_ref ha hlo1
        obtain ⟨y11, l11, rfl, d11, p11⟩ := lo_int rfl p10
        obtain ⟨y12, l12, rfl, d12, p12⟩ := lo_int rfl p11
        obtain ⟨y13, l13, rfl, d13, p13⟩ := lo_int rfl p12
        obtain ⟨y14, l14, rfl, d14, p14⟩ := lo_int rfl p13
        obtain ⟨y15, l15, rfl, d15, p15⟩ := lo_int rfl p14
        obtain ⟨y16, l16, rfl, d16, p16⟩ := lo_int rfl p15
        obtain ⟨y17, l17, rfl, d17, p17⟩ := lo_int rfl p16
        obtain ⟨y18, l18, rfl, d18, p18⟩ := lo_int rfl p17
        obtain ⟨y19, l19, rfl, d19, p19⟩ := lo_int rfl p18
        obtain ⟨y110, l110, rfl, d110, p110⟩ := lo_int rfl p19
        cases lo_nil p110
        rw [vn_at hx1 (n := 2) (z := zp.toInt) rfl] at d11
        have e11 : zp = y11 := Int32.toInt_inj.mp (by omega)
        subst e11
        rw [vn_at hx1 (n := 3) (z := zy.toInt) rfl] at d12
        have e12 : zy = y12 := Int32.toInt_inj.mp (by omega)
        subst e12
        rw [vn_at hx1 (n := 4) (z := zw.toInt) rfl] at d13
        have e13 : zw = y13 := Int32.toInt_inj.mp (by omega)
        subst e13
        rw [vn_at hx1 (n := 0) (z := 0) rfl] at d14
        have e14 : zo = y14 := Int32.toInt_inj.mp (by omega)
        subst e14
        rw [vn_at hx1 (n := 6) (z := zn.toInt) rfl] at d15
        have e15 : zn = y15 := Int32.toInt_inj.mp (by omega)
        subst e15
        rw [vn_at hx1 (n := 7) (z := zl.toInt) rfl] at d16
        have e16 : zl = y16 := Int32.toInt_inj.mp (by omega)
        subst e16
        rw [vn_at hx1 (n := 8) (z := zg.toInt) rfl] at d17
        have e17 : zg = y17 := Int32.toInt_inj.mp (by omega)
        subst e17
        rw [vn_at hx1 (n := 9) (z := zs.toInt) rfl] at d18
        have e18 : zs = y18 := Int32.toInt_inj.mp (by omega)
        subst e18
        rw [vn_at hx1 (n := 0) (z := 0) rfl] at d19
        rw [vn_at hx1 (n := 0) (z := 0) rfl] at d110
        have hK : ¬ arI aa zp.toInt zy.toInt zs.toInt 1 = true := arI_n (fun h9 => by rw [if_pos h9] at ei; omega) (Or.inl hb)
        exact ih 1 y19 y110 ws1 (by omega) (by rw [if_neg hK]; omega) (by omega) hw1 (hfr.tr hf1)
    · skip
      refine hildw (j := 11) (x := zk) C (tv_m160.1.1.1 (81, .iload 11, 2) (List.mem_of_getElem? (i := 43) rfl)) (List.mem_of_getElem? (i := 10) rfl) ?_
      by_cases hb : aa.testBit 1 = true
      · have hmem := (ar_b1 aa haa).1 hb
        refine hsum (st := (83, [(0, (0, 49, 0, 0)), (2, (1, 2, 0, 0)), (3, (1, 3, 0, 0)), (4, (1, 4, 0, 0)), (5, (1, 0, 0, (aa : Int))), (6, (1, 6, 0, 0)), (7, (1, 7, 0, 0)), (8, (1, 8, 0, 0)), (9, (1, 9, 0, 0)), (10, (1, 10, 0, 0)), (11, (1, 0, 0, 1))], [(1, 0, 0, 1)], [(0, 0, false, 0, 0), (0, 2555, false, 1, 0), (0, 20, false, 2, 0), (0, 20, false, 3, 0), (0, 2, false, 4, 0), (0, 15, false, 5, 0), (0, 19, false, 6, 0), (-4, 20, false, 7, 0), (-4, 20, false, 8, 0), (1, 20, false, 9, 0), (0, 1, false, 10, 0)], [], [])) (List.all_eq_true.mp ar_i11 aa hmem) rfl C (r := [0, 0, zp.toInt, zy.toInt, zw.toInt, zo.toInt, zn.toInt, zl.toInt, zg.toInt, zs.toInt, zi.toInt]) ⟨en_mk (by simp only [en_b, and_true]; omega) rfl, sb0, ⟨rfl, Or.inl ⟨rfl, ar, ha, rfl⟩, rfl, int_dv (z := zp.toInt) rfl (by omega), rfl, int_dv (z := zy.toInt) rfl (by omega), rfl, int_dv (z := zw.toInt) rfl (by omega), rfl, int_dv (z := 0) rfl (by omega), rfl, int_dv (z := zn.toInt) rfl (by omega), rfl, int_dv (z := zl.toInt) rfl (by omega), rfl, int_dv (z := zg.toInt) rfl (by omega), rfl, int_dv (z := zs.toInt) rfl (by omega), rfl, int_dv (z := zi.toInt) rfl (by omega), rfl, int_dv (z := 0) rfl (by omega), trivial⟩, ⟨int_dv (z := 0) rfl (by omega), trivial⟩, hw, k0, fun _ _ _ _ h => h, fun h => by cases h⟩ (fun x hx r1 lv1 st1 ws1 hx1 hb1 hl1 hs1 hlo1 hsk1 hw1 hV1 hf1 _ => ?_)
        unfold ar_i11_S at hx
        have m1_2 := nm_x hx1 (k := 2) rfl
        have m1_3 := nm_x hx1 (k := 3) rfl
        have m1_4 := nm_x hx1 (k := 4) rfl
        have m1_5 := nm_x hx1 (k := 5) rfl
        have m1_6 := nm_x hx1 (k := 6) rfl
        have m1_7 := nm_x hx1 (k := 7) rfl
        have m1_8 := nm_x hx1 (k := 8) rfl
        have m1_9 := nm_x hx1 (k := 9) rfl
        have m1_10 := nm_x hx1 (k := 10) rfl
        rcases List.mem_cons.mp hx with rfl | hx
        · skip
          dsimp only at hlo1 hsk1 ⊢
          simp (config := { decide := true }) only [bnd_b, lin_b, lin_q, Nat.reduceAdd, Nat.zero_add, Nat.reduceEqDiff, reduceIte, and_true, Int.add_zero] at hb1 hl1
          cases hsk1.nil
          obtain ⟨l10, rfl, p10⟩ := lo_ref ha hlo1
          obtain ⟨y11, l11, rfl, d11, p11⟩ := lo_int rfl p10
          obtain ⟨y12, l12, rfl, d12, p12⟩ := lo_int rfl p11
          obtain ⟨y13, l13, rfl, d13, p13⟩ := lo_int rfl p12
          obtain ⟨y14, l14, rfl, d14, p14⟩ := lo_int rfl p13
          obtain ⟨y15, l15, rfl, d15, p15⟩ := lo_int rfl p14
          obtain ⟨y16, l16, rfl, d16, p16⟩ := lo_int rfl p15
          obtain ⟨y17, l17, rfl, d17, p17⟩ := lo_int rfl p16
          obtain ⟨y18, l18, rfl, d18, p18⟩ := lo_int rfl p17
          obtain ⟨y19, l19, rfl, d19, p19⟩ := lo_int rfl p18
          obtain ⟨y110, l110, rfl, d110, p110⟩ := lo_int rfl p19
          cases lo_nil p110
          rw [vn_at hx1 (n := 2) (z := zp.toInt) rfl] at d11
          have e11 : zp = y11 := Int32.toInt_inj.mp (by omega)
          subst e11
          rw [vn_at hx1 (n := 3) (z := zy.toInt) rfl] at d12
          have e12 : zy = y12 := Int32.toInt_inj.mp (by omega)
          subst e12
          rw [vn_at hx1 (n := 4) (z := zw.toInt) rfl] at d13
          have e13 : zw = y13 := Int32.toInt_inj.mp (by omega)
          subst e13
          rw [vn_at hx1 (n := 0) (z := 0) rfl] at d14
          have e14 : zo = y14 := Int32.toInt_inj.mp (by omega)
          subst e14
          rw [vn_at hx1 (n := 6) (z := zn.toInt) rfl] at d15
          have e15 : zn = y15 := Int32.toInt_inj.mp (by omega)
          subst e15
          rw [vn_at hx1 (n := 7) (z := zl.toInt) rfl] at d16
          have e16 : zl = y16 := Int32.toInt_inj.mp (by omega)
          subst e16
          rw [vn_at hx1 (n := 8) (z := zg.toInt) rfl] at d17
          have e17 : zg = y17 := Int32.toInt_inj.mp (by omega)
          subst e17
          rw [vn_at hx1 (n := 9) (z := zs.toInt) rfl] at d18
          have e18 : zs = y18 := Int32.toInt_inj.mp (by omega)
          subst e18
          rw [vn_at hx1 (n := 0) (z := 0) rfl] at d19
          rw [vn_at hx1 (n := 0) (z := 0) rfl] at d110
          have hK : arI aa zp.toInt zy.toInt zs.toInt 2 = true := arI_1 (by
              by_cases h9 : arI aa zp.toInt zy.toInt zs.toInt 1 = true
              · exact h9
              · rw [if_neg h9] at ei
                omega)
          exact ih 2 y19 y110 ws1 (by omega) (by rw [if_pos hK]; omega) (by omega) hw1 (hfr.tr hf1)
        rcases List.mem_cons.mp hx with rfl | hx
        · skip
          dsimp only at hlo1 hsk1 ⊢
          simp (config := { decide := true }) only [bnd_b, lin_b, lin_q, Nat.reduceAdd, Nat.zero_add, Nat.reduceEqDiff, reduceIte, and_true, Int.add_zero] at hb1 hl1
          cases hsk1.nil
          obtain ⟨l10, rfl, p10⟩ := lo_ref ha hlo1
          obtain ⟨y11, l11, rfl, d11, p11⟩ := lo_int rfl p10
          obtain ⟨y12, l12, rfl, d12, p12⟩ := lo_int rfl p11
          obtain ⟨y13, l13, rfl, d13, p13⟩ := lo_int rfl p12
          obtain ⟨y14, l14, rfl, d14, p14⟩ := lo_int rfl p13
          obtain ⟨y15, l15, rfl, d15, p15⟩ := lo_int rfl p14
          obtain ⟨y16, l16, rfl, d16, p16⟩ := lo_int rfl p15
          obtain ⟨y17, l17, rfl, d17, p17⟩ := lo_int rfl p16
          obtain ⟨y18, l18, rfl, d18, p18⟩ := lo_int rfl p17
          obtain ⟨y19, l19, rfl, d19, p19⟩ := lo_int rfl p18
          obtain ⟨y110, l110, rfl, d110, p110⟩ := lo_int rfl p19
          cases lo_nil p110
          rw [vn_at hx1 (n := 2) (z := zp.toInt) rfl] at d11
          have e11 : zp = y11 := Int32.toInt_inj.mp (by omega)
          subst e11
          rw [vn_at hx1 (n := 3) (z := zy.toInt) rfl] at d12
          have e12 : zy = y12 := Int32.toInt_inj.mp (by omega)
          subst e12
          rw [vn_at hx1 (n := 4) (z := zw.toInt) rfl] at d13
          have e13 : zw = y13 := Int32.toInt_inj.mp (by omega)
          subst e13
          rw [vn_at hx1 (n := 0) (z := 0) rfl] at d14
          have e14 : zo = y14 := Int32.toInt_inj.mp (by omega)
          subst e14
          rw [vn_at hx1 (n := 6) (z := zn.toInt) rfl] at d15
          have e15 : zn = y15 := Int32.toInt_inj.mp (by omega)
          subst e15
          rw [vn_at hx1 (n := 7) (z := zl.toInt) rfl] at d16
          have e16 : zl = y16 := Int32.toInt_inj.mp (by omega)
          subst e16
          rw [vn_at hx1 (n := 8) (z := zg.toInt) rfl] at d17
          have e17 : zg = y17 := Int32.toInt_inj.mp (by omega)
          subst e17
          rw [vn_at hx1 (n := 9) (z := zs.toInt) rfl] at d18
          have e18 : zs = y18 := Int32.toInt_inj.mp (by omega)
          subst e18
          rw [vn_at hx1 (n := 0) (z := 0) rfl] at d19
          rw [vn_at hx1 (n := 0) (z := 0) rfl] at d110
          have hK : ¬ arI aa zp.toInt zy.toInt zs.toInt 2 = true := arI_n (fun h9 => by rw [if_pos h9] at ei; omega) (Or.inr (by rw [yl_1]; omega))
          exact ih 2 y19 y110 ws1 (by omega) (by rw [if_neg hK]; omega) (by omega) hw1 (hfr.tr hf1)
        have hx0 := List.mem_singleton.mp hx
        subst hx0
        dsimp only at hlo1 hsk1 ⊢
        simp (config := { decide := true }) only [bnd_b, lin_b, lin_q, Nat.reduceAdd, Nat.zero_add, Nat.reduceEqDiff, reduceIte, and_true, Int.add_zero] at hb1 hl1
        cases hsk1.nil
        obtain ⟨l10, rfl, p10⟩ := lo_ref ha hlo1
        obtain ⟨y11, l11, rfl, d11, p11⟩ := lo_int rfl p10
        obtain ⟨y12, l12, rfl, d12, p12⟩ := lo_int rfl p11
        obtain ⟨y13, l13, rfl, d13, p13⟩ := lo_int rfl p12
        obtain ⟨y14, l14, rfl, d14, p14⟩ := lo_int rfl p13
        obtain ⟨y15, l15, rfl, d15, p15⟩ := lo_int rfl p14
        obtain ⟨y16, l16, rfl, d16, p16⟩ := lo_int rfl p15
        obtain ⟨y17, l17, rfl, d17, p17⟩ := lo_int rfl p16
        obtain ⟨y18, l18, rfl, d18, p18⟩ := lo_int rfl p17
        obtain ⟨y19, l19, rfl, d19, p19⟩ := lo_int rfl p18
        obtain ⟨y110, l110, rfl, d110, p110⟩ := lo_int rfl p19
        cases lo_nil p110
        rw [vn_at hx1 (n := 2) (z := zp.toInt) rfl] at d11
        have e11 : zp = y11 := Int32.toInt_inj.mp (by omega)
        subst e11
        rw [vn_at hx1 (n := 3) (z := zy.toInt) rfl] at d12
        have e12 : zy = y12 := Int32.toInt_inj.mp (by omega)
        subst e12
        rw [vn_at hx1 (n := 4) (z := zw.toInt) rfl] at d13
        have e13 : zw = y13 := Int32.toInt_inj.mp (by omega)
        subst e13
        rw [vn_at hx1 (n := 0) (z := 0) rfl] at d14
        have e14 : zo = y14 := Int32.toInt_inj.mp (by omega)
        subst e14
        rw [vn_at hx1 (n := 6) (z := zn.toInt) rfl] at d15
        have e15 : zn = y15 := Int32.toInt_inj.mp (by omega)
        subst e15
        rw [vn_at hx1 (n := 7) (z := zl.toInt) rfl] at d16
        have e16 : zl = y16 := Int32.toInt_inj.mp (by omega)
        subst e16
        rw [vn_at hx1 (n := 8) (z := zg.toInt) rfl] at d17
        have e17 : zg = y17 := Int32.toInt_inj.mp (by omega)
        subst e17
        rw [vn_at hx1 (n := 9) (z := zs.toInt) rfl] at d18
        have e18 : zs = y18 := Int32.toInt_inj.mp (by omega)
        subst e18
        rw [vn_at hx1 (n := 0) (z := 0) rfl] at d19
        rw [vn_at hx1 (n := 0) (z := 0) rfl] at d110
        have hK : arI aa zp.toInt zy.toInt zs.toInt 2 = true := arI_y hb (by rw [yl_1]; omega)
        exact ih 2 y19 y110 ws1 (by omega) (by rw [if_pos hK]; omega) (by omega) hw1 (hfr.tr hf1)
      · have hmem := (ar_b1 aa haa).2 hb
        refine hsum (st := (83, [(0, (0, 49, 0, 0)), (2, (1, 2, 0, 0)), (3, (1, 3, 0, 0)), (4, (1, 4, 0, 0)), (5, (1, 0, 0, (aa : Int))), (6, (1, 6, 0, 0)), (7, (1, 7, 0, 0)), (8, (1, 8, 0, 0)), (9, (1, 9, 0, 0)), (10, (1, 10, 0, 0)), (11, (1, 0, 0, 1))], [(1, 0, 0, 1)], [(0, 0, false, 0, 0), (0, 2555, false, 1, 0), (0, 20, false, 2, 0), (0, 20, false, 3, 0), (0, 2, false, 4, 0), (0, 15, false, 5, 0), (0, 19, false, 6, 0), (-4, 20, false, 7, 0), (-4, 20, false, 8, 0), (1, 20, false, 9, 0), (0, 1, false, 10, 0)], [], [])) (List.all_eq_true.mp ar_i10 aa hmem) rfl C (r := [0, 0, zp.toInt, zy.toInt, zw.toInt, zo.toInt, zn.toInt, zl.toInt, zg.toInt, zs.toInt, zi.toInt]) ⟨en_mk (by simp only [en_b, and_true]; omega) rfl, sb0, ⟨rfl, Or.inl ⟨rfl, ar, ha, rfl⟩, rfl, int_dv (z := zp.toInt) rfl (by omega), rfl, int_dv (z := zy.toInt) rfl (by omega), rfl, int_dv (z := zw.toInt) rfl (by omega), rfl, int_dv (z := 0) rfl (by omega), rfl, int_dv (z := zn.toInt) rfl (by omega), rfl, int_dv (z := zl.toInt) rfl (by omega), rfl, int_dv (z := zg.toInt) rfl (by omega), rfl, int_dv (z := zs.toInt) rfl (by omega), rfl, int_dv (z := zi.toInt) rfl (by omega), rfl, int_dv (z := 0) rfl (by omega), trivial⟩, ⟨int_dv (z := 0) rfl (by omega), trivial⟩, hw, k0, fun _ _ _ _ h => h, fun h => by cases h⟩ (fun x hx r1 lv1 st1 ws1 hx1 hb1 hl1 hs1 hlo1 hsk1 hw1 hV1 hf1 _ => ?_)
        unfold ar_i10_S at hx
        have m1_2 := nm_x hx1 (k := 2) rfl
        have m1_3 := nm_x hx1 (k := 3) rfl
        have m1_4 := nm_x hx1 (k := 4) rfl
        have m1_5 := nm_x hx1 (k := 5) rfl
        have m1_6 := nm_x hx1 (k := 6) rfl
        have m1_7 := nm_x hx1 (k := 7) rfl
        have m1_8 := nm_x hx1 (k := 8) rfl
        have m1_9 := nm_x hx1 (k := 9) rfl
        have m1_10 := nm_x hx1 (k := 10) rfl
        rcases List.mem_cons.mp hx with rfl | hx
        · skip
          dsimp only at hlo1 hsk1 ⊢
          simp (config := { decide := true }) only [bnd_b, lin_b, lin_q, Nat.reduceAdd, Nat.zero_add, Nat.reduceEqDiff, reduceIte, and_true, Int.add_zero] at hb1 hl1
          cases hsk1.nil
          obtain ⟨l10, rfl, p10⟩ := lo_ref ha hlo1
          obtain ⟨y11, l11, rfl, d11, p11⟩ := lo_int rfl p10
          obtain ⟨y12, l12, rfl, d12, p12⟩ := lo_int rfl p11
          obtain ⟨y13, l13, rfl, d13, p13⟩ := lo_int rfl p12
          obtain ⟨y14, l14, rfl, d14, p14⟩ := lo_int rfl p13
          obtain ⟨y15, l15, rfl, d15, p15⟩ := lo_int rfl p14
          obtain ⟨y16, l16, rfl, d16, p16⟩ := lo_int rfl p15
          obtain ⟨y17, l17, rfl, d17, p17⟩ := lo_int rfl p16
          obtain ⟨y18, l18, rfl, d18, p18⟩ := lo_int rfl p17
          obtain ⟨y19, l19, rfl, d19, p19⟩ := lo_int rfl p18
          obtain ⟨y110, l110, rfl, d110, p110⟩ := lo_int rfl p19
          cases lo_nil p110
          rw [vn_at hx1 (n := 2) (z := zp.toInt) rfl] at d11
          have e11 : zp = y11 := Int32.toInt_inj.mp (by omega)
          subst e11
          rw [vn_at hx1 (n := 3) (z := zy.toInt) rfl] at d12
          have e12 : zy = y12 := Int32.toInt_inj.mp (by omega)
          subst e12
          rw [vn_at hx1 (n := 4) (z := zw.toInt) rfl] at d13
          have e13 : zw = y13 := Int32.toInt_inj.mp (by omega)
          subst e13
          rw [vn_at hx1 (n := 0) (z := 0) rfl] at d14
          have e14 : zo = y14 := Int32.toInt_inj.mp (by omega)
          subst e14
          rw [vn_at hx1 (n := 6) (z := zn.toInt) rfl] at d15
          have e15 : zn = y15 := Int32.toInt_inj.mp (by omega)
          subst e15
          rw [vn_at hx1 (n := 7) (z := zl.toInt) rfl] at d16
          have e16 : zl = y16 := Int32.toInt_inj.mp (by omega)
          subst e16
          rw [vn_at hx1 (n := 8) (z := zg.toInt) rfl] at d17
          have e17 : zg = y17 := Int32.toInt_inj.mp (by omega)
          subst e17
          rw [vn_at hx1 (n := 9) (z := zs.toInt) rfl] at d18
          have e18 : zs = y18 := Int32.toInt_inj.mp (by omega)
          subst e18
          rw [vn_at hx1 (n := 0) (z := 0) rfl] at d19
          rw [vn_at hx1 (n := 0) (z := 0) rfl] at d110
          have hK : arI aa zp.toInt zy.toInt zs.toInt 2 = true := arI_1 (by
              by_cases h9 : arI aa zp.toInt zy.toInt zs.toInt 1 = true
              · exact h9
              · rw [if_neg h9] at ei
                omega)
          exact ih 2 y19 y110 ws1 (by omega) (by rw [if_pos hK]; omega) (by omega) hw1 (hfr.tr hf1)
        have hx0 := List.mem_singleton.mp hx
        subst hx0
        dsimp only at hlo1 hsk1 ⊢
        simp (config := { decide := true }) only [bnd_b, lin_b, lin_q, Nat.reduceAdd, Nat.zero_add, Nat.reduceEqDiff, reduceIte, and_true, Int.add_zero] at hb1 hl1
        cases hsk1.nil
        obtain ⟨l10, rfl, p10⟩ := lo_ref ha hlo1
        obtain ⟨y11, l11, rfl, d11, p11⟩ := lo_int rfl p10
        obtain ⟨y12, l12, rfl, d12, p12⟩ := lo_int rfl p11
        obtain ⟨y13, l13, rfl, d13, p13⟩ := lo_int rfl p12
        obtain ⟨y14, l14, rfl, d14, p14⟩ := lo_int rfl p13
        obtain ⟨y15, l15, rfl, d15, p15⟩ := lo_int rfl p14
        obtain ⟨y16, l16, rfl, d16, p16⟩ := lo_int rfl p15
        obtain ⟨y17, l17, rfl, d17, p17⟩ := lo_int rfl p16
        obtain ⟨y18, l18, rfl, d18, p18⟩ := lo_int rfl p17
        obtain ⟨y19, l19, rfl, d19, p19⟩ := lo_int rfl p18
        obtain ⟨y110, l110, rfl, d110, p110⟩ := lo_int rfl p19
        cases lo_nil p110
        rw [vn_at hx1 (n := 2) (z := zp.toInt) rfl] at d11
        have e11 : zp = y11 := Int32.toInt_inj.mp (by omega)
        subst e11
        rw [vn_at hx1 (n := 3) (z := zy.toInt) rfl] at d12
        have e12 : zy = y12 := Int32.toInt_inj.mp (by omega)
        subst e12
        rw [vn_at hx1 (n := 4) (z := zw.toInt) rfl] at d13
        have e13 : zw = y13 := Int32.toInt_inj.mp (by omega)
        subst e13
        rw [vn_at hx1 (n := 0) (z := 0) rfl] at d14
        have e14 : zo = y14 := Int32.toInt_inj.mp (by omega)
        subst e14
        rw [vn_at hx1 (n := 6) (z := zn.toInt) rfl] at d15
        have e15 : zn = y15 := Int32.toInt_inj.mp (by omega)
        subst e15
        rw [vn_at hx1 (n := 7) (z := zl.toInt) rfl] at d16
        have e16 : zl = y16 := Int32.toInt_inj.mp (by omega)
        subst e16
        rw [vn_at hx1 (n := 8) (z := zg.toInt) rfl] at d17
        have e17 : zg = y17 := Int32.toInt_inj.mp (by omega)
        subst e17
        rw [vn_at hx1 (n := 9) (z := zs.toInt) rfl] at d18
        have e18 : zs = y18 := Int32.toInt_inj.mp (by omega)
        subst e18
        rw [vn_at hx1 (n := 0) (z := 0) rfl] at d19
        rw [vn_at hx1 (n := 0) (z := 0) rfl] at d110
        have hK : ¬ arI aa zp.toInt zy.toInt zs.toInt 2 = true := arI_n (fun h9 => by rw [if_pos h9] at ei; omega) (Or.inl hb)
        exact ih 2 y19 y110 ws1 (by omega) (by rw [if_neg hK]; omega) (by omega) hw1 (hfr.tr hf1)
    · skip
      refine hildw (j := 11) (x := zk) C (tv_m160.1.1.1 (81, .iload 11, 2) (List.mem_of_getElem? (i := 43) rfl)) (List.mem_of_getElem? (i := 10) rfl) ?_
      by_cases hb : aa.testBit 2 = true
      · have hmem := (ar_b2 aa haa).1 hb
        refine hsum (st := (83, [(0, (0, 49, 0, 0)), (2, (1, 2, 0, 0)), (3, (1, 3, 0, 0)), (4, (1, 4, 0, 0)), (5, (1, 0, 0, (aa : Int))), (6, (1, 6, 0, 0)), (7, (1, 7, 0, 0)), (8, (1, 8, 0, 0)), (9, (1, 9, 0, 0)), (10, (1, 10, 0, 0)), (11, (1, 0, 0, 2))], [(1, 0, 0, 2)], [(0, 0, false, 0, 0), (0, 2555, false, 1, 0), (0, 20, false, 2, 0), (0, 20, false, 3, 0), (0, 2, false, 4, 0), (0, 15, false, 5, 0), (0, 19, false, 6, 0), (-4, 20, false, 7, 0), (-4, 20, false, 8, 0), (1, 20, false, 9, 0), (0, 1, false, 10, 0)], [], [])) (List.all_eq_true.mp ar_i21 aa hmem) rfl C (r := [0, 0, zp.toInt, zy.toInt, zw.toInt, zo.toInt, zn.toInt, zl.toInt, zg.toInt, zs.toInt, zi.toInt]) ⟨en_mk (by simp only [en_b, and_true]; omega) rfl, sb0, ⟨rfl, Or.inl ⟨rfl, ar, ha, rfl⟩, rfl, int_dv (z := zp.toInt) rfl (by omega), rfl, int_dv (z := zy.toInt) rfl (by omega), rfl, int_dv (z := zw.toInt) rfl (by omega), rfl, int_dv (z := 0) rfl (by omega), rfl, int_dv (z := zn.toInt) rfl (by omega), rfl, int_dv (z := zl.toInt) rfl (by omega), rfl, int_dv (z := zg.toInt) rfl (by omega), rfl, int_dv (z := zs.toInt) rfl (by omega), rfl, int_dv (z := zi.toInt) rfl (by omega), rfl, int_dv (z := 0) rfl (by omega), trivial⟩, ⟨int_dv (z := 0) rfl (by omega), trivial⟩, hw, k0, fun _ _ _ _ h => h, fun h => by cases h⟩ (fun x hx r1 lv1 st1 ws1 hx1 hb1 hl1 hs1 hlo1 hsk1 hw1 hV1 hf1 _ => ?_)
        unfold ar_i21_S at hx
        have m1_2 := nm_x hx1 (k := 2) rfl
        have m1_3 := nm_x hx1 (k := 3) rfl
        have m1_4 := nm_x hx1 (k := 4) rfl
        have m1_5 := nm_x hx1 (k := 5) rfl
        have m1_6 := nm_x hx1 (k := 6) rfl
        have m1_7 := nm_x hx1 (k := 7) rfl
        have m1_8 := nm_x hx1 (k := 8) rfl
        have m1_9 := nm_x hx1 (k := 9) rfl
        have m1_10 := nm_x hx1 (k := 10) rfl
        rcases List.mem_cons.mp hx with rfl | hx
        · skip
          dsimp only at hlo1 hsk1 ⊢
          simp (config := { decide := true }) only [bnd_b, lin_b, lin_q, Nat.reduceAdd, Nat.zero_add, Nat.reduceEqDiff, reduceIte, and_true, Int.add_zero] at hb1 hl1
          cases hsk1.nil
          obtain ⟨l10, rfl, p10⟩ := lo_ref ha hlo1
          obtain ⟨y11, l11, rfl, d11, p11⟩ := lo_int rfl p10
          obtain ⟨y12, l12, rfl, d12, p12⟩ := lo_int rfl p11
          obtain ⟨y13, l13, rfl, d13, p13⟩ := lo_int rfl p12
          obtain ⟨y14, l14, rfl, d14, p14⟩ := lo_int rfl p13
          obtain ⟨y15, l15, rfl, d15, p15⟩ := lo_int rfl p14
          obtain ⟨y16, l16, rfl, d16, p16⟩ := lo_int rfl p15
          obtain ⟨y17, l17, rfl, d17, p17⟩ := lo_int rfl p16
          obtain ⟨y18, l18, rfl, d18, p18⟩ := lo_int rfl p17
          obtain ⟨y19, l19, rfl, d19, p19⟩ := lo_int rfl p18
          obtain ⟨y110, l110, rfl, d110, p110⟩ := lo_int rfl p19
          cases lo_nil p110
          rw [vn_at hx1 (n := 2) (z := zp.toInt) rfl] at d11
          have e11 : zp = y11 := Int32.toInt_inj.mp (by omega)
          subst e11
          rw [vn_at hx1 (n := 3) (z := zy.toInt) rfl] at d12
          have e12 : zy = y12 := Int32.toInt_inj.mp (by omega)
          subst e12
          rw [vn_at hx1 (n := 4) (z := zw.toInt) rfl] at d13
          have e13 : zw = y13 := Int32.toInt_inj.mp (by omega)
          subst e13
          rw [vn_at hx1 (n := 0) (z := 0) rfl] at d14
          have e14 : zo = y14 := Int32.toInt_inj.mp (by omega)
          subst e14
          rw [vn_at hx1 (n := 6) (z := zn.toInt) rfl] at d15
          have e15 : zn = y15 := Int32.toInt_inj.mp (by omega)
          subst e15
          rw [vn_at hx1 (n := 7) (z := zl.toInt) rfl] at d16
          have e16 : zl = y16 := Int32.toInt_inj.mp (by omega)
          subst e16
          rw [vn_at hx1 (n := 8) (z := zg.toInt) rfl] at d17
          have e17 : zg = y17 := Int32.toInt_inj.mp (by omega)
          subst e17
          rw [vn_at hx1 (n := 9) (z := zs.toInt) rfl] at d18
          have e18 : zs = y18 := Int32.toInt_inj.mp (by omega)
          subst e18
          rw [vn_at hx1 (n := 0) (z := 0) rfl] at d19
          rw [vn_at hx1 (n := 0) (z := 0) rfl] at d110
          have hK : arI aa zp.toInt zy.toInt zs.toInt 3 = true := arI_1 (by
              by_cases h9 : arI aa zp.toInt zy.toInt zs.toInt 2 = true
              · exact h9
              · rw [if_neg h9] at ei
                omega)
          exact ih 3 y19 y110 ws1 (by omega) (by rw [if_pos hK]; omega) (by omega) hw1 (hfr.tr hf1)
        rcases List.mem_cons.mp hx with rfl | hx
        · skip
          dsimp only at hlo1 hsk1 ⊢
          simp (config := { decide := true }) only [bnd_b, lin_b, lin_q, Nat.reduceAdd, Nat.zero_add, Nat.reduceEqDiff, reduceIte, and_true, Int.add_zero] at hb1 hl1
          cases hsk1.nil
          obtain ⟨l10, rfl, p10⟩ := lo_ref ha hlo1
          obtain ⟨y11, l11, rfl, d11, p11⟩ := lo_int rfl p10
          obtain ⟨y12, l12, rfl, d12, p12⟩ := lo_int rfl p11
          obtain ⟨y13, l13, rfl, d13, p13⟩ := lo_int rfl p12
          obtain ⟨y14, l14, rfl, d14, p14⟩ := lo_int rfl p13
          obtain ⟨y15, l15, rfl, d15, p15⟩ := lo_int rfl p14
          obtain ⟨y16, l16, rfl, d16, p16⟩ := lo_int rfl p15
          obtain ⟨y17, l17, rfl, d17, p17⟩ := lo_int rfl p16
          obtain ⟨y18, l18, rfl, d18, p18⟩ := lo_int rfl p17
          obtain ⟨y19, l19, rfl, d19, p19⟩ := lo_int rfl p18
          obtain ⟨y110, l110, rfl, d110, p110⟩ := lo_int rfl p19
          cases lo_nil p110
          rw [vn_at hx1 (n := 2) (z := zp.toInt) rfl] at d11
          have e11 : zp = y11 := Int32.toInt_inj.mp (by omega)
          subst e11
          rw [vn_at hx1 (n := 3) (z := zy.toInt) rfl] at d12
          have e12 : zy = y12 := Int32.toInt_inj.mp (by omega)
          subst e12
          rw [vn_at hx1 (n := 4) (z := zw.toInt) rfl] at d13
          have e13 : zw = y13 := Int32.toInt_inj.mp (by omega)
          subst e13
          rw [vn_at hx1 (n := 0) (z := 0) rfl] at d14
          have e14 : zo = y14 := Int32.toInt_inj.mp (by omega)
          subst e14
          rw [vn_at hx1 (n := 6) (z := zn.toInt) rfl] at d15
          have e15 : zn = y15 := Int32.toInt_inj.mp (by omega)
          subst e15
          rw [vn_at hx1 (n := 7) (z := zl.toInt) rfl] at d16
          have e16 : zl = y16 := Int32.toInt_inj.mp (by omega)
          subst e16
          rw [vn_at hx1 (n := 8) (z := zg.toInt) rfl] at d17
          have e17 : zg = y17 := Int32.toInt_inj.mp (by omega)
          subst e17
          rw [vn_at hx1 (n := 9) (z := zs.toInt) rfl] at d18
          have e18 : zs = y18 := Int32.toInt_inj.mp (by omega)
          subst e18
          rw [vn_at hx1 (n := 0) (z := 0) rfl] at d19
          rw [vn_at hx1 (n := 0) (z := 0) rfl] at d110
          have hK : ¬ arI aa zp.toInt zy.toInt zs.toInt 3 = true := arI_n (fun h9 => by rw [if_pos h9] at ei; omega) (Or.inr (by rw [yl_2]; omega))
          exact ih 3 y19 y110 ws1 (by omega) (by rw [if_neg hK]; omega) (by omega) hw1 (hfr.tr hf1)
        have hx0 := List.mem_singleton.mp hx
        subst hx0
        dsimp only at hlo1 hsk1 ⊢
        simp (config := { decide := true }) only [bnd_b, lin_b, lin_q, Nat.reduceAdd, Nat.zero_add, Nat.reduceEqDiff, reduceIte, and_true, Int.add_zero] at hb1 hl1
        cases hsk1.nil
        obtain ⟨l10, rfl, p10⟩ := lo_ref ha hlo1
        obtain ⟨y11, l11, rfl, d11, p11⟩ := lo_int rfl p10
        obtain ⟨y12, l12, rfl, d12, p12⟩ := lo_int rfl p11
        obtain ⟨y13, l13, rfl, d13, p13⟩ := lo_int rfl p12
        obtain ⟨y14, l14, rfl, d14, p14⟩ := lo_int rfl p13
        obtain ⟨y15, l15, rfl, d15, p15⟩ := lo_int rfl p14
        obtain ⟨y16, l16, rfl, d16, p16⟩ := lo_int rfl p15
        obtain ⟨y17, l17, rfl, d17, p17⟩ := lo_int rfl p16
        obtain ⟨y18, l18, rfl, d18, p18⟩ := lo_int rfl p17
        obtain ⟨y19, l19, rfl, d19, p19⟩ := lo_int rfl p18
        obtain ⟨y110, l110, rfl, d110, p110⟩ := lo_int rfl p19
        cases lo_nil p110
        rw [vn_at hx1 (n := 2) (z := zp.toInt) rfl] at d11
        have e11 : zp = y11 := Int32.toInt_inj.mp (by omega)
        subst e11
        rw [vn_at hx1 (n := 3) (z := zy.toInt) rfl] at d12
        have e12 : zy = y12 := Int32.toInt_inj.mp (by omega)
        subst e12
        rw [vn_at hx1 (n := 4) (z := zw.toInt) rfl] at d13
        have e13 : zw = y13 := Int32.toInt_inj.mp (by omega)
        subst e13
        rw [vn_at hx1 (n := 0) (z := 0) rfl] at d14
        have e14 : zo = y14 := Int32.toInt_inj.mp (by omega)
        subst e14
        rw [vn_at hx1 (n := 6) (z := zn.toInt) rfl] at d15
        have e15 : zn = y15 := Int32.toInt_inj.mp (by omega)
        subst e15
        rw [vn_at hx1 (n := 7) (z := zl.toInt) rfl] at d16
        have e16 : zl = y16 := Int32.toInt_inj.mp (by omega)
        subst e16
        rw [vn_at hx1 (n := 8) (z := zg.toInt) rfl] at d17
        have e17 : zg = y17 := Int32.toInt_inj.mp (by omega)
        subst e17
        rw [vn_at hx1 (n := 9) (z := zs.toInt) rfl] at d18
        have e18 : zs = y18 := Int32.toInt_inj.mp (by omega)
        subst e18
        rw [vn_at hx1 (n := 0) (z := 0) rfl] at d19
        rw [vn_at hx1 (n := 0) (z := 0) rfl] at d110
        have hK : arI aa zp.toInt zy.toInt zs.toInt 3 = true := arI_y hb (by rw [yl_2]; omega)
        exact ih 3 y19 y110 ws1 (by omega) (by rw [if_pos hK]; omega) (by omega) hw1 (hfr.tr hf1)
      · have hmem := (ar_b2 aa haa).2 hb
        refine hsum (st := (83, [(0, (0, 49, 0, 0)), (2, (1, 2, 0, 0)), (3, (1, 3, 0, 0)), (4, (1, 4, 0, 0)), (5, (1, 0, 0, (aa : Int))), (6, (1, 6, 0, 0)), (7, (1, 7, 0, 0)), (8, (1, 8, 0, 0)), (9, (1, 9, 0, 0)), (10, (1, 10, 0, 0)), (11, (1, 0, 0, 2))], [(1, 0, 0, 2)], [(0, 0, false, 0, 0), (0, 2555, false, 1, 0), (0, 20, false, 2, 0), (0, 20, false, 3, 0), (0, 2, false, 4, 0), (0, 15, false, 5, 0), (0, 19, false, 6, 0), (-4, 20, false, 7, 0), (-4, 20, false, 8, 0), (1, 20, false, 9, 0), (0, 1, false, 10, 0)], [], [])) (List.all_eq_true.mp ar_i20 aa hmem) rfl C (r := [0, 0, zp.toInt, zy.toInt, zw.toInt, zo.toInt, zn.toInt, zl.toInt, zg.toInt, zs.toInt, zi.toInt]) ⟨en_mk (by simp only [en_b, and_true]; omega) rfl, sb0, ⟨rfl, Or.inl ⟨rfl, ar, ha, rfl⟩, rfl, int_dv (z := zp.toInt) rfl (by omega), rfl, int_dv (z := zy.toInt) rfl (by omega), rfl, int_dv (z := zw.toInt) rfl (by omega), rfl, int_dv (z := 0) rfl (by omega), rfl, int_dv (z := zn.toInt) rfl (by omega), rfl, int_dv (z := zl.toInt) rfl (by omega), rfl, int_dv (z := zg.toInt) rfl (by omega), rfl, int_dv (z := zs.toInt) rfl (by omega), rfl, int_dv (z := zi.toInt) rfl (by omega), rfl, int_dv (z := 0) rfl (by omega), trivial⟩, ⟨int_dv (z := 0) rfl (by omega), trivial⟩, hw, k0, fun _ _ _ _ h => h, fun h => by cases h⟩ (fun x hx r1 lv1 st1 ws1 hx1 hb1 hl1 hs1 hlo1 hsk1 hw1 hV1 hf1 _ => ?_)
        unfold ar_i20_S at hx
        have m1_2 := nm_x hx1 (k := 2) rfl
        have m1_3 := nm_x hx1 (k := 3) rfl
        have m1_4 := nm_x hx1 (k := 4) rfl
        have m1_5 := nm_x hx1 (k := 5) rfl
        have m1_6 := nm_x hx1 (k := 6) rfl
        have m1_7 := nm_x hx1 (k := 7) rfl
        have m1_8 := nm_x hx1 (k := 8) rfl
        have m1_9 := nm_x hx1 (k := 9) rfl
        have m1_10 := nm_x hx1 (k := 10) rfl
        rcases List.mem_cons.mp hx with rfl | hx
        · skip
          dsimp only at hlo1 hsk1 ⊢
          simp (config := { decide := true }) only [bnd_b, lin_b, lin_q, Nat.reduceAdd, Nat.zero_add, Nat.reduceEqDiff, reduceIte, and_true, Int.add_zero] at hb1 hl1
          cases hsk1.nil
          obtain ⟨l10, rfl, p10⟩ := lo_ref ha hlo1
          obtain ⟨y11, l11, rfl, d11, p11⟩ := lo_int rfl p10
          obtain ⟨y12, l12, rfl, d12, p12⟩ := lo_int rfl p11
          obtain ⟨y13, l13, rfl, d13, p13⟩ := lo_int rfl p12
          obtain ⟨y14, l14, rfl, d14, p14⟩ := lo_int rfl p13
          obtain ⟨y15, l15, rfl, d15, p15⟩ := lo_int rfl p14
          obtain ⟨y16, l16, rfl, d16, p16⟩ := lo_int rfl p15
          obtain ⟨y17, l17, rfl, d17, p17⟩ := lo_int rfl p16
          obtain ⟨y18, l18, rfl, d18, p18⟩ := lo_int rfl p17
          obtain ⟨y19, l19, rfl, d19, p19⟩ := lo_int rfl p18
          obtain ⟨y110, l110, rfl, d110, p110⟩ := lo_int rfl p19
          cases lo_nil p110
          rw [vn_at hx1 (n := 2) (z := zp.toInt) rfl] at d11
          have e11 : zp = y11 := Int32.toInt_inj.mp (by omega)
          subst e11
          rw [vn_at hx1 (n := 3) (z := zy.toInt) rfl] at d12
          have e12 : zy = y12 := Int32.toInt_inj.mp (by omega)
          subst e12
          rw [vn_at hx1 (n := 4) (z := zw.toInt) rfl] at d13
          have e13 : zw = y13 := Int32.toInt_inj.mp (by omega)
          subst e13
          rw [vn_at hx1 (n := 0) (z := 0) rfl] at d14
          have e14 : zo = y14 := Int32.toInt_inj.mp (by omega)
          subst e14
          rw [vn_at hx1 (n := 6) (z := zn.toInt) rfl] at d15
          have e15 : zn = y15 := Int32.toInt_inj.mp (by omega)
          subst e15
          rw [vn_at hx1 (n := 7) (z := zl.toInt) rfl] at d16
          have e16 : zl = y16 := Int32.toInt_inj.mp (by omega)
          subst e16
          rw [vn_at hx1 (n := 8) (z := zg.toInt) rfl] at d17
          have e17 : zg = y17 := Int32.toInt_inj.mp (by omega)
          subst e17
          rw [vn_at hx1 (n := 9) (z := zs.toInt) rfl] at d18
          have e18 : zs = y18 := Int32.toInt_inj.mp (by omega)
          subst e18
          rw [vn_at hx1 (n := 0) (z := 0) rfl] at d19
          rw [vn_at hx1 (n := 0) (z := 0) rfl] at d110
          have hK : arI aa zp.toInt zy.toInt zs.toInt 3 = true := arI_1 (by
              by_cases h9 : arI aa zp.toInt zy.toInt zs.toInt 2 = true
              · exact h9
              · rw [if_neg h9] at ei
                omega)
          exact ih 3 y19 y110 ws1 (by omega) (by rw [if_pos hK]; omega) (by omega) hw1 (hfr.tr hf1)
        have hx0 := List.mem_singleton.mp hx
        subst hx0
        dsimp only at hlo1 hsk1 ⊢
        simp (config := { decide := true }) only [bnd_b, lin_b, lin_q, Nat.reduceAdd, Nat.zero_add, Nat.reduceEqDiff, reduceIte, and_true, Int.add_zero] at hb1 hl1
        cases hsk1.nil
        obtain ⟨l10, rfl, p10⟩ := lo_ref ha hlo1
        obtain ⟨y11, l11, rfl, d11, p11⟩ := lo_int rfl p10
        obtain ⟨y12, l12, rfl, d12, p12⟩ := lo_int rfl p11
        obtain ⟨y13, l13, rfl, d13, p13⟩ := lo_int rfl p12
        obtain ⟨y14, l14, rfl, d14, p14⟩ := lo_int rfl p13
        obtain ⟨y15, l15, rfl, d15, p15⟩ := lo_int rfl p14
        obtain ⟨y16, l16, rfl, d16, p16⟩ := lo_int rfl p15
        obtain ⟨y17, l17, rfl, d17, p17⟩ := lo_int rfl p16
        obtain ⟨y18, l18, rfl, d18, p18⟩ := lo_int rfl p17
        obtain ⟨y19, l19, rfl, d19, p19⟩ := lo_int rfl p18
        obtain ⟨y110, l110, rfl, d110, p110⟩ := lo_int rfl p19
        cases lo_nil p110
        rw [vn_at hx1 (n := 2) (z := zp.toInt) rfl] at d11
        have e11 : zp = y11 := Int32.toInt_inj.mp (by omega)
        subst e11
        rw [vn_at hx1 (n := 3) (z := zy.toInt) rfl] at d12
        have e12 : zy = y12 := Int32.toInt_inj.mp (by omega)
        subst e12
        rw [vn_at hx1 (n := 4) (z := zw.toInt) rfl] at d13
        have e13 : zw = y13 := Int32.toInt_inj.mp (by omega)
        subst e13
        rw [vn_at hx1 (n := 0) (z := 0) rfl] at d14
        have e14 : zo = y14 := Int32.toInt_inj.mp (by omega)
        subst e14
        rw [vn_at hx1 (n := 6) (z := zn.toInt) rfl] at d15
        have e15 : zn = y15 := Int32.toInt_inj.mp (by omega)
        subst e15
        rw [vn_at hx1 (n := 7) (z := zl.toInt) rfl] at d16
        have e16 : zl = y16 := Int32.toInt_inj.mp (by omega)
        subst e16
        rw [vn_at hx1 (n := 8) (z := zg.toInt) rfl] at d17
        have e17 : zg = y17 := Int32.toInt_inj.mp (by omega)
        subst e17
        rw [vn_at hx1 (n := 9) (z := zs.toInt) rfl] at d18
        have e18 : zs = y18 := Int32.toInt_inj.mp (by omega)
        subst e18
        rw [vn_at hx1 (n := 0) (z := 0) rfl] at d19
        rw [vn_at hx1 (n := 0) (z := 0) rfl] at d110
        have hK : ¬ arI aa zp.toInt zy.toInt zs.toInt 3 = true := arI_n (fun h9 => by rw [if_pos h9] at ei; omega) (Or.inl hb)
        exact ih 3 y19 y110 ws1 (by omega) (by rw [if_neg hK]; omega) (by omega) hw1 (hfr.tr hf1)
    · skip
      refine hildw (j := 11) (x := zk) C (tv_m160.1.1.1 (81, .iload 11, 2) (List.mem_of_getElem? (i := 43) rfl)) (List.mem_of_getElem? (i := 10) rfl) ?_
      by_cases hb : aa.testBit 3 = true
      · have hmem := (ar_b3 aa haa).1 hb
        refine hsum (st := (83, [(0, (0, 49, 0, 0)), (2, (1, 2, 0, 0)), (3, (1, 3, 0, 0)), (4, (1, 4, 0, 0)), (5, (1, 0, 0, (aa : Int))), (6, (1, 6, 0, 0)), (7, (1, 7, 0, 0)), (8, (1, 8, 0, 0)), (9, (1, 9, 0, 0)), (10, (1, 10, 0, 0)), (11, (1, 0, 0, 3))], [(1, 0, 0, 3)], [(0, 0, false, 0, 0), (0, 2555, false, 1, 0), (0, 20, false, 2, 0), (0, 20, false, 3, 0), (0, 2, false, 4, 0), (0, 15, false, 5, 0), (0, 19, false, 6, 0), (-4, 20, false, 7, 0), (-4, 20, false, 8, 0), (1, 20, false, 9, 0), (0, 1, false, 10, 0)], [], [])) (List.all_eq_true.mp ar_i31 aa hmem) rfl C (r := [0, 0, zp.toInt, zy.toInt, zw.toInt, zo.toInt, zn.toInt, zl.toInt, zg.toInt, zs.toInt, zi.toInt]) ⟨en_mk (by simp only [en_b, and_true]; omega) rfl, sb0, ⟨rfl, Or.inl ⟨rfl, ar, ha, rfl⟩, rfl, int_dv (z := zp.toInt) rfl (by omega), rfl, int_dv (z := zy.toInt) rfl (by omega), rfl, int_dv (z := zw.toInt) rfl (by omega), rfl, int_dv (z := 0) rfl (by omega), rfl, int_dv (z := zn.toInt) rfl (by omega), rfl, int_dv (z := zl.toInt) rfl (by omega), rfl, int_dv (z := zg.toInt) rfl (by omega), rfl, int_dv (z := zs.toInt) rfl (by omega), rfl, int_dv (z := zi.toInt) rfl (by omega), rfl, int_dv (z := 0) rfl (by omega), trivial⟩, ⟨int_dv (z := 0) rfl (by omega), trivial⟩, hw, k0, fun _ _ _ _ h => h, fun h => by cases h⟩ (fun x hx r1 lv1 st1 ws1 hx1 hb1 hl1 hs1 hlo1 hsk1 hw1 hV1 hf1 _ => ?_)
        unfold ar_i31_S at hx
        have m1_2 := nm_x hx1 (k := 2) rfl
        have m1_3 := nm_x hx1 (k := 3) rfl
        have m1_4 := nm_x hx1 (k := 4) rfl
        have m1_5 := nm_x hx1 (k := 5) rfl
        have m1_6 := nm_x hx1 (k := 6) rfl
        have m1_7 := nm_x hx1 (k := 7) rfl
        have m1_8 := nm_x hx1 (k := 8) rfl
        have m1_9 := nm_x hx1 (k := 9) rfl
        have m1_10 := nm_x hx1 (k := 10) rfl
        rcases List.mem_cons.mp hx with rfl | hx
        · skip
          dsimp only at hlo1 hsk1 ⊢
          simp (config := { decide := true }) only [bnd_b, lin_b, lin_q, Nat.reduceAdd, Nat.zero_add, Nat.reduceEqDiff, reduceIte, and_true, Int.add_zero] at hb1 hl1
          cases hsk1.nil
          obtain ⟨l10, rfl, p10⟩ := lo_ref ha hlo1
          obtain ⟨y11, l11, rfl, d11, p11⟩ := lo_int rfl p10
          obtain ⟨y12, l12, rfl, d12, p12⟩ := lo_int rfl p11
          obtain ⟨y13, l13, rfl, d13, p13⟩ := lo_int rfl p12
          obtain ⟨y14, l14, rfl, d14, p14⟩ := lo_int rfl p13
          obtain ⟨y15, l15, rfl, d15, p15⟩ := lo_int rfl p14
          obtain ⟨y16, l16, rfl, d16, p16⟩ := lo_int rfl p15
          obtain ⟨y17, l17, rfl, d17, p17⟩ := lo_int rfl p16
          obtain ⟨y18, l18, rfl, d18, p18⟩ := lo_int rfl p17
          obtain ⟨y19, l19, rfl, d19, p19⟩ := lo_int rfl p18
          obtain ⟨y110, l110, rfl, d110, p110⟩ := lo_int rfl p19
          cases lo_nil p110
          rw [vn_at hx1 (n := 2) (z := zp.toInt) rfl] at d11
          have e11 : zp = y11 := Int32.toInt_inj.mp (by omega)
          subst e11
          rw [vn_at hx1 (n := 3) (z := zy.toInt) rfl] at d12
          have e12 : zy = y12 := Int32.toInt_inj.mp (by omega)
          subst e12
          rw [vn_at hx1 (n := 4) (z := zw.toInt) rfl] at d13
          have e13 : zw = y13 := Int32.toInt_inj.mp (by omega)
          subst e13
          rw [vn_at hx1 (n := 0) (z := 0) rfl] at d14
          have e14 : zo = y14 := Int32.toInt_inj.mp (by omega)
          subst e14
          rw [vn_at hx1 (n := 6) (z := zn.toInt) rfl] at d15
          have e15 : zn = y15 := Int32.toInt_inj.mp (by omega)
          subst e15
          rw [vn_at hx1 (n := 7) (z := zl.toInt) rfl] at d16
          have e16 : zl = y16 := Int32.toInt_inj.mp (by omega)
          subst e16
          rw [vn_at hx1 (n := 8) (z := zg.toInt) rfl] at d17
          have e17 : zg = y17 := Int32.toInt_inj.mp (by omega)
          subst e17
          rw [vn_at hx1 (n := 9) (z := zs.toInt) rfl] at d18
          have e18 : zs = y18 := Int32.toInt_inj.mp (by omega)
          subst e18
          rw [vn_at hx1 (n := 0) (z := 0) rfl] at d19
          rw [vn_at hx1 (n := 0) (z := 0) rfl] at d110
          have hK : arI aa zp.toInt zy.toInt zs.toInt 4 = true := arI_1 (by
              by_cases h9 : arI aa zp.toInt zy.toInt zs.toInt 3 = true
              · exact h9
              · rw [if_neg h9] at ei
                omega)
          exact ih 4 y19 y110 ws1 (by omega) (by rw [if_pos hK]; omega) (by omega) hw1 (hfr.tr hf1)
        rcases List.mem_cons.mp hx with rfl | hx
        · skip
          dsimp only at hlo1 hsk1 ⊢
          simp (config := { decide := true }) only [bnd_b, lin_b, lin_q, Nat.reduceAdd, Nat.zero_add, Nat.reduceEqDiff, reduceIte, and_true, Int.add_zero] at hb1 hl1
          cases hsk1.nil
          obtain ⟨l10, rfl, p10⟩ := lo_ref ha hlo1
          obtain ⟨y11, l11, rfl, d11, p11⟩ := lo_int rfl p10
          obtain ⟨y12, l12, rfl, d12, p12⟩ := lo_int rfl p11
          obtain ⟨y13, l13, rfl, d13, p13⟩ := lo_int rfl p12
          obtain ⟨y14, l14, rfl, d14, p14⟩ := lo_int rfl p13
          obtain ⟨y15, l15, rfl, d15, p15⟩ := lo_int rfl p14
          obtain ⟨y16, l16, rfl, d16, p16⟩ := lo_int rfl p15
          obtain ⟨y17, l17, rfl, d17, p17⟩ := lo_int rfl p16
          obtain ⟨y18, l18, rfl, d18, p18⟩ := lo_int rfl p17
          obtain ⟨y19, l19, rfl, d19, p19⟩ := lo_int rfl p18
          obtain ⟨y110, l110, rfl, d110, p110⟩ := lo_int rfl p19
          cases lo_nil p110
          rw [vn_at hx1 (n := 2) (z := zp.toInt) rfl] at d11
          have e11 : zp = y11 := Int32.toInt_inj.mp (by omega)
          subst e11
          rw [vn_at hx1 (n := 3) (z := zy.toInt) rfl] at d12
          have e12 : zy = y12 := Int32.toInt_inj.mp (by omega)
          subst e12
          rw [vn_at hx1 (n := 4) (z := zw.toInt) rfl] at d13
          have e13 : zw = y13 := Int32.toInt_inj.mp (by omega)
          subst e13
          rw [vn_at hx1 (n := 0) (z := 0) rfl] at d14
          have e14 : zo = y14 := Int32.toInt_inj.mp (by omega)
          subst e14
          rw [vn_at hx1 (n := 6) (z := zn.toInt) rfl] at d15
          have e15 : zn = y15 := Int32.toInt_inj.mp (by omega)
          subst e15
          rw [vn_at hx1 (n := 7) (z := zl.toInt) rfl] at d16
          have e16 : zl = y16 := Int32.toInt_inj.mp (by omega)
          subst e16
          rw [vn_at hx1 (n := 8) (z := zg.toInt) rfl] at d17
          have e17 : zg = y17 := Int32.toInt_inj.mp (by omega)
          subst e17
          rw [vn_at hx1 (n := 9) (z := zs.toInt) rfl] at d18
          have e18 : zs = y18 := Int32.toInt_inj.mp (by omega)
          subst e18
          rw [vn_at hx1 (n := 0) (z := 0) rfl] at d19
          rw [vn_at hx1 (n := 0) (z := 0) rfl] at d110
          have hK : ¬ arI aa zp.toInt zy.toInt zs.toInt 4 = true := arI_n (fun h9 => by rw [if_pos h9] at ei; omega) (Or.inr (by rw [yl_3]; omega))
          exact ih 4 y19 y110 ws1 (by omega) (by rw [if_neg hK]; omega) (by omega) hw1 (hfr.tr hf1)
        rcases List.mem_cons.mp hx with rfl | hx
        · skip
          dsimp only at hlo1 hsk1 ⊢
          simp (config := { decide := true }) only [bnd_b, lin_b, lin_q, Nat.reduceAdd, Nat.zero_add, Nat.reduceEqDiff, reduceIte, and_true, Int.add_zero] at hb1 hl1
          cases hsk1.nil
          obtain ⟨l10, rfl, p10⟩ := lo_ref ha hlo1
          obtain ⟨y11, l11, rfl, d11, p11⟩ := lo_int rfl p10
          obtain ⟨y12, l12, rfl, d12, p12⟩ := lo_int rfl p11
          obtain ⟨y13, l13, rfl, d13, p13⟩ := lo_int rfl p12
          obtain ⟨y14, l14, rfl, d14, p14⟩ := lo_int rfl p13
          obtain ⟨y15, l15, rfl, d15, p15⟩ := lo_int rfl p14
          obtain ⟨y16, l16, rfl, d16, p16⟩ := lo_int rfl p15
          obtain ⟨y17, l17, rfl, d17, p17⟩ := lo_int rfl p16
          obtain ⟨y18, l18, rfl, d18, p18⟩ := lo_int rfl p17
          obtain ⟨y19, l19, rfl, d19, p19⟩ := lo_int rfl p18
          obtain ⟨y110, l110, rfl, d110, p110⟩ := lo_int rfl p19
          cases lo_nil p110
          rw [vn_at hx1 (n := 2) (z := zp.toInt) rfl] at d11
          have e11 : zp = y11 := Int32.toInt_inj.mp (by omega)
          subst e11
          rw [vn_at hx1 (n := 3) (z := zy.toInt) rfl] at d12
          have e12 : zy = y12 := Int32.toInt_inj.mp (by omega)
          subst e12
          rw [vn_at hx1 (n := 4) (z := zw.toInt) rfl] at d13
          have e13 : zw = y13 := Int32.toInt_inj.mp (by omega)
          subst e13
          rw [vn_at hx1 (n := 0) (z := 0) rfl] at d14
          have e14 : zo = y14 := Int32.toInt_inj.mp (by omega)
          subst e14
          rw [vn_at hx1 (n := 6) (z := zn.toInt) rfl] at d15
          have e15 : zn = y15 := Int32.toInt_inj.mp (by omega)
          subst e15
          rw [vn_at hx1 (n := 7) (z := zl.toInt) rfl] at d16
          have e16 : zl = y16 := Int32.toInt_inj.mp (by omega)
          subst e16
          rw [vn_at hx1 (n := 8) (z := zg.toInt) rfl] at d17
          have e17 : zg = y17 := Int32.toInt_inj.mp (by omega)
          subst e17
          rw [vn_at hx1 (n := 9) (z := zs.toInt) rfl] at d18
          have e18 : zs = y18 := Int32.toInt_inj.mp (by omega)
          subst e18
          rw [vn_at hx1 (n := 0) (z := 0) rfl] at d19
          rw [vn_at hx1 (n := 0) (z := 0) rfl] at d110
          have hK : arI aa zp.toInt zy.toInt zs.toInt 4 = true := arI_y hb (by rw [yl_3]; omega)
          exact ih 4 y19 y110 ws1 (by omega) (by rw [if_pos hK]; omega) (by omega) hw1 (hfr.tr hf1)
        rcases List.mem_cons.mp hx with rfl | hx
        · skip
          dsimp only at hlo1 hsk1 ⊢
          simp (config := { decide := true }) only [bnd_b, lin_b, lin_q, Nat.reduceAdd, Nat.zero_add, Nat.reduceEqDiff, reduceIte, and_true, Int.add_zero] at hb1 hl1
          cases hsk1.nil
          obtain ⟨l10, rfl, p10⟩ := lo_ref ha hlo1
          obtain ⟨y11, l11, rfl, d11, p11⟩ := lo_int rfl p10
          obtain ⟨y12, l12, rfl, d12, p12⟩ := lo_int rfl p11
          obtain ⟨y13, l13, rfl, d13, p13⟩ := lo_int rfl p12
          obtain ⟨y14, l14, rfl, d14, p14⟩ := lo_int rfl p13
          obtain ⟨y15, l15, rfl, d15, p15⟩ := lo_int rfl p14
          obtain ⟨y16, l16, rfl, d16, p16⟩ := lo_int rfl p15
          obtain ⟨y17, l17, rfl, d17, p17⟩ := lo_int rfl p16
          obtain ⟨y18, l18, rfl, d18, p18⟩ := lo_int rfl p17
          obtain ⟨y19, l19, rfl, d19, p19⟩ := lo_int rfl p18
          obtain ⟨y110, l110, rfl, d110, p110⟩ := lo_int rfl p19
          cases lo_nil p110
          rw [vn_at hx1 (n := 2) (z := zp.toInt) rfl] at d11
          have e11 : zp = y11 := Int32.toInt_inj.mp (by omega)
          subst e11
          rw [vn_at hx1 (n := 3) (z := zy.toInt) rfl] at d12
          have e12 : zy = y12 := Int32.toInt_inj.mp (by omega)
          subst e12
          rw [vn_at hx1 (n := 4) (z := zw.toInt) rfl] at d13
          have e13 : zw = y13 := Int32.toInt_inj.mp (by omega)
          subst e13
          rw [vn_at hx1 (n := 0) (z := 0) rfl] at d14
          have e14 : zo = y14 := Int32.toInt_inj.mp (by omega)
          subst e14
          rw [vn_at hx1 (n := 6) (z := zn.toInt) rfl] at d15
          have e15 : zn = y15 := Int32.toInt_inj.mp (by omega)
          subst e15
          rw [vn_at hx1 (n := 7) (z := zl.toInt) rfl] at d16
          have e16 : zl = y16 := Int32.toInt_inj.mp (by omega)
          subst e16
          rw [vn_at hx1 (n := 8) (z := zg.toInt) rfl] at d17
          have e17 : zg = y17 := Int32.toInt_inj.mp (by omega)
          subst e17
          rw [vn_at hx1 (n := 9) (z := zs.toInt) rfl] at d18
          have e18 : zs = y18 := Int32.toInt_inj.mp (by omega)
          subst e18
          rw [vn_at hx1 (n := 0) (z := 0) rfl] at d19
          rw [vn_at hx1 (n := 0) (z := 0) rfl] at d110
          have hK : ¬ arI aa zp.toInt zy.toInt zs.toInt 4 = true := arI_n (fun h9 => by rw [if_pos h9] at ei; omega) (Or.inr (by rw [yl_3]; omega))
          exact ih 4 y19 y110 ws1 (by omega) (by rw [if_neg hK]; omega) (by omega) hw1 (hfr.tr hf1)
        have hx0 := List.mem_singleton.mp hx
        subst hx0
        dsimp only at hlo1 hsk1 ⊢
        simp (config := { decide := true }) only [bnd_b, lin_b, lin_q, Nat.reduceAdd, Nat.zero_add, Nat.reduceEqDiff, reduceIte, and_true, Int.add_zero] at hb1 hl1
        cases hsk1.nil
        obtain ⟨l10, rfl, p10⟩ := lo_ref ha hlo1
        obtain ⟨y11, l11, rfl, d11, p11⟩ := lo_int rfl p10
        obtain ⟨y12, l12, rfl, d12, p12⟩ := lo_int rfl p11
        obtain ⟨y13, l13, rfl, d13, p13⟩ := lo_int rfl p12
        obtain ⟨y14, l14, rfl, d14, p14⟩ := lo_int rfl p13
        obtain ⟨y15, l15, rfl, d15, p15⟩ := lo_int rfl p14
        obtain ⟨y16, l16, rfl, d16, p16⟩ := lo_int rfl p15
        obtain ⟨y17, l17, rfl, d17, p17⟩ := lo_int rfl p16
        obtain ⟨y18, l18, rfl, d18, p18⟩ := lo_int rfl p17
        obtain ⟨y19, l19, rfl, d19, p19⟩ := lo_int rfl p18
        obtain ⟨y110, l110, rfl, d110, p110⟩ := lo_int rfl p19
        cases lo_nil p110
        rw [vn_at hx1 (n := 2) (z := zp.toInt) rfl] at d11
        have e11 : zp = y11 := Int32.toInt_inj.mp (by omega)
        subst e11
        rw [vn_at hx1 (n := 3) (z := zy.toInt) rfl] at d12
        have e12 : zy = y12 := Int32.toInt_inj.mp (by omega)
        subst e12
        rw [vn_at hx1 (n := 4) (z := zw.toInt) rfl] at d13
        have e13 : zw = y13 := Int32.toInt_inj.mp (by omega)
        subst e13
        rw [vn_at hx1 (n := 0) (z := 0) rfl] at d14
        have e14 : zo = y14 := Int32.toInt_inj.mp (by omega)
        subst e14
        rw [vn_at hx1 (n := 6) (z := zn.toInt) rfl] at d15
        have e15 : zn = y15 := Int32.toInt_inj.mp (by omega)
        subst e15
        rw [vn_at hx1 (n := 7) (z := zl.toInt) rfl] at d16
        have e16 : zl = y16 := Int32.toInt_inj.mp (by omega)
        subst e16
        rw [vn_at hx1 (n := 8) (z := zg.toInt) rfl] at d17
        have e17 : zg = y17 := Int32.toInt_inj.mp (by omega)
        subst e17
        rw [vn_at hx1 (n := 9) (z := zs.toInt) rfl] at d18
        have e18 : zs = y18 := Int32.toInt_inj.mp (by omega)
        subst e18
        rw [vn_at hx1 (n := 0) (z := 0) rfl] at d19
        rw [vn_at hx1 (n := 0) (z := 0) rfl] at d110
        have hK : arI aa zp.toInt zy.toInt zs.toInt 4 = true := arI_y hb (by rw [yl_3]; omega)
        exact ih 4 y19 y110 ws1 (by omega) (by rw [if_pos hK]; omega) (by omega) hw1 (hfr.tr hf1)
      · have hmem := (ar_b3 aa haa).2 hb
        refine hsum (st := (83, [(0, (0, 49, 0, 0)), (2, (1, 2, 0, 0)), (3, (1, 3, 0, 0)), (4, (1, 4, 0, 0)), (5, (1, 0, 0, (aa : Int))), (6, (1, 6, 0, 0)), (7, (1, 7, 0, 0)), (8, (1, 8, 0, 0)), (9, (1, 9, 0, 0)), (10, (1, 10, 0, 0)), (11, (1, 0, 0, 3))], [(1, 0, 0, 3)], [(0, 0, false, 0, 0), (0, 2555, false, 1, 0), (0, 20, false, 2, 0), (0, 20, false, 3, 0), (0, 2, false, 4, 0), (0, 15, false, 5, 0), (0, 19, false, 6, 0), (-4, 20, false, 7, 0), (-4, 20, false, 8, 0), (1, 20, false, 9, 0), (0, 1, false, 10, 0)], [], [])) (List.all_eq_true.mp ar_i30 aa hmem) rfl C (r := [0, 0, zp.toInt, zy.toInt, zw.toInt, zo.toInt, zn.toInt, zl.toInt, zg.toInt, zs.toInt, zi.toInt]) ⟨en_mk (by simp only [en_b, and_true]; omega) rfl, sb0, ⟨rfl, Or.inl ⟨rfl, ar, ha, rfl⟩, rfl, int_dv (z := zp.toInt) rfl (by omega), rfl, int_dv (z := zy.toInt) rfl (by omega), rfl, int_dv (z := zw.toInt) rfl (by omega), rfl, int_dv (z := 0) rfl (by omega), rfl, int_dv (z := zn.toInt) rfl (by omega), rfl, int_dv (z := zl.toInt) rfl (by omega), rfl, int_dv (z := zg.toInt) rfl (by omega), rfl, int_dv (z := zs.toInt) rfl (by omega), rfl, int_dv (z := zi.toInt) rfl (by omega), rfl, int_dv (z := 0) rfl (by omega), trivial⟩, ⟨int_dv (z := 0) rfl (by omega), trivial⟩, hw, k0, fun _ _ _ _ h => h, fun h => by cases h⟩ (fun x hx r1 lv1 st1 ws1 hx1 hb1 hl1 hs1 hlo1 hsk1 hw1 hV1 hf1 _ => ?_)
        unfold ar_i30_S at hx
        have m1_2 := nm_x hx1 (k := 2) rfl
        have m1_3 := nm_x hx1 (k := 3) rfl
        have m1_4 := nm_x hx1 (k := 4) rfl
        have m1_5 := nm_x hx1 (k := 5) rfl
        have m1_6 := nm_x hx1 (k := 6) rfl
        have m1_7 := nm_x hx1 (k := 7) rfl
        have m1_8 := nm_x hx1 (k := 8) rfl
        have m1_9 := nm_x hx1 (k := 9) rfl
        have m1_10 := nm_x hx1 (k := 10) rfl
        rcases List.mem_cons.mp hx with rfl | hx
        · skip
          dsimp only at hlo1 hsk1 ⊢
          simp (config := { decide := true }) only [bnd_b, lin_b, lin_q, Nat.reduceAdd, Nat.zero_add, Nat.reduceEqDiff, reduceIte, and_true, Int.add_zero] at hb1 hl1
          cases hsk1.nil
          obtain ⟨l10, rfl, p10⟩ := lo_ref ha hlo1
          obtain ⟨y11, l11, rfl, d11, p11⟩ := lo_int rfl p10
          obtain ⟨y12, l12, rfl, d12, p12⟩ := lo_int rfl p11
          obtain ⟨y13, l13, rfl, d13, p13⟩ := lo_int rfl p12
          obtain ⟨y14, l14, rfl, d14, p14⟩ := lo_int rfl p13
          obtain ⟨y15, l15, rfl, d15, p15⟩ := lo_int rfl p14
          obtain ⟨y16, l16, rfl, d16, p16⟩ := lo_int rfl p15
          obtain ⟨y17, l17, rfl, d17, p17⟩ := lo_int rfl p16
          obtain ⟨y18, l18, rfl, d18, p18⟩ := lo_int rfl p17
          obtain ⟨y19, l19, rfl, d19, p19⟩ := lo_int rfl p18
          obtain ⟨y110, l110, rfl, d110, p110⟩ := lo_int rfl p19
          cases lo_nil p110
          rw [vn_at hx1 (n := 2) (z := zp.toInt) rfl] at d11
          have e11 : zp = y11 := Int32.toInt_inj.mp (by omega)
          subst e11
          rw [vn_at hx1 (n := 3) (z := zy.toInt) rfl] at d12
          have e12 : zy = y12 := Int32.toInt_inj.mp (by omega)
          subst e12
          rw [vn_at hx1 (n := 4) (z := zw.toInt) rfl] at d13
          have e13 : zw = y13 := Int32.toInt_inj.mp (by omega)
          subst e13
          rw [vn_at hx1 (n := 0) (z := 0) rfl] at d14
          have e14 : zo = y14 := Int32.toInt_inj.mp (by omega)
          subst e14
          rw [vn_at hx1 (n := 6) (z := zn.toInt) rfl] at d15
          have e15 : zn = y15 := Int32.toInt_inj.mp (by omega)
          subst e15
          rw [vn_at hx1 (n := 7) (z := zl.toInt) rfl] at d16
          have e16 : zl = y16 := Int32.toInt_inj.mp (by omega)
          subst e16
          rw [vn_at hx1 (n := 8) (z := zg.toInt) rfl] at d17
          have e17 : zg = y17 := Int32.toInt_inj.mp (by omega)
          subst e17
          rw [vn_at hx1 (n := 9) (z := zs.toInt) rfl] at d18
          have e18 : zs = y18 := Int32.toInt_inj.mp (by omega)
          subst e18
          rw [vn_at hx1 (n := 0) (z := 0) rfl] at d19
          rw [vn_at hx1 (n := 0) (z := 0) rfl] at d110
          have hK : arI aa zp.toInt zy.toInt zs.toInt 4 = true := arI_1 (by
              by_cases h9 : arI aa zp.toInt zy.toInt zs.toInt 3 = true
              · exact h9
              · rw [if_neg h9] at ei
                omega)
          exact ih 4 y19 y110 ws1 (by omega) (by rw [if_pos hK]; omega) (by omega) hw1 (hfr.tr hf1)
        have hx0 := List.mem_singleton.mp hx
        subst hx0
        dsimp only at hlo1 hsk1 ⊢
        simp (config := { decide := true }) only [bnd_b, lin_b, lin_q, Nat.reduceAdd, Nat.zero_add, Nat.reduceEqDiff, reduceIte, and_true, Int.add_zero] at hb1 hl1
        cases hsk1.nil
        obtain ⟨l10, rfl, p10⟩ := lo_ref ha hlo1
        obtain ⟨y11, l11, rfl, d11, p11⟩ := lo_int rfl p10
        obtain ⟨y12, l12, rfl, d12, p12⟩ := lo_int rfl p11
        obtain ⟨y13, l13, rfl, d13, p13⟩ := lo_int rfl p12
        obtain ⟨y14, l14, rfl, d14, p14⟩ := lo_int rfl p13
        obtain ⟨y15, l15, rfl, d15, p15⟩ := lo_int rfl p14
        obtain ⟨y16, l16, rfl, d16, p16⟩ := lo_int rfl p15
        obtain ⟨y17, l17, rfl, d17, p17⟩ := lo_int rfl p16
        obtain ⟨y18, l18, rfl, d18, p18⟩ := lo_int rfl p17
        obtain ⟨y19, l19, rfl, d19, p19⟩ := lo_int rfl p18
        obtain ⟨y110, l110, rfl, d110, p110⟩ := lo_int rfl p19
        cases lo_nil p110
        rw [vn_at hx1 (n := 2) (z := zp.toInt) rfl] at d11
        have e11 : zp = y11 := Int32.toInt_inj.mp (by omega)
        subst e11
        rw [vn_at hx1 (n := 3) (z := zy.toInt) rfl] at d12
        have e12 : zy = y12 := Int32.toInt_inj.mp (by omega)
        subst e12
        rw [vn_at hx1 (n := 4) (z := zw.toInt) rfl] at d13
        have e13 : zw = y13 := Int32.toInt_inj.mp (by omega)
        subst e13
        rw [vn_at hx1 (n := 0) (z := 0) rfl] at d14
        have e14 : zo = y14 := Int32.toInt_inj.mp (by omega)
        subst e14
        rw [vn_at hx1 (n := 6) (z := zn.toInt) rfl] at d15
        have e15 : zn = y15 := Int32.toInt_inj.mp (by omega)
        subst e15
        rw [vn_at hx1 (n := 7) (z := zl.toInt) rfl] at d16
        have e16 : zl = y16 := Int32.toInt_inj.mp (by omega)
        subst e16
        rw [vn_at hx1 (n := 8) (z := zg.toInt) rfl] at d17
        have e17 : zg = y17 := Int32.toInt_inj.mp (by omega)
        subst e17
        rw [vn_at hx1 (n := 9) (z := zs.toInt) rfl] at d18
        have e18 : zs = y18 := Int32.toInt_inj.mp (by omega)
        subst e18
        rw [vn_at hx1 (n := 0) (z := 0) rfl] at d19
        rw [vn_at hx1 (n := 0) (z := 0) rfl] at d110
        have hK : ¬ arI aa zp.toInt zy.toInt zs.toInt 4 = true := arI_n (fun h9 => by rw [if_pos h9] at ei; omega) (Or.inl hb)
        exact ih 4 y19 y110 ws1 (by omega) (by rw [if_neg hK]; omega) (by omega) hw1 (hfr.tr hf1)
theorem ar_ml {ar aa : Nat} {R0 : Int × Int × Int} {zp zy zw zo : Int32} {ws0 : va_W} (C : ai_cx tb_m160 10 p R s m args c D tys A b L sx cells slots) (ha : ad[49]? = some ar) (hp : 0 ≤ zp.toInt ∧ zp.toInt ≤ 20) (hy : 0 ≤ zy.toInt ∧ zy.toInt ≤ 20) (hzw : 0 ≤ zw.toInt ∧ zw.toInt ≤ 2) (haa : aa < 16) (eo : zo.toInt = aa)
    (kk : ∀ (pcr : Nat) (ws' : va_W) (z : Int32) (lv' : List (Nat × Value)), pcr ∈ [205] → ai_wd tb_TY ad tys ws' → ai_fr [] ws0 ws' → z.toInt = arW R0 zw.toInt → hG tb_m160 p l e R s m args below meth c D A cells slots Q pcr lv' [.int z] ws') :
    ∀ (f : Nat) (zn zl zg zs : Int32) (ws : va_W), zs.toInt + f = 21 → 1 ≤ zs.toInt → (0 ≤ zn.toInt ∧ zn.toInt + f ≤ 20) → (-4 ≤ zl.toInt ∧ zl.toInt ≤ 20) → (-4 ≤ zg.toInt ∧ zg.toInt ≤ 20) → arF (arK aa zp.toInt zy.toInt) f zs.toInt zn.toInt zl.toInt zg.toInt = R0 → (zn.toInt = 0 ↔ zl.toInt = -4) → ai_wd tb_TY ad tys ws → ai_fr [] ws0 ws → hG tb_m160 p l e R s m args below meth c D A cells slots Q 68 [(0, .ref ar), (2, .int zp), (3, .int zy), (4, .int zw), (5, .int zo), (6, .int zn), (7, .int zl), (8, .int zg), (9, .int zs)] [] ws := by
  intro f
  induction f with
  | zero =>
    intro zn zl zg zs ws hf h1 hn hl hgr hR hnl hw hfr
    have hR' : (zn.toInt, zl.toInt, zg.toInt) = R0 := hR
    refine hildw (j := 9) (x := zs) C (tv_m160.1.1.1 (68, .iload 9, 2) (List.mem_of_getElem? (i := 36) rfl)) (List.mem_of_getElem? (i := 8) rfl) ?_
    refine hsum (st := (70, [(0, (0, 49, 0, 0)), (2, (1, 2, 0, 0)), (3, (1, 3, 0, 0)), (4, (1, 4, 0, 0)), (5, (1, 5, 0, 0)), (6, (1, 6, 0, 0)), (7, (1, 7, 0, 0)), (8, (1, 8, 0, 0)), (9, (1, 9, 0, 0))], [(1, 9, 0, 0)], [(0, 0, false, 0, 0), (0, 2555, false, 1, 0), (0, 20, false, 2, 0), (0, 20, false, 3, 0), (0, 2, false, 4, 0), (0, 15, false, 5, 0), (0, 20, false, 6, 0), (-4, 20, false, 7, 0), (-4, 20, false, 8, 0), (21, 21, false, 9, 0)], [], [])) ar_mx rfl C (r := [0, 0, zp.toInt, zy.toInt, zw.toInt, zo.toInt, zn.toInt, zl.toInt, zg.toInt, zs.toInt]) ⟨en_mk (by simp only [en_b, and_true]; omega) rfl, sb0, ⟨rfl, Or.inl ⟨rfl, ar, ha, rfl⟩, rfl, int_dv (z := zp.toInt) rfl (by omega), rfl, int_dv (z := zy.toInt) rfl (by omega), rfl, int_dv (z := zw.toInt) rfl (by omega), rfl, int_dv (z := zo.toInt) rfl (by omega), rfl, int_dv (z := zn.toInt) rfl (by omega), rfl, int_dv (z := zl.toInt) rfl (by omega), rfl, int_dv (z := zg.toInt) rfl (by omega), rfl, int_dv (z := zs.toInt) rfl (by omega), trivial⟩, ⟨int_dv (z := zs.toInt) rfl (by omega), trivial⟩, hw, k0, fun _ _ _ _ h => h, fun h => by cases h⟩ (fun x hx r1 lv1 st1 ws1 hx1 hb1 hl1 hs1 hlo1 hsk1 hw1 hV1 hf1 _ => ?_)
    unfold ar_mx_S at hx
    have m1_2 := nm_x hx1 (k := 2) rfl
    have m1_3 := nm_x hx1 (k := 3) rfl
    have m1_4 := nm_x hx1 (k := 4) rfl
    have m1_5 := nm_x hx1 (k := 5) rfl
    have m1_6 := nm_x hx1 (k := 6) rfl
    have m1_7 := nm_x hx1 (k := 7) rfl
    have m1_8 := nm_x hx1 (k := 8) rfl
    have m1_9 := nm_x hx1 (k := 9) rfl
    rcases List.mem_cons.mp hx with rfl | hx
    · skip
      dsimp only at hlo1 hsk1 ⊢
      simp (config := { decide := true }) only [bnd_b, lin_b, lin_q, Nat.reduceAdd, Nat.zero_add, Nat.reduceEqDiff, reduceIte, and_true, Int.add_zero] at hb1 hl1
      obtain ⟨z, rfl, hz⟩ := sk1 rfl hsk1
      unfold vn at hz
      dsimp only at hz
      refine kk 205 ws1 z lv1 (by decide) hw1 (hfr.tr hf1) ?_
      rw [← hR']
      unfold arW
      dsimp only
      rw [if_neg (by omega), if_neg (by omega)]
      omega
    rcases List.mem_cons.mp hx with rfl | hx
    · skip
      dsimp only at hlo1 hsk1 ⊢
      simp (config := { decide := true }) only [bnd_b, lin_b, lin_q, Nat.reduceAdd, Nat.zero_add, Nat.reduceEqDiff, reduceIte, and_true, Int.add_zero] at hb1 hl1
      obtain ⟨z, rfl, hz⟩ := sk1 rfl hsk1
      unfold vn at hz
      dsimp only at hz
      refine kk 205 ws1 z lv1 (by decide) hw1 (hfr.tr hf1) ?_
      rw [← hR']
      unfold arW
      dsimp only
      rw [if_neg (by omega), if_pos (by omega)]
      omega
    have hx0 := List.mem_singleton.mp hx
    subst hx0
    dsimp only at hlo1 hsk1 ⊢
    simp (config := { decide := true }) only [bnd_b, lin_b, lin_q, Nat.reduceAdd, Nat.zero_add, Nat.reduceEqDiff, reduceIte, and_true, Int.add_zero] at hb1 hl1
    obtain ⟨z, rfl, hz⟩ := sk1 rfl hsk1
    unfold vn at hz
    dsimp only at hz
    refine kk 205 ws1 z lv1 (by decide) hw1 (hfr.tr hf1) ?_
    rw [← hR']
    unfold arW
    dsimp only
    rw [if_pos (by omega)]
    omega
  | succ f ih =>
    intro zn zl zg zs ws hf h1 hn hl hgr hR hnl hw hfr
    have hs20 : zs.toInt ≤ 20 := by omega
    refine hildw (j := 9) (x := zs) C (tv_m160.1.1.1 (68, .iload 9, 2) (List.mem_of_getElem? (i := 36) rfl)) (List.mem_of_getElem? (i := 8) rfl) ?_
    refine hsum (st := (70, [(0, (0, 49, 0, 0)), (2, (1, 2, 0, 0)), (3, (1, 3, 0, 0)), (4, (1, 4, 0, 0)), (5, (1, 5, 0, 0)), (6, (1, 6, 0, 0)), (7, (1, 7, 0, 0)), (8, (1, 8, 0, 0)), (9, (1, 9, 0, 0))], [(1, 9, 0, 0)], [(0, 0, false, 0, 0), (0, 2555, false, 1, 0), (0, 20, false, 2, 0), (0, 20, false, 3, 0), (0, 2, false, 4, 0), (0, 15, false, 5, 0), (0, 19, false, 6, 0), (-4, 20, false, 7, 0), (-4, 20, false, 8, 0), (1, 20, false, 9, 0)], [], [])) ar_m1 rfl C (r := [0, 0, zp.toInt, zy.toInt, zw.toInt, zo.toInt, zn.toInt, zl.toInt, zg.toInt, zs.toInt]) ⟨en_mk (by simp only [en_b, and_true]; omega) rfl, sb0, ⟨rfl, Or.inl ⟨rfl, ar, ha, rfl⟩, rfl, int_dv (z := zp.toInt) rfl (by omega), rfl, int_dv (z := zy.toInt) rfl (by omega), rfl, int_dv (z := zw.toInt) rfl (by omega), rfl, int_dv (z := zo.toInt) rfl (by omega), rfl, int_dv (z := zn.toInt) rfl (by omega), rfl, int_dv (z := zl.toInt) rfl (by omega), rfl, int_dv (z := zg.toInt) rfl (by omega), rfl, int_dv (z := zs.toInt) rfl (by omega), trivial⟩, ⟨int_dv (z := zs.toInt) rfl (by omega), trivial⟩, hw, k0, fun _ _ _ _ h => h, fun h => by cases h⟩ (fun x hx r1 lv1 st1 ws1 hx1 hb1 hl1 hs1 hlo1 hsk1 hw1 hV1 hf1 _ => ?_)
    have hx9 := List.mem_singleton.mp hx
    subst hx9
    dsimp only at hlo1 hsk1 ⊢
    obtain ⟨l10, rfl, p10⟩ := lo_ref ha hlo1
    obtain ⟨y11, l11, rfl, d11, p11⟩ := lo_int rfl p10
    obtain ⟨y12, l12, rfl, d12, p12⟩ := lo_int rfl p11
    obtain ⟨y13, l13, rfl, d13, p13⟩ := lo_int rfl p12
    obtain ⟨y14, l14, rfl, d14, p14⟩ := lo_int rfl p13
    obtain ⟨y15, l15, rfl, d15, p15⟩ := lo_int rfl p14
    obtain ⟨y16, l16, rfl, d16, p16⟩ := lo_int rfl p15
    obtain ⟨y17, l17, rfl, d17, p17⟩ := lo_int rfl p16
    obtain ⟨y18, l18, rfl, d18, p18⟩ := lo_int rfl p17
    obtain ⟨y19, l19, rfl, d19, p19⟩ := lo_int rfl p18
    obtain ⟨y110, l110, rfl, d110, p110⟩ := lo_int rfl p19
    cases lo_nil p110
    rw [vn_at hx1 (n := 2) (z := zp.toInt) rfl] at d11
    have e11 : zp = y11 := Int32.toInt_inj.mp (by omega)
    subst e11
    rw [vn_at hx1 (n := 3) (z := zy.toInt) rfl] at d12
    have e12 : zy = y12 := Int32.toInt_inj.mp (by omega)
    subst e12
    rw [vn_at hx1 (n := 4) (z := zw.toInt) rfl] at d13
    have e13 : zw = y13 := Int32.toInt_inj.mp (by omega)
    subst e13
    rw [vn_at hx1 (n := 5) (z := zo.toInt) rfl] at d14
    have e14 : zo = y14 := Int32.toInt_inj.mp (by omega)
    subst e14
    rw [vn_at hx1 (n := 6) (z := zn.toInt) rfl] at d15
    have e15 : zn = y15 := Int32.toInt_inj.mp (by omega)
    subst e15
    rw [vn_at hx1 (n := 7) (z := zl.toInt) rfl] at d16
    have e16 : zl = y16 := Int32.toInt_inj.mp (by omega)
    subst e16
    rw [vn_at hx1 (n := 8) (z := zg.toInt) rfl] at d17
    have e17 : zg = y17 := Int32.toInt_inj.mp (by omega)
    subst e17
    rw [vn_at hx1 (n := 9) (z := zs.toInt) rfl] at d18
    have e18 : zs = y18 := Int32.toInt_inj.mp (by omega)
    subst e18
    rw [vn_at hx1 (n := 0) (z := 0) rfl] at d19
    rw [vn_at hx1 (n := 0) (z := 0) rfl] at d110
    cases hsk1.nil
    refine ar_in (ws0 := ws1) C ha hp hy hzw haa eo ⟨h1, hs20⟩ (by omega) hl hgr (fun ws2 zi zk hw2 hf2 ei => ?_) 4 0 y19 y110 ws1 rfl (by rw [show y19.toInt = 0 by omega]; rfl) (by omega) hw1 (fun _ _ _ _ h => h)
    have bi : 0 ≤ zi.toInt ∧ zi.toInt ≤ 1 := by split at ei <;> omega
    refine hG_sub (lv2 := [(0, .ref ar), (2, .int zp), (3, .int zy), (4, .int zw), (5, .int zo), (6, .int zn), (7, .int zl), (8, .int zg), (9, .int zs), (10, .int zi)]) (by
      intro q hq
      simp only [List.mem_cons, List.not_mem_nil, or_false] at hq ⊢
      rcases hq with rfl | rfl | rfl | rfl | rfl | rfl | rfl | rfl | rfl | rfl <;> simp) ?_
    refine hsum (st := (128, [(0, (0, 49, 0, 0)), (2, (1, 2, 0, 0)), (3, (1, 3, 0, 0)), (4, (1, 4, 0, 0)), (5, (1, 5, 0, 0)), (6, (1, 6, 0, 0)), (7, (1, 7, 0, 0)), (8, (1, 8, 0, 0)), (9, (1, 9, 0, 0)), (10, (1, 10, 0, 0))], [], [(0, 0, false, 0, 0), (0, 2555, false, 1, 0), (0, 20, false, 2, 0), (0, 20, false, 3, 0), (0, 2, false, 4, 0), (0, 15, false, 5, 0), (0, 19, false, 6, 0), (-4, 20, false, 7, 0), (-4, 20, false, 8, 0), (1, 20, false, 9, 0), (0, 1, false, 10, 0)], [], [])) ar_m2 rfl C (r := [0, 0, zp.toInt, zy.toInt, zw.toInt, zo.toInt, zn.toInt, zl.toInt, zg.toInt, zs.toInt, zi.toInt]) ⟨en_mk (by simp only [en_b, and_true]; omega) rfl, sb0, ⟨rfl, Or.inl ⟨rfl, ar, ha, rfl⟩, rfl, int_dv (z := zp.toInt) rfl (by omega), rfl, int_dv (z := zy.toInt) rfl (by omega), rfl, int_dv (z := zw.toInt) rfl (by omega), rfl, int_dv (z := zo.toInt) rfl (by omega), rfl, int_dv (z := zn.toInt) rfl (by omega), rfl, int_dv (z := zl.toInt) rfl (by omega), rfl, int_dv (z := zg.toInt) rfl (by omega), rfl, int_dv (z := zs.toInt) rfl (by omega), rfl, int_dv (z := zi.toInt) rfl (by omega), trivial⟩, trivial, hw2, k0, fun _ _ _ _ h => h, fun h => by cases h⟩ (fun x hx r3 lv3 st3 ws3 hx3 hb3 hl3 hs3 hlo3 hsk3 hw3 hV3 hf3 _ => ?_)
    unfold ar_m2_S at hx
    have m3_2 := nm_x hx3 (k := 2) rfl
    have m3_3 := nm_x hx3 (k := 3) rfl
    have m3_4 := nm_x hx3 (k := 4) rfl
    have m3_5 := nm_x hx3 (k := 5) rfl
    have m3_6 := nm_x hx3 (k := 6) rfl
    have m3_7 := nm_x hx3 (k := 7) rfl
    have m3_8 := nm_x hx3 (k := 8) rfl
    have m3_9 := nm_x hx3 (k := 9) rfl
    have m3_10 := nm_x hx3 (k := 10) rfl
    rcases List.mem_cons.mp hx with rfl | hx
    · skip
      dsimp only at hlo3 hsk3 ⊢
      simp (config := { decide := true }) only [bnd_b, lin_b, lin_q, Nat.reduceAdd, Nat.zero_add, Nat.reduceEqDiff, reduceIte, and_true, Int.add_zero] at hb3 hl3
      cases hsk3.nil
      obtain ⟨l30, rfl, p30⟩ := lo_ref ha hlo3
      obtain ⟨y31, l31, rfl, d31, p31⟩ := lo_int rfl p30
      obtain ⟨y32, l32, rfl, d32, p32⟩ := lo_int rfl p31
      obtain ⟨y33, l33, rfl, d33, p33⟩ := lo_int rfl p32
      obtain ⟨y34, l34, rfl, d34, p34⟩ := lo_int rfl p33
      obtain ⟨y35, l35, rfl, d35, p35⟩ := lo_int rfl p34
      obtain ⟨y36, l36, rfl, d36, p36⟩ := lo_int rfl p35
      obtain ⟨y37, l37, rfl, d37, p37⟩ := lo_int rfl p36
      obtain ⟨y38, l38, rfl, d38, p38⟩ := lo_int rfl p37
      cases lo_nil p38
      rw [vn_at hx3 (n := 2) (z := zp.toInt) rfl] at d31
      have e31 : zp = y31 := Int32.toInt_inj.mp (by omega)
      subst e31
      rw [vn_at hx3 (n := 3) (z := zy.toInt) rfl] at d32
      have e32 : zy = y32 := Int32.toInt_inj.mp (by omega)
      subst e32
      rw [vn_at hx3 (n := 4) (z := zw.toInt) rfl] at d33
      have e33 : zw = y33 := Int32.toInt_inj.mp (by omega)
      subst e33
      rw [vn_at hx3 (n := 5) (z := zo.toInt) rfl] at d34
      have e34 : zo = y34 := Int32.toInt_inj.mp (by omega)
      subst e34
      rw [vn_at hx3 (n := 6) (z := zn.toInt) rfl] at d35
      rw [vn_at hx3 (n := 7) (z := zl.toInt) rfl] at d36
      rw [vn_at hx3 (n := 8) (z := zg.toInt) rfl] at d37
      rw [vn_at hx3 (n := 9) (z := zs.toInt) rfl] at d38
      have hK : ¬ arK aa zp.toInt zy.toInt zs.toInt = true := fun h9 => by
        rw [if_pos h9] at ei
        omega
      refine ih y35 y36 y37 y38 ws3 (by omega) (by omega) (by omega) (by omega) (by omega) ?_ (by omega) hw3 (((hfr.tr hf1).tr hf2).tr hf3)
      rw [← hR, arF_n hK, show y38.toInt = zs.toInt + 1 by omega, show y35.toInt = zn.toInt by omega, show y36.toInt = zl.toInt by omega, show y37.toInt = zg.toInt by omega]
    rcases List.mem_cons.mp hx with rfl | hx
    · skip
      dsimp only at hlo3 hsk3 ⊢
      simp (config := { decide := true }) only [bnd_b, lin_b, lin_q, Nat.reduceAdd, Nat.zero_add, Nat.reduceEqDiff, reduceIte, and_true, Int.add_zero] at hb3 hl3
      cases hsk3.nil
      obtain ⟨l30, rfl, p30⟩ := lo_ref ha hlo3
      obtain ⟨y31, l31, rfl, d31, p31⟩ := lo_int rfl p30
      obtain ⟨y32, l32, rfl, d32, p32⟩ := lo_int rfl p31
      obtain ⟨y33, l33, rfl, d33, p33⟩ := lo_int rfl p32
      obtain ⟨y34, l34, rfl, d34, p34⟩ := lo_int rfl p33
      obtain ⟨y35, l35, rfl, d35, p35⟩ := lo_int rfl p34
      obtain ⟨y36, l36, rfl, d36, p36⟩ := lo_int rfl p35
      obtain ⟨y37, l37, rfl, d37, p37⟩ := lo_int rfl p36
      obtain ⟨y38, l38, rfl, d38, p38⟩ := lo_int rfl p37
      cases lo_nil p38
      rw [vn_at hx3 (n := 2) (z := zp.toInt) rfl] at d31
      have e31 : zp = y31 := Int32.toInt_inj.mp (by omega)
      subst e31
      rw [vn_at hx3 (n := 3) (z := zy.toInt) rfl] at d32
      have e32 : zy = y32 := Int32.toInt_inj.mp (by omega)
      subst e32
      rw [vn_at hx3 (n := 4) (z := zw.toInt) rfl] at d33
      have e33 : zw = y33 := Int32.toInt_inj.mp (by omega)
      subst e33
      rw [vn_at hx3 (n := 5) (z := zo.toInt) rfl] at d34
      have e34 : zo = y34 := Int32.toInt_inj.mp (by omega)
      subst e34
      rw [vn_at hx3 (n := 6) (z := zn.toInt) rfl] at d35
      rw [vn_at hx3 (n := 7) (z := zl.toInt) rfl] at d36
      rw [vn_at hx3 (n := 9) (z := zs.toInt) rfl] at d37
      rw [vn_at hx3 (n := 9) (z := zs.toInt) rfl] at d38
      have hK : arK aa zp.toInt zy.toInt zs.toInt = true := by
        by_cases h9 : arK aa zp.toInt zy.toInt zs.toInt = true
        · exact h9
        · rw [if_neg h9] at ei
          omega
      refine ih y35 y36 y37 y38 ws3 (by omega) (by omega) (by omega) (by omega) (by omega) ?_ (by omega) hw3 (((hfr.tr hf1).tr hf2).tr hf3)
      rw [← hR, arF_y hK, if_neg (by omega), show y38.toInt = zs.toInt + 1 by omega, show y35.toInt = zn.toInt + 1 by omega, show y36.toInt = zl.toInt by omega, show y37.toInt = zs.toInt by omega]
    have hx0 := List.mem_singleton.mp hx
    subst hx0
    dsimp only at hlo3 hsk3 ⊢
    simp (config := { decide := true }) only [bnd_b, lin_b, lin_q, Nat.reduceAdd, Nat.zero_add, Nat.reduceEqDiff, reduceIte, and_true, Int.add_zero] at hb3 hl3
    cases hsk3.nil
    obtain ⟨l30, rfl, p30⟩ := lo_ref ha hlo3
    obtain ⟨y31, l31, rfl, d31, p31⟩ := lo_int rfl p30
    obtain ⟨y32, l32, rfl, d32, p32⟩ := lo_int rfl p31
    obtain ⟨y33, l33, rfl, d33, p33⟩ := lo_int rfl p32
    obtain ⟨y34, l34, rfl, d34, p34⟩ := lo_int rfl p33
    obtain ⟨y35, l35, rfl, d35, p35⟩ := lo_int rfl p34
    obtain ⟨y36, l36, rfl, d36, p36⟩ := lo_int rfl p35
    obtain ⟨y37, l37, rfl, d37, p37⟩ := lo_int rfl p36
    obtain ⟨y38, l38, rfl, d38, p38⟩ := lo_int rfl p37
    cases lo_nil p38
    rw [vn_at hx3 (n := 2) (z := zp.toInt) rfl] at d31
    have e31 : zp = y31 := Int32.toInt_inj.mp (by omega)
    subst e31
    rw [vn_at hx3 (n := 3) (z := zy.toInt) rfl] at d32
    have e32 : zy = y32 := Int32.toInt_inj.mp (by omega)
    subst e32
    rw [vn_at hx3 (n := 4) (z := zw.toInt) rfl] at d33
    have e33 : zw = y33 := Int32.toInt_inj.mp (by omega)
    subst e33
    rw [vn_at hx3 (n := 5) (z := zo.toInt) rfl] at d34
    have e34 : zo = y34 := Int32.toInt_inj.mp (by omega)
    subst e34
    rw [vn_at hx3 (n := 6) (z := zn.toInt) rfl] at d35
    rw [vn_at hx3 (n := 9) (z := zs.toInt) rfl] at d36
    rw [vn_at hx3 (n := 9) (z := zs.toInt) rfl] at d37
    rw [vn_at hx3 (n := 9) (z := zs.toInt) rfl] at d38
    have hK : arK aa zp.toInt zy.toInt zs.toInt = true := by
      by_cases h9 : arK aa zp.toInt zy.toInt zs.toInt = true
      · exact h9
      · rw [if_neg h9] at ei
        omega
    refine ih y35 y36 y37 y38 ws3 (by omega) (by omega) (by omega) (by omega) (by omega) ?_ (by omega) hw3 (((hfr.tr hf1).tr hf2).tr hf3)
    rw [← hR, arF_y hK, if_pos (by omega), show y38.toInt = zs.toInt + 1 by omega, show y35.toInt = zn.toInt + 1 by omega, show y36.toInt = zs.toInt by omega, show y37.toInt = zs.toInt by omega]
theorem ar_mdl {ar n t q : Nat} {S : Nat → Nat → Int} {zt zp zy zw : Int32} {ws : va_W} (C : ai_cx tb_m160 10 p R s m args c D tys A b L sx cells slots) (ha : ad[49]? = some ar) (hn : n ≤ 4) (ht : t < n) (et : zt.toInt = t) (hp : 0 ≤ zp.toInt ∧ zp.toInt ≤ 20) (hy : 0 ≤ zy.toInt ∧ zy.toInt ≤ 20) (hzw : 0 ≤ zw.toInt ∧ zw.toInt ≤ 2) (hq : q ≤ 6) (hS : ∀ j, j < q → seB (S j)) (hw : ai_wd tb_TY ad tys ws) (hv0 : vi ws 49 1 n) (hq0 : vi ws 49 19 q) (hv : ∀ j, j < q → ∀ r, r < 4 → vi ws 55 (4 * j + r) (S j r))
    (kk : ∀ (pcr : Nat) (ws' : va_W) (z : Int32) (lv' : List (Nat × Value)), pcr ∈ [205] → ai_wd tb_TY ad tys ws' → ai_fr [] ws ws' → z.toInt = arW (arF (arK (kiB S (t : Int) q) zp.toInt zy.toInt) 20 1 0 (-4) (-4)) zw.toInt → hG tb_m160 p l e R s m args below meth c D A cells slots Q pcr lv' [.int z] ws') : hG tb_m160 p l e R s m args below meth c D A cells slots Q 0 [(0, .ref ar), (1, .int zt), (2, .int zp), (3, .int zy), (4, .int zw)] [] ws := by
  refine hsum (st := (0, [(0, (0, 49, 0, 0)), (1, (1, 0, 0, (t : Int))), (2, (1, 2, 0, 0)), (3, (1, 3, 0, 0)), (4, (1, 4, 0, 0))], [], [(0, 0, false, 0, 0), (0, 2555, false, 1, 0), (0, 20, false, 2, 0), (0, 20, false, 3, 0), (0, 2, false, 4, 0), ((t : Int) + 1, 4, false, 5, 0)], [(49, 1, (1, 5, 0, 0))], [])) (List.all_eq_true.mp ar_m3 t (List.mem_range.mpr (by omega))) rfl C (r := [0, 0, zp.toInt, zy.toInt, zw.toInt, (n : Int)]) ⟨en_mk (by simp only [en_b, and_true]; omega) rfl, sb0, ⟨rfl, Or.inl ⟨rfl, ar, ha, rfl⟩, rfl, int_dv (z := 0) rfl (by omega), rfl, int_dv (z := zp.toInt) rfl (by omega), rfl, int_dv (z := zy.toInt) rfl (by omega), rfl, int_dv (z := zw.toInt) rfl (by omega), trivial⟩, trivial, hw, kc (hv0.kn (n := 5) (t := (n : Int)) rfl (by omega)) (k0), fun _ _ _ _ h => h, fun h => by cases h⟩ (fun x hx r1 lv1 st1 ws1 hx1 hb1 hl1 hs1 hlo1 hsk1 hw1 hV1 hf1 _ => ?_)
  have hx9 := List.mem_singleton.mp hx
  subst hx9
  dsimp only at hlo1 hsk1 ⊢
  obtain ⟨l10, rfl, p10⟩ := lo_ref ha hlo1
  obtain ⟨y11, l11, rfl, d11, p11⟩ := lo_int rfl p10
  obtain ⟨y12, l12, rfl, d12, p12⟩ := lo_int rfl p11
  obtain ⟨y13, l13, rfl, d13, p13⟩ := lo_int rfl p12
  cases lo_nil p13
  rw [vn_at hx1 (n := 2) (z := zp.toInt) rfl] at d11
  have e11 : zp = y11 := Int32.toInt_inj.mp (by omega)
  subst e11
  rw [vn_at hx1 (n := 3) (z := zy.toInt) rfl] at d12
  have e12 : zy = y12 := Int32.toInt_inj.mp (by omega)
  subst e12
  rw [vn_at hx1 (n := 4) (z := zw.toInt) rfl] at d13
  have e13 : zw = y13 := Int32.toInt_inj.mp (by omega)
  subst e13
  obtain ⟨x10, s10, rfl, c10, g10⟩ := hsk1.cons
  obtain ⟨x11, s11, rfl, c11, g11⟩ := g10.cons
  cases g11.nil
  obtain ⟨u10, rfl, w10⟩ := dvn c10 (hx1.at (k := 0) rfl)
  have f11 := ref_of49 ha c11
  subst f11
  refine hcallI (q := (225, 0, 157, 1, 6)) (M' := tb_m157) (cl := 49) (a := ar) (As := [.int u10]) (rest := []) (rets := [117]) (P := fun w z => ai_wd tb_TY ad tys w ∧ ai_fr [] ws1 w ∧ z.toInt = ((kiB S (t : Int) q : Nat) : Int)) C (by decide) (tv_m160.1.1.1 (49, .invokevirtual 225, 3) (List.mem_of_getElem? (i := 26) rfl)) (tv_m160.2 _ (List.mem_of_getElem? (i := 33) rfl)) rfl rfl rfl rfl (by decide) (Nat.le_of_ble_eq_true rfl) rfl rfl rfl rfl hw1 ha (Nat.le_of_ble_eq_true rfl) ?_ ?_ ?_
  · intro pcr hp
    simp only [List.mem_cons, List.not_mem_nil, or_false] at hp
    rcases hp with rfl
    · exact tv_m157.1.1.1 (117, .ireturn, 1) (List.mem_of_getElem? (i := 71) rfl)
  · intro p2 e2 R2 s2 m2 args2 below2 meth2 c2 Q2 C2 kk2
    exact km_all (mm_cx (by decide) C2) ha hq hS (by omega) (by omega) hw1 (hq0.fr hf1 rfl) (fun j hj r hr => (hv j hj r hr).fr hf1 (nowr_ok (c := 55) rfl _ _)) (fun w z lv2 h1 h2 h3 => kk2 117 w z lv2 (by decide) ⟨h1, h2, h3⟩)
  · intro ws2 zo hP
    obtain ⟨hw2, hf2, eo⟩ := hP
    have bz := kiB_b S (t : Int) q
    refine hsum (st := (52, [(0, (0, 49, 0, 0)), (2, (1, 2, 0, 0)), (3, (1, 3, 0, 0)), (4, (1, 4, 0, 0))], [(1, 5, 0, 0)], [(0, 0, false, 0, 0), (0, 2555, false, 1, 0), (0, 20, false, 2, 0), (0, 20, false, 3, 0), (0, 2, false, 4, 0), (0, 15, false, 5, 0)], [], [])) ar_m4 rfl C (r := [0, 0, zp.toInt, zy.toInt, zw.toInt, zo.toInt]) ⟨en_mk (by simp only [en_b, and_true]; omega) rfl, sb0, ⟨rfl, Or.inl ⟨rfl, ar, ha, rfl⟩, rfl, int_dv (z := zp.toInt) rfl (by omega), rfl, int_dv (z := zy.toInt) rfl (by omega), rfl, int_dv (z := zw.toInt) rfl (by omega), trivial⟩, ⟨int_dv (z := zo.toInt) rfl (by omega), trivial⟩, hw2, k0, fun _ _ _ _ h => h, fun h => by cases h⟩ (fun x hx r3 lv3 st3 ws3 hx3 hb3 hl3 hs3 hlo3 hsk3 hw3 hV3 hf3 _ => ?_)
    have hx9 := List.mem_singleton.mp hx
    subst hx9
    dsimp only at hlo3 hsk3 ⊢
    obtain ⟨l30, rfl, p30⟩ := lo_ref ha hlo3
    obtain ⟨y31, l31, rfl, d31, p31⟩ := lo_int rfl p30
    obtain ⟨y32, l32, rfl, d32, p32⟩ := lo_int rfl p31
    obtain ⟨y33, l33, rfl, d33, p33⟩ := lo_int rfl p32
    obtain ⟨y34, l34, rfl, d34, p34⟩ := lo_int rfl p33
    obtain ⟨y35, l35, rfl, d35, p35⟩ := lo_int rfl p34
    obtain ⟨y36, l36, rfl, d36, p36⟩ := lo_int rfl p35
    obtain ⟨y37, l37, rfl, d37, p37⟩ := lo_int rfl p36
    obtain ⟨y38, l38, rfl, d38, p38⟩ := lo_int rfl p37
    cases lo_nil p38
    rw [vn_at hx3 (n := 2) (z := zp.toInt) rfl] at d31
    have e31 : zp = y31 := Int32.toInt_inj.mp (by omega)
    subst e31
    rw [vn_at hx3 (n := 3) (z := zy.toInt) rfl] at d32
    have e32 : zy = y32 := Int32.toInt_inj.mp (by omega)
    subst e32
    rw [vn_at hx3 (n := 4) (z := zw.toInt) rfl] at d33
    have e33 : zw = y33 := Int32.toInt_inj.mp (by omega)
    subst e33
    rw [vn_at hx3 (n := 5) (z := zo.toInt) rfl] at d34
    have e34 : zo = y34 := Int32.toInt_inj.mp (by omega)
    subst e34
    rw [vn_at hx3 (n := 0) (z := 0) rfl] at d35
    rw [vn_at hx3 (n := 0) (z := 0) rfl] at d36
    rw [vn_at hx3 (n := 0) (z := 0) rfl] at d37
    rw [vn_at hx3 (n := 0) (z := 0) rfl] at d38
    cases hsk3.nil
    exact ar_ml (ws0 := ws) C ha hp hy hzw bz eo kk 20 y35 y36 y37 y38 ws3 (by omega) (by omega) (by omega) (by omega) (by omega) (by rw [show y38.toInt = 1 by omega, show y35.toInt = 0 by omega, show y36.toInt = -4 by omega, show y37.toInt = -4 by omega]) (by omega) hw3 ((hf1.tr hf2).tr hf3)
end XAR
theorem ar9_t1 : ((ai_ex (hk []) 600 169 tb_m169 11 [1297] (980, lw_lo, [], se8_en (-2147483648) (-1) (-2147483648) 2147483647 (-2147483648) 2147483647 (-2147483648) 2147483647, se8_n, [])).any fun xs => xs.all lw_un) = true := by decide +kernel
theorem ar9_t2 : ((ai_ex (hk []) 600 169 tb_m169 11 [1297] (980, lw_lo, [], se8_en 0 2147483647 (-2147483648) 2147483647 (-2147483648) 2147483647 (-2147483648) 2147483647, se8_n, [(5, 4, 8, 4, 0)])).any fun xs => xs.all lw_un) = true := by decide +kernel
theorem ar9_p1 : ((ai_ex (hk []) 600 169 tb_m169 11 [1297] (980, lw_lo, [], se8_en 0 3 (-2147483648) (-1) (-2147483648) 2147483647 (-2147483648) 2147483647, se8_n, [(4, 4, 8, 4, 0)])).any fun xs => xs.all lw_un) = true := by decide +kernel
theorem ar9_p2 : ((ai_ex (hk []) 600 169 tb_m169 11 [1297] (980, lw_lo, [], se8_en 0 3 21 2147483647 (-2147483648) 2147483647 (-2147483648) 2147483647, se8_n, [(4, 4, 8, 4, 0)])).any fun xs => xs.all lw_un) = true := by decide +kernel
theorem ar9_y1 : ((ai_ex (hk []) 600 169 tb_m169 11 [1297] (980, lw_lo, [], se8_en 0 3 0 20 (-2147483648) (-1) (-2147483648) 2147483647, se8_n, [(4, 4, 8, 4, 0)])).any fun xs => xs.all lw_un) = true := by decide +kernel
theorem ar9_y2 : ((ai_ex (hk []) 600 169 tb_m169 11 [1297] (980, lw_lo, [], se8_en 0 3 0 20 21 2147483647 (-2147483648) 2147483647, se8_n, [(4, 4, 8, 4, 0)])).any fun xs => xs.all lw_un) = true := by decide +kernel
theorem ar9_w1 : ((ai_ex (hk []) 600 169 tb_m169 11 [1297] (980, lw_lo, [], se8_en 0 3 0 20 0 20 (-2147483648) (-1), se8_n, [(4, 4, 8, 4, 0)])).any fun xs => xs.all lw_un) = true := by decide +kernel
theorem ar9_w2 : ((ai_ex (hk []) 600 169 tb_m169 11 [1297] (980, lw_lo, [], se8_en 0 3 0 20 0 20 3 2147483647, se8_n, [(4, 4, 8, 4, 0)])).any fun xs => xs.all lw_un) = true := by decide +kernel
section XAL
variable {ad : List Nat} {M : ai_m} {d : Nat} {p : Program} {l : Launch} {e : Env} {R : Room} {s : State} {m : MethodId} {args : Array Value} {below : List Frame} {meth : Method} {c : Code} {D : va_G} {tys : ai_ty} {A : Nat → Prop} {b L : Nat} {sx : Nat → Int32} {cells slots : Nat} {Q : State → Prop}
set_option maxRecDepth 20000 in
theorem lw_arms {i q0 q49 : Nat} {ws : va_W} (C : ai_cx tb_m169 11 p R s m args c D tys A b L sx cells slots) (e0 : ad[0]? = some q0) (e49 : ad[49]? = some q49) (hi : i + 5 ≤ L) (hL : L ≤ 2560) (hw : ai_wd tb_TY ad tys ws) (hI : Inv ws)
    (k : ∀ wc, ai_wd tb_TY ad tys wc → Inv wc → hG tb_m169 p l e R s m args below meth c D A cells slots Q 1297 [(0, .ref b), (1, .ref q0), (2, .ref q49), (3, .int (nI i))] [] wc) : hG tb_m169 p l e R s m args below meth c D A cells slots Q 980 [(0, .ref b), (1, .ref q0), (2, .ref q49), (3, .int (nI i))] [] ws := by
  have b0 := ai_irg (sx i)
  have b1 := ai_irg (sx (i + 1))
  have b2 := ai_irg (sx (i + 2))
  have b3 := ai_irg (sx (i + 3))
  have b4 := ai_irg (sx (i + 4))
  obtain ⟨t, g, u, q, y, n, j0, j1, E, a, P, hb, hp, hi0, hi1, hs⟩ := id hI
  obtain ⟨hn1, hn2, hn4⟩ := hb.2.2.2.2.1
  obtain ⟨hc, he, hg⟩ := hp.1
  obtain ⟨a1, -, -, e1, -⟩ := hw.get (c := 1) rfl
  have kn0 : ai_kn ad b (lw_r sx i ++ [(n : Int)]) ws se8_n := kc (hn1.kn (n := 8) (t := (n : Int)) rfl (by omega)) (kc (hn2.kn (n := 8) (t := (n : Int)) rfl (by omega)) k0)
  have ok : ∀ {t1 t2 s1 s2 p1 p2 y1 y2 : Int}, (t1 ≤ (sx (i + 1)).toInt ∧ (sx (i + 1)).toInt ≤ t2) → (s1 ≤ (sx (i + 2)).toInt ∧ (sx (i + 2)).toInt ≤ s2) → (p1 ≤ (sx (i + 3)).toInt ∧ (sx (i + 3)).toInt ≤ p2) → (y1 ≤ (sx (i + 4)).toInt ∧ (sx (i + 4)).toInt ≤ y2) → ai_ok (lw_r sx i ++ [(n : Int)]) (se8_en t1 t2 s1 s2 p1 p2 y1 y2) := fun h1 h2 h3 h4 => en_mk (by simp only [lw_r, se8_en, List.cons_append, List.nil_append, en_b, and_true]; omega) rfl
  by_cases c1 : (sx (i + 1)).toInt < 0
  · exact lw_no C e0 e49 hi hL hw hI ar9_t1 (ok (by omega) (by omega) (by omega) (by omega)) sb0 kn0 k
  by_cases c2 : (n : Int) ≤ (sx (i + 1)).toInt
  · exact lw_no C e0 e49 hi hL hw hI ar9_t2 (ok (by omega) (by omega) (by omega) (by omega)) (se8_sb (Or.inr ⟨rfl, c2⟩)) kn0 k
  have sb4 : ai_sb ws (lw_r sx i ++ [(n : Int)]) [(4, 4, 8, 4, 0)] := se8_sb (Or.inl ⟨rfl, by omega⟩)
  by_cases c_p1 : (sx (i + 2)).toInt < 0
  · exact lw_no C e0 e49 hi hL hw hI ar9_p1 (ok (by omega) (by omega) (by omega) (by omega)) sb4 kn0 k
  by_cases c_p2 : 20 < (sx (i + 2)).toInt
  · exact lw_no C e0 e49 hi hL hw hI ar9_p2 (ok (by omega) (by omega) (by omega) (by omega)) sb4 kn0 k
  by_cases c_y1 : (sx (i + 3)).toInt < 0
  · exact lw_no C e0 e49 hi hL hw hI ar9_y1 (ok (by omega) (by omega) (by omega) (by omega)) sb4 kn0 k
  by_cases c_y2 : 20 < (sx (i + 3)).toInt
  · exact lw_no C e0 e49 hi hL hw hI ar9_y2 (ok (by omega) (by omega) (by omega) (by omega)) sb4 kn0 k
  by_cases c_w1 : (sx (i + 4)).toInt < 0
  · exact lw_no C e0 e49 hi hL hw hI ar9_w1 (ok (by omega) (by omega) (by omega) (by omega)) sb4 kn0 k
  by_cases c_w2 : 2 < (sx (i + 4)).toInt
  · exact lw_no C e0 e49 hi hL hw hI ar9_w2 (ok (by omega) (by omega) (by omega) (by omega)) sb4 kn0 k
  obtain ⟨j, hj⟩ : ∃ j : Nat, (sx (i + 1)).toInt = (j : Int) := ⟨(sx (i + 1)).toInt.toNat, by omega⟩
  have hjn : j < n := by omega
  obtain ⟨-, qn, S, sq, sq6, sr⟩ := hs
  obtain ⟨a34, -, -, e34, -⟩ := hw.get (c := 34) rfl
  have sq2 : vi ws 49 19 qn := by
    have h9 := hb.2.2.1.2
    rw [vi_un hb.2.2.1.1 sq] at h9
    exact h9
  have hSB : ∀ j, j < qn → seB (S j) := fun j hj => (sr j hj).1
  have hSv : ∀ j, j < qn → ∀ r, r < 4 → vi ws (35 + r) j (S j r) ∧ vi ws 55 (4 * j + r) (S j r) := fun j hj => (sr j hj).2
  refine law2 (P1 := fun w z1 => ai_wd tb_TY ad tys w ∧ ai_fr [] ws w ∧ z1.toInt = arW (arF (arK (kiB S (j : Int) qn) (sx (i + 2)).toInt (sx (i + 3)).toInt) 20 1 0 (-4) (-4)) (sx (i + 4)).toInt) (P2 := fun wa _ w z1 => ai_wd tb_TY ad tys w ∧ ai_fr [] wa w ∧ z1.toInt = arW (arF (arK (kiB S (j : Int) qn) (sx (i + 2)).toInt (sx (i + 3)).toInt) 20 1 0 (-4) (-4)) (sx (i + 4)).toInt) (rets1 := [123, 137]) (rets2 := [205]) C e0 e49 hi hL hw (n := 4) (cmp := true) (by decide) lr_armsA lr_armsB lr_armsC (q1 := (131, 0, 84, 4, 5)) (tv_m169.1.1.1 (1001, .invokevirtual 131, 3) (List.mem_of_getElem? (i := 659) rfl)) (tv_m169.2 _ (List.mem_of_getElem? (i := 56) rfl)) rfl rfl rfl rfl (by decide) (Nat.le_of_ble_eq_true rfl) rfl rfl (q2 := (134, 0, 160, 4, 6)) (tv_m169.1.1.1 (1025, .invokevirtual 134, 3) (List.mem_of_getElem? (i := 681) rfl)) (tv_m169.2 _ (List.mem_of_getElem? (i := 57) rfl)) rfl rfl rfl rfl (by decide) (Nat.le_of_ble_eq_true rfl) rfl rfl ?_ ?_ ?_ (fun wa z1 h => h.1) ?_ (fun wa z1 wb z2 h1 h2 => ⟨h2.1, fun _ => Int32.toInt_inj.mp (by rw [h1.2.2, h2.2.2])⟩) (fun wa z1 wb z2 wc h1 h2 hwc hf => k wc hwc (hI.fr0 hwc ((h1.2.1.tr h2.2.1).tr hf)))
  · intro pcr hpc
    simp only [List.mem_cons, List.not_mem_nil, or_false] at hpc
    rcases hpc with rfl | rfl
    · exact tv_m84.1.1.1 (123, .ireturn, 1) (List.mem_of_getElem? (i := 60) rfl)
    · exact tv_m84.1.1.1 (137, .ireturn, 1) (List.mem_of_getElem? (i := 67) rfl)
  · intro pcr hpc
    rw [List.mem_singleton.mp hpc]
    exact tv_m160.1.1.1 (205, .ireturn, 1) (List.mem_of_getElem? (i := 101) rfl)
  · intro p e R s m args below meth c Q w hw' hf C2 kk
    exact ar_cls C2 e0 e34 hn4 hjn hj ⟨by show 0 ≤ (sx (i + 2)).toInt; omega, by show (sx (i + 2)).toInt ≤ 20; omega⟩ ⟨by show 0 ≤ (sx (i + 3)).toInt; omega, by show (sx (i + 3)).toInt ≤ 20; omega⟩ ⟨by show 0 ≤ (sx (i + 4)).toInt; omega, by show (sx (i + 4)).toInt ≤ 2; omega⟩ sq6 hSB hw' (hn1.fr hf rfl) (sq.fr hf rfl) (fun j hj r hr => (hSv j hj r hr).1.fr hf (nowr_ok rfl _ _)) (fun pcr w' z lv hpr g1 g2 g3 => kk pcr w' z lv hpr ⟨g1, hf.tr g2, g3⟩)
  · intro p e R s m args below meth c Q wa z1 w hP1 hw' hf C2 kk
    have hfa := hP1.2.1.tr hf
    exact ar_mdl C2 e49 hn4 hjn hj ⟨by show 0 ≤ (sx (i + 2)).toInt; omega, by show (sx (i + 2)).toInt ≤ 20; omega⟩ ⟨by show 0 ≤ (sx (i + 3)).toInt; omega, by show (sx (i + 3)).toInt ≤ 20; omega⟩ ⟨by show 0 ≤ (sx (i + 4)).toInt; omega, by show (sx (i + 4)).toInt ≤ 2; omega⟩ sq6 hSB hw' (hn2.fr hfa rfl) (sq2.fr hfa rfl) (fun j hj r hr => (hSv j hj r hr).2.fr hfa (nowr_ok (c := 55) rfl _ _)) (fun pcr w' z lv hpr g1 g2 g3 => kk pcr w' z lv hpr ⟨g1, hf.tr g2, g3⟩)
end XAL
