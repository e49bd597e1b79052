theorem lr_swapA : lw_A 696 702 1 = true := by decide +kernel
theorem lr_swapB : lw_B 702 711 1 true = true := by decide +kernel
theorem lr_swapC : lw_C 711 true = true := by decide +kernel
/-! swap, compared -/
def swP (P : Nat → Int) (i j : Nat) : Nat → Int := fun k => if k = i then P j else if k = j then P i else P k
def swL (a : Nat) (E P : Nat → Int) (i j : Nat) : Int := plE (swP P i j) E a 17
def swI (a : Nat) (E P : Nat → Int) (i : Nat) : Nat → Nat → Int → Int → Int × Int
  | 0, _, few, found => (few, found)
  | f + 1, j, few, found => if j < a then (if swL a E P i j < few then swI a E P i f (j + 1) (swL a E P i j) (10 * (i : Int) + (j : Int)) else swI a E P i f (j + 1) few found) else (few, found)
def swO (a : Nat) (E P : Nat → Int) : Nat → Nat → Int → Int → Int × Int
  | 0, _, few, found => (few, found)
  | f + 1, i, few, found => if i < a then swO a E P f (i + 1) (swI a E P i f (i + 1) few found).1 (swI a E P i f (i + 1) few found).2 else (few, found)
def swR (R : Int × Int) (w l : Int) : Int := if R.2 = -4 ∨ w = 0 then R.2 else R.1 - l
theorem sw_off {j : Nat} (hj : j < 81) : ai_wr tb_WR7 50 j j = false := wr_no fun q hq => by
  unfold tb_WR7 at hq
  simp only [List.mem_cons, List.not_mem_nil, or_false] at hq
  rcases hq with rfl | rfl | rfl | rfl | rfl | rfl | rfl | rfl | rfl | rfl <;> dsimp only <;> omega
theorem sw_cp {ad : List Nat} {tys : ai_ty} {ws ws' : va_W} {j : Nat} {z : Int} (h : cs_P ad tys 0 135 ws ws') (hj : j < 27) (hz : vi ws 50 j z) : vi ws' 50 (j + 135) z := by
  have h1 := h.2.2 j z hj (by rw [Nat.zero_add]; exact hz)
  rw [Nat.add_comm] at h1
  exact h1
theorem sw_pev {ad : List Nat} {tys : ai_ty} {ws ws' : va_W} {n : Nat} {E : Nat → Int} (hn : n ≤ 4) (h : cs_P ad tys 0 135 ws ws') (hc : pev ws 0 n E) : pev ws' 135 n E := by
  refine ⟨fun i hi => ?_, sw_cp h (by decide) hc.2.1, sw_cp h (by decide) hc.2.2⟩
  obtain ⟨x1, x2, x3, x4⟩ := hc.1 i hi
  exact ⟨sw_cp h (by omega) x1, sw_cp h (by omega) x2, sw_cp h (by omega) x3, sw_cp h (by omega) x4⟩
theorem sw_cs : cs_r 135 108 = true := by decide +kernel
theorem sw_hP {n a i j : Nat} {P : Nat → Int} (hP : ∀ j, j < a → P j = 4 ∨ (0 ≤ P j ∧ P j < n)) (hi : i < a) (hj : j < a) : ∀ k, k < a → swP P i j k = 4 ∨ (0 ≤ swP P i j k ∧ swP P i j k < n) := fun k hk => by
  unfold swP
  split
  · exact hP j hj
  split
  · exact hP i hi
  · exact hP k hk
theorem sw_L {n a i j : Nat} {E P : Nat → Int} (hn : n ≤ 4) (hg : good n E) (hP : ∀ j, j < a → P j = 4 ∨ (0 ≤ P j ∧ P j < n)) (hi : i < a) (hj : j < a) : 0 ≤ swL a E P i j ∧ swL a E P i j ≤ 999 := (plE_g hn hg (sw_hP hP hi hj) a (Nat.le_refl _)).2.2
theorem sw_a : ((List.range 8).all fun j => (List.range j).all fun i => (ai_ex (hk []) 300 73 tb_m73 9 [8] (0, [(0, (0, 0, 0, 0)), (1, (1, 0, 0, (i : Int))), (2, (1, 0, 0, (j : Int)))], [], [(0, 0, false, 0, 0), (0, 2555, false, 1, 0)], [], [])).any fun xs => xs.all fun x => ([(8, [(0, (0, 0, 0, 0)), (1, (1, 0, 0, (i : Int))), (2, (1, 0, 0, (j : Int)))], [(0, 1, 0, 0), (0, 7, 0, 0)], [], [(0, 0, false, 0, 0), (0, 2555, false, 1, 0)], [])] : List sm_t).any fun y => sm_is [] x y) = true := by decide +kernel
theorem sw_b : ((List.range 8).all fun j => (List.range j).all fun i => (ai_ex (hk [(12, i, i + 1), (12, j, j + 1)]) 300 73 tb_m73 9 [51] (11, [(0, (0, 0, 0, 0)), (1, (1, 0, 0, (i : Int))), (2, (1, 0, 0, (j : Int)))], [], [(0, 0, false, 0, 0), (0, 2555, false, 1, 0), (0, 4, false, 2, 0), (0, 4, false, 3, 0)], [(6, i, (1, 2, 0, 0)), (6, j, (1, 3, 0, 0))], [])).any fun xs => xs.all fun x => ([(51, [(0, (0, 0, 0, 0)), (1, (1, 0, 0, (i : Int))), (2, (1, 0, 0, (j : Int)))], [(0, 7, 0, 0)], [(1, 3, 0, 0), (1, 2, 0, 0)], [(0, 0, false, 0, 0), (0, 2555, false, 1, 0), (0, 4, false, 2, 0), (0, 4, false, 3, 0)], [])] : List sm_t).any fun y => sm_is [(12, i), (12, j)] x y) = true := by decide +kernel
theorem sw_c : ((List.range 8).all fun j => (List.range j).all fun i => (ai_ex (hk []) 300 73 tb_m73 9 [] (54, [(0, (0, 0, 0, 0)), (1, (1, 0, 0, (i : Int))), (2, (1, 0, 0, (j : Int)))], [(1, 2, 0, 0)], [(0, 0, false, 0, 0), (0, 2555, false, 1, 0), (-4, 7, false, 2, 0), (0, 999, false, 3, 0)], [(7, 2, (1, 3, 0, 0))], [])).any fun xs => xs.all fun x => ([(62, [], [(1, 3, 0, 0)], [], [(0, 0, false, 0, 0), (0, 2555, false, 1, 0), (-4, 7, false, 2, 0), (0, 999, false, 3, 0)], [])] : List sm_t).any fun y => sm_is [] x y) = true := by decide +kernel
theorem sw_cg : ((List.range 8).all fun j => (List.range j).all fun i => (ai_ex (hk []) 300 72 tb_m72 10 [79] (64, [(0, (0, 0, 0, 0)), (1, (1, 5, 0, 0)), (2, (1, 2, 0, 0)), (3, (1, 3, 0, 0)), (4, (1, 0, 0, (i : Int))), (5, (1, 0, 0, (j : Int)))], [(1, 0, 0, (j : Int))], [(0, 0, false, 0, 0), (0, 2555, false, 1, 0), (0, 999, false, 2, 0), (-4, 77, false, 3, 0), ((j : Int) + 1, 8, false, 4, 0), (0, 1, false, 5, 0)], [(1, 3, (1, 4, 0, 0))], [])).any fun xs => xs.all fun x => ([(79, [(0, (0, 0, 0, 0)), (1, (1, 5, 0, 0)), (2, (1, 2, 0, 0)), (3, (1, 3, 0, 0)), (4, (1, 0, 0, (i : Int))), (5, (1, 0, 0, (j : Int)))], [(1, 0, 0, (j : Int)), (1, 0, 0, (i : Int)), (0, 0, 0, 0)], [], [(0, 0, false, 0, 0), (0, 2555, false, 1, 0), (0, 999, false, 2, 0), (-4, 77, false, 3, 0), ((j : Int) + 1, 8, false, 4, 0), (0, 1, false, 5, 0)], [])] : List sm_t).any fun y => sm_is [] x y) = true := by decide +kernel
def sw_cY (i j : Nat) : List sm_t := [(62, [(0, (0, 0, 0, 0)), (1, (1, 5, 0, 0)), (2, (1, 2, 0, 0)), (3, (1, 3, 0, 0)), (4, (1, 0, 0, (i : Int))), (5, (1, 0, 0, (j : Int) + 1))], [], [], [(0, 0, false, 0, 0), (0, 2555, false, 1, 0), (0, 999, false, 2, 0), (-4, 77, false, 3, 0), (0, 999, false, 4, 0), (0, 1, false, 5, 0)], [(5, 4, 2, 4, 0)]), (62, [(0, (0, 0, 0, 0)), (1, (1, 5, 0, 0)), (2, (1, 4, 0, 0)), (3, (1, 0, 0, 10 * (i : Int) + (j : Int))), (4, (1, 0, 0, (i : Int))), (5, (1, 0, 0, (j : Int) + 1))], [], [], [(0, 0, false, 0, 0), (0, 2555, false, 1, 0), (1, 999, false, 2, 0), (-4, 77, false, 3, 0), (0, 998, false, 4, 0), (0, 1, false, 5, 0)], [(4, 4, 2, 4, 0)])]
theorem sw_cy : ((List.range 8).all fun j => (List.range j).all fun i => (ai_ex (hk []) 300 72 tb_m72 10 [62] (82, [(0, (0, 0, 0, 0)), (1, (1, 5, 0, 0)), (2, (1, 2, 0, 0)), (3, (1, 3, 0, 0)), (4, (1, 0, 0, (i : Int))), (5, (1, 0, 0, (j : Int)))], [(1, 4, 0, 0)], [(0, 0, false, 0, 0), (0, 2555, false, 1, 0), (0, 999, false, 2, 0), (-4, 77, false, 3, 0), (0, 999, false, 4, 0), (0, 1, false, 5, 0)], [], [])).any fun xs => xs.all fun x => (sw_cY i j : List sm_t).any fun y => sm_is [] x y) = true := by decide +kernel
theorem sw_cz : ((List.range 9).all fun j => (List.range j).all fun i => (ai_ex (hk []) 300 72 tb_m72 10 [44] (64, [(0, (0, 0, 0, 0)), (1, (1, 5, 0, 0)), (2, (1, 2, 0, 0)), (3, (1, 3, 0, 0)), (4, (1, 0, 0, (i : Int))), (5, (1, 0, 0, (j : Int)))], [(1, 0, 0, (j : Int))], [(0, 0, false, 0, 0), (0, 2555, false, 1, 0), (0, 999, false, 2, 0), (-4, 77, false, 3, 0), (0, (j : Int), false, 4, 0), (0, 1, false, 5, 0)], [(1, 3, (1, 4, 0, 0))], [])).any fun xs => xs.all fun x => ([(44, [(0, (0, 0, 0, 0)), (1, (1, 5, 0, 0)), (2, (1, 2, 0, 0)), (3, (1, 3, 0, 0)), (4, (1, 0, 0, (i : Int) + 1))], [], [], [(0, 0, false, 0, 0), (0, 2555, false, 1, 0), (0, 999, false, 2, 0), (-4, 77, false, 3, 0), (0, (j : Int), false, 4, 0), (0, 1, false, 5, 0)], [])] : List sm_t).any fun y => sm_is [] x y) = true := by decide +kernel
theorem sw_ch : ((List.range 8).all fun i => (ai_ex (hk []) 300 72 tb_m72 10 [62] (46, [(0, (0, 0, 0, 0)), (1, (1, 5, 0, 0)), (2, (1, 2, 0, 0)), (3, (1, 3, 0, 0)), (4, (1, 0, 0, (i : Int)))], [(1, 0, 0, (i : Int))], [(0, 0, false, 0, 0), (0, 2555, false, 1, 0), (0, 999, false, 2, 0), (-4, 77, false, 3, 0), ((i : Int) + 1, 8, false, 4, 0), (0, 1, false, 5, 0)], [(1, 3, (1, 4, 0, 0))], [])).any fun xs => xs.all fun x => ([(62, [(0, (0, 0, 0, 0)), (1, (1, 5, 0, 0)), (2, (1, 2, 0, 0)), (3, (1, 3, 0, 0)), (4, (1, 0, 0, (i : Int))), (5, (1, 0, 0, (i : Int) + 1))], [], [], [(0, 0, false, 0, 0), (0, 2555, false, 1, 0), (0, 999, false, 2, 0), (-4, 77, false, 3, 0), ((i : Int) + 1, 8, false, 4, 0), (0, 1, false, 5, 0)], [])] : List sm_t).any fun y => sm_is [] x y) = true := by decide +kernel
def sw_cX (i : Nat) : List sm_t := [(125, [], [(1, 3, 0, 0)], [], [(0, 0, false, 0, 0), (0, 2555, false, 1, 0), (0, 999, false, 2, 0), (-4, -4, false, 3, 0), (0, (i : Int), false, 4, 0), (0, 1, false, 5, 0), (0, 999, false, 6, 0)], []), (135, [], [(1, 7, 0, 0)], [], [(0, 0, false, 0, 0), (0, 2555, false, 1, 0), (0, 999, false, 2, 0), (-3, 77, false, 3, 0), (0, (i : Int), false, 4, 0), (1, 1, false, 5, 0), (0, 999, false, 6, 0), (-999, 999, false, 7, 0)], [(0, 2, 6, 7, 0), (140, 5, 0, 5, 0), (140, 3, 0, 3, -4)]), (125, [], [(1, 3, 0, 0)], [], [(0, 0, false, 0, 0), (0, 2555, false, 1, 0), (0, 999, false, 2, 0), (-3, 77, false, 3, 0), (0, (i : Int), false, 4, 0), (0, 0, false, 5, 0), (0, 999, false, 6, 0)], [(140, 3, 0, 3, -4)])]
theorem sw_cx : ((List.range 9).all fun i => (ai_ex (hk []) 300 72 tb_m72 10 [62] (46, [(0, (0, 0, 0, 0)), (1, (1, 5, 0, 0)), (2, (1, 2, 0, 0)), (3, (1, 3, 0, 0)), (4, (1, 0, 0, (i : Int)))], [(1, 0, 0, (i : Int))], [(0, 0, false, 0, 0), (0, 2555, false, 1, 0), (0, 999, false, 2, 0), (-4, 77, false, 3, 0), (0, (i : Int), false, 4, 0), (0, 1, false, 5, 0), (0, 999, false, 6, 0)], [(1, 3, (1, 4, 0, 0)), (1, 2, (1, 6, 0, 0))], [])).any fun xs => xs.all fun x => (sw_cX i : List sm_t).any fun y => sm_is [] x y) = true := by decide +kernel
theorem sw_c0 : ((ai_ex (hk []) 300 72 tb_m72 10 [19] (0, [(0, (0, 0, 0, 0)), (1, (1, 2, 0, 0))], [], [(0, 0, false, 0, 0), (0, 2555, false, 1, 0), (0, 1, false, 2, 0)], [], [])).any fun xs => xs.all fun x => ([(19, [(0, (0, 0, 0, 0)), (1, (1, 2, 0, 0))], [(0, 1, 0, 0), (0, 7, 0, 0)], [], [(0, 0, false, 0, 0), (0, 2555, false, 1, 0), (0, 1, false, 2, 0)], [])] : List sm_t).any fun y => sm_is [] x y) = true := by decide +kernel
theorem sw_c1 : ((ai_ex (hk []) 300 72 tb_m72 10 [26] (22, [(0, (0, 0, 0, 0)), (1, (1, 2, 0, 0))], [], [(0, 0, false, 0, 0), (0, 2555, false, 1, 0), (0, 1, false, 2, 0)], [], [])).any fun xs => xs.all fun x => ([(26, [(0, (0, 0, 0, 0)), (1, (1, 2, 0, 0))], [(0, 7, 0, 0)], [], [(0, 0, false, 0, 0), (0, 2555, false, 1, 0), (0, 1, false, 2, 0)], [])] : List sm_t).any fun y => sm_is [] x y) = true := by decide +kernel
theorem sw_c2 : ((ai_ex (hk []) 300 72 tb_m72 10 [44] (29, [(0, (0, 0, 0, 0)), (1, (1, 2, 0, 0))], [(1, 3, 0, 0)], [(0, 0, false, 0, 0), (0, 2555, false, 1, 0), (0, 1, false, 2, 0), (-4, 7, false, 3, 0), (0, 999, false, 4, 0)], [(7, 2, (1, 4, 0, 0))], [])).any fun xs => xs.all fun x => ([(44, [(0, (0, 0, 0, 0)), (1, (1, 2, 0, 0)), (2, (1, 4, 0, 0)), (3, (1, 0, 0, -4)), (4, (1, 0, 0, 0))], [], [], [(0, 0, false, 0, 0), (0, 2555, false, 1, 0), (0, 1, false, 2, 0), (-4, 7, false, 3, 0), (0, 999, false, 4, 0)], [])] : List sm_t).any fun y => sm_is [] x y) = true := by decide +kernel
theorem sw_mg : ((List.range 8).all fun j => (List.range j).all fun i => (ai_ex (hk []) 300 148 tb_m148 10 [63] (48, [(0, (0, 49, 0, 0)), (1, (1, 5, 0, 0)), (2, (1, 2, 0, 0)), (3, (1, 3, 0, 0)), (4, (1, 0, 0, (i : Int))), (5, (1, 0, 0, (j : Int)))], [(1, 0, 0, (j : Int))], [(0, 0, false, 0, 0), (0, 2555, false, 1, 0), (-999, 999, false, 2, 0), (-4, 77, false, 3, 0), ((j : Int) + 1, 8, false, 4, 0), (0, 1, false, 5, 0)], [(50, 26, (1, 4, 0, 0))], [])).any fun xs => xs.all fun x => ([(63, [(0, (0, 49, 0, 0)), (1, (1, 5, 0, 0)), (2, (1, 2, 0, 0)), (3, (1, 3, 0, 0)), (4, (1, 0, 0, (i : Int))), (5, (1, 0, 0, (j : Int)))], [(1, 0, 0, 135), (1, 0, 0, 0), (0, 49, 0, 0)], [], [(0, 0, false, 0, 0), (0, 2555, false, 1, 0), (-999, 999, false, 2, 0), (-4, 77, false, 3, 0), ((j : Int) + 1, 8, false, 4, 0), (0, 1, false, 5, 0)], [])] : List sm_t).any fun y => sm_is [] x y) = true := by decide +kernel
theorem sw_ms : ((List.range 8).all fun j => (List.range j).all fun i => (ai_ex (hk [(50, 153 + i, 154 + i), (50, 153 + j, 154 + j)]) 300 148 tb_m148 10 [112] (66, [(0, (0, 49, 0, 0)), (1, (1, 5, 0, 0)), (2, (1, 2, 0, 0)), (3, (1, 3, 0, 0)), (4, (1, 0, 0, (i : Int))), (5, (1, 0, 0, (j : Int)))], [], [(0, 0, false, 0, 0), (0, 2555, false, 1, 0), (-999, 999, false, 2, 0), (-4, 77, false, 3, 0), (0, 4, false, 4, 0), (0, 1, false, 5, 0), (0, 4, false, 6, 0)], [(50, 18 + i, (1, 4, 0, 0)), (50, 18 + j, (1, 6, 0, 0))], [])).any fun xs => xs.all fun x => ([(112, [(0, (0, 49, 0, 0)), (1, (1, 5, 0, 0)), (2, (1, 2, 0, 0)), (3, (1, 3, 0, 0)), (4, (1, 0, 0, (i : Int))), (5, (1, 0, 0, (j : Int)))], [(1, 0, 0, 135), (0, 49, 0, 0)], [(1, 6, 0, 0), (1, 4, 0, 0)], [(0, 0, false, 0, 0), (0, 2555, false, 1, 0), (-999, 999, false, 2, 0), (-4, 77, false, 3, 0), (0, 4, false, 4, 0), (0, 1, false, 5, 0), (0, 4, false, 6, 0)], [])] : List sm_t).any fun y => sm_is [(50, 153 + i), (50, 153 + j)] x y) = true := by decide +kernel
def sw_mY (i j : Nat) : List sm_t := [(46, [(0, (0, 49, 0, 0)), (1, (1, 5, 0, 0)), (2, (1, 2, 0, 0)), (3, (1, 3, 0, 0)), (4, (1, 0, 0, (i : Int))), (5, (1, 0, 0, (j : Int) + 1))], [], [], [(0, 0, false, 0, 0), (0, 2555, false, 1, 0), (-999, 999, false, 2, 0), (-4, 77, false, 3, 0), (0, 999, false, 4, 0), (0, 1, false, 5, 0), (0, 999, false, 6, 0), (-999, 999, false, 7, 0)], [(5, 7, 2, 7, 0), (5, 7, 2, 7, 0), (0, 4, 6, 7, 0)]), (46, [(0, (0, 49, 0, 0)), (1, (1, 5, 0, 0)), (2, (1, 7, 0, 0)), (3, (1, 0, 0, 10 * (i : Int) + (j : Int))), (4, (1, 0, 0, (i : Int))), (5, (1, 0, 0, (j : Int) + 1))], [], [], [(0, 0, false, 0, 0), (0, 2555, false, 1, 0), (-998, 999, false, 2, 0), (-4, 77, false, 3, 0), (0, 999, false, 4, 0), (0, 1, false, 5, 0), (0, 999, false, 6, 0), (-999, 998, false, 7, 0)], [(4, 7, 2, 7, 0), (4, 7, 2, 7, 0), (0, 4, 6, 7, 0)])]
theorem sw_my : ((List.range 8).all fun j => (List.range j).all fun i => (ai_ex (hk []) 300 148 tb_m148 10 [46] (115, [(0, (0, 49, 0, 0)), (1, (1, 5, 0, 0)), (2, (1, 2, 0, 0)), (3, (1, 3, 0, 0)), (4, (1, 0, 0, (i : Int))), (5, (1, 0, 0, (j : Int)))], [], [(0, 0, false, 0, 0), (0, 2555, false, 1, 0), (-999, 999, false, 2, 0), (-4, 77, false, 3, 0), (0, 999, false, 4, 0), (0, 1, false, 5, 0), (0, 999, false, 6, 0)], [(50, 125, (1, 4, 0, 0)), (50, 17, (1, 6, 0, 0))], [])).any fun xs => xs.all fun x => (sw_mY i j : List sm_t).any fun y => sm_is [] x y) = true := by decide +kernel
theorem sw_mz : ((List.range 9).all fun j => (List.range j).all fun i => (ai_ex (hk []) 300 148 tb_m148 10 [28] (48, [(0, (0, 49, 0, 0)), (1, (1, 5, 0, 0)), (2, (1, 2, 0, 0)), (3, (1, 3, 0, 0)), (4, (1, 0, 0, (i : Int))), (5, (1, 0, 0, (j : Int)))], [(1, 0, 0, (j : Int))], [(0, 0, false, 0, 0), (0, 2555, false, 1, 0), (-999, 999, false, 2, 0), (-4, 77, false, 3, 0), (0, (j : Int), false, 4, 0), (0, 1, false, 5, 0)], [(50, 26, (1, 4, 0, 0))], [])).any fun xs => xs.all fun x => ([(28, [(0, (0, 49, 0, 0)), (1, (1, 5, 0, 0)), (2, (1, 2, 0, 0)), (3, (1, 3, 0, 0)), (4, (1, 0, 0, (i : Int) + 1))], [], [], [(0, 0, false, 0, 0), (0, 2555, false, 1, 0), (-999, 999, false, 2, 0), (-4, 77, false, 3, 0), (0, (j : Int), false, 4, 0), (0, 1, false, 5, 0)], [])] : List sm_t).any fun y => sm_is [] x y) = true := by decide +kernel
theorem sw_mh : ((List.range 8).all fun i => (ai_ex (hk []) 300 148 tb_m148 10 [46] (30, [(0, (0, 49, 0, 0)), (1, (1, 5, 0, 0)), (2, (1, 2, 0, 0)), (3, (1, 3, 0, 0)), (4, (1, 0, 0, (i : Int)))], [(1, 0, 0, (i : Int))], [(0, 0, false, 0, 0), (0, 2555, false, 1, 0), (-999, 999, false, 2, 0), (-4, 77, false, 3, 0), ((i : Int) + 1, 8, false, 4, 0), (0, 1, false, 5, 0)], [(50, 26, (1, 4, 0, 0))], [])).any fun xs => xs.all fun x => ([(46, [(0, (0, 49, 0, 0)), (1, (1, 5, 0, 0)), (2, (1, 2, 0, 0)), (3, (1, 3, 0, 0)), (4, (1, 0, 0, (i : Int))), (5, (1, 0, 0, (i : Int) + 1))], [], [], [(0, 0, false, 0, 0), (0, 2555, false, 1, 0), (-999, 999, false, 2, 0), (-4, 77, false, 3, 0), ((i : Int) + 1, 8, false, 4, 0), (0, 1, false, 5, 0)], [])] : List sm_t).any fun y => sm_is [] x y) = true := by decide +kernel
def sw_mX (i : Nat) : List sm_t := [(180, [], [(1, 3, 0, 0)], [], [(0, 0, false, 0, 0), (0, 2555, false, 1, 0), (-999, 999, false, 2, 0), (-4, -4, false, 3, 0), (0, (i : Int), false, 4, 0), (0, 1, false, 5, 0)], []), (180, [], [(1, 2, 0, 0)], [], [(0, 0, false, 0, 0), (0, 2555, false, 1, 0), (-999, 999, false, 2, 0), (-3, 77, false, 3, 0), (0, (i : Int), false, 4, 0), (1, 1, false, 5, 0)], [(140, 5, 0, 5, 0), (140, 3, 0, 3, -4)]), (180, [], [(1, 3, 0, 0)], [], [(0, 0, false, 0, 0), (0, 2555, false, 1, 0), (-999, 999, false, 2, 0), (-3, 77, false, 3, 0), (0, (i : Int), false, 4, 0), (0, 0, false, 5, 0)], [(140, 3, 0, 3, -4)])]
theorem sw_mx : ((List.range 9).all fun i => (ai_ex (hk []) 300 148 tb_m148 10 [46] (30, [(0, (0, 49, 0, 0)), (1, (1, 5, 0, 0)), (2, (1, 2, 0, 0)), (3, (1, 3, 0, 0)), (4, (1, 0, 0, (i : Int)))], [(1, 0, 0, (i : Int))], [(0, 0, false, 0, 0), (0, 2555, false, 1, 0), (-999, 999, false, 2, 0), (-4, 77, false, 3, 0), (0, (i : Int), false, 4, 0), (0, 1, false, 5, 0)], [(50, 26, (1, 4, 0, 0))], [])).any fun xs => xs.all fun x => (sw_mX i : List sm_t).any fun y => sm_is [] x y) = true := by decide +kernel
theorem sw_m0 : ((ai_ex (hk []) 300 148 tb_m148 10 [14] (0, [(0, (0, 49, 0, 0)), (1, (1, 2, 0, 0))], [], [(0, 0, false, 0, 0), (0, 2555, false, 1, 0), (0, 1, false, 2, 0)], [], [])).any fun xs => xs.all fun x => ([(14, [(0, (0, 49, 0, 0)), (1, (1, 2, 0, 0))], [(1, 0, 0, 0), (0, 49, 0, 0)], [], [(0, 0, false, 0, 0), (0, 2555, false, 1, 0), (0, 1, false, 2, 0)], [])] : List sm_t).any fun y => sm_is [] x y) = true := by decide +kernel
theorem sw_m1 : ((ai_ex (hk []) 300 148 tb_m148 10 [28] (17, [(0, (0, 49, 0, 0)), (1, (1, 2, 0, 0))], [], [(0, 0, false, 0, 0), (0, 2555, false, 1, 0), (0, 1, false, 2, 0), (0, 999, false, 3, 0), (0, 999, false, 4, 0)], [(50, 125, (1, 3, 0, 0)), (50, 17, (1, 4, 0, 0))], [])).any fun xs => xs.all fun x => ([(28, [(0, (0, 49, 0, 0)), (1, (1, 2, 0, 0)), (2, (1, 5, 0, 0)), (3, (1, 0, 0, -4)), (4, (1, 0, 0, 0))], [], [], [(0, 0, false, 0, 0), (0, 2555, false, 1, 0), (0, 1, false, 2, 0), (0, 999, false, 3, 0), (0, 999, false, 4, 0), (-999, 999, false, 5, 0)], [(0, 3, 4, 5, 0)])] : List sm_t).any fun y => sm_is [] x y) = true := by decide +kernel
section XS1
variable {ad : List Nat} {M : ai_m} {d : Nat} {p : Program} {l : Launch} {e : Env} {R : Room} {s : State} {m : MethodId} {args : Array Value} {below : List Frame} {meth : Method} {c : Code} {D : va_G} {tys : ai_ty} {A : Nat → Prop} {b L : Nat} {sx : Nat → Int32} {cells slots : Nat} {Q : State → Prop}
theorem sw_one {a0 a1 a7 n a i j : Nat} {E P : Nat → Int} {zi zj : Int32} {ws : va_W} (C : ai_cx tb_m73 9 p R s m args c D tys A b L sx cells slots) (ha0 : ad[0]? = some a0) (ha1 : ad[1]? = some a1) (ha7 : ad[7]? = some a7) (hn : n ≤ 4) (ha8 : a ≤ 8) (hg : good n E) (hP : ∀ j, j < a → P j = 4 ∨ (0 ≤ P j ∧ P j < n)) (hij : i < j) (hj : j < a) (ei : zi.toInt = i) (ej : zj.toInt = j) (hw : ai_wd tb_TY ad tys ws) (hv0 : vi ws 1 0 n) (hv3 : vi ws 1 3 a) (hp : ∀ j, j < a → vi ws 6 j (P j)) (hc : cev ws 1 n E)
    (kk : ∀ (ws' : va_W) (z : Int32) (lv' : List (Nat × Value)), ai_wd tb_TY ad tys ws' → ai_fr tb_WR7 ws ws' → z.toInt = swL a E P i j → hG tb_m73 p l e R s m args below meth c D A cells slots Q 62 lv' [.int z] ws') : hG tb_m73 p l e R s m args below meth c D A cells slots Q 0 [(0, .ref a0), (1, .int zi), (2, .int zj)] [] ws := by
  have hPi := hP i (by omega)
  have hPj := hP j hj
  have hP2 := sw_hP hP (i := i) (by omega) hj
  refine hsum (st := (0, [(0, (0, 0, 0, 0)), (1, (1, 0, 0, (i : Int))), (2, (1, 0, 0, (j : Int)))], [], [(0, 0, false, 0, 0), (0, 2555, false, 1, 0)], [], [])) (List.all_eq_true.mp (List.all_eq_true.mp sw_a j (List.mem_range.mpr (by omega))) i (List.mem_range.mpr (by omega))) rfl C (r := [0, 0]) ⟨en_mk (by simp only [en_b, and_true]; omega) rfl, sb0, ⟨rfl, Or.inl ⟨rfl, a0, ha0, rfl⟩, rfl, int_dv (z := 0) rfl (by omega), rfl, int_dv (z := 0) rfl (by omega), trivial⟩, trivial, hw, k0, fun _ _ _ _ h => h, fun h => by cases h⟩ (fun x hx r1 lv1 st1 ws1 hx1 hb1 hl1 hs1 hlo1 hsk1 hw1 hV1 hf1 _ => ?_)
  have hx9 := List.mem_singleton.mp hx
  subst hx9
  dsimp only at hlo1 hsk1 ⊢
  obtain ⟨l10, rfl, p10⟩ := lo_ref ha0 hlo1
  obtain ⟨y11, l11, rfl, d11, p11⟩ := lo_int rfl p10
  obtain ⟨y12, l12, rfl, d12, p12⟩ := lo_int rfl p11
  cases lo_nil p12
  rw [vn_at hx1 (n := 0) (z := 0) rfl] at d11
  have e11 : zi = y11 := Int32.toInt_inj.mp (by omega)
  subst e11
  rw [vn_at hx1 (n := 0) (z := 0) rfl] at d12
  have e12 : zj = y12 := Int32.toInt_inj.mp (by omega)
  subst e12
  obtain ⟨x10, s10, rfl, c10, g10⟩ := hsk1.cons
  obtain ⟨x11, s11, rfl, c11, g11⟩ := g10.cons
  cases g11.nil
  have f10 := ref_of ha1 c10
  subst f10
  have f11 := ref_of ha7 c11
  subst f11
  refine hcallV (q := (84, 0, 1, 1, 0)) (M' := tb_m1) (cl := 7) (a := a7) (As := [.ref a1]) (rest := []) (rets := [103]) (P := bc_P ad tys 1 7 ws1) C (by decide) (tv_m73.1.1.1 (8, .invokevirtual 84, 3) (List.mem_of_getElem? (i := 4) rfl)) (tv_m73.2 _ (List.mem_of_getElem? (i := 3) rfl)) rfl rfl rfl rfl (by decide) (Nat.le_of_ble_eq_true rfl) rfl rfl rfl rfl hw1 ha7 (Nat.le_of_ble_eq_true rfl) ?_ ?_ ?_
  · intro pcr hp
    simp only [List.mem_cons, List.not_mem_nil, or_false] at hp
    rcases hp with rfl
    · exact tv_m1.1.1.1 (103, .return_, 1) (List.mem_of_getElem? (i := 56) rfl)
  · intro p2 e2 R2 s2 m2 args2 below2 meth2 c2 Q2 C2 kk2
    exact bc_all bc_r1 bc_T1 (mm_cx (by decide) C2) hw1 ha7 ha1 (fun pcr w lv2 hp hP => kk2 pcr w lv2 hp hP)
  · intro ws2 hbc
    have f02 : ai_fr tb_WR7 ws ws2 := (wsub_ok (V := []) (by rfl) hf1).tr (wsub_ok (V := bc_W 7) (by decide) hbc.2.1)
    have hq : ∀ k, k < a → vi ws2 6 k (P k) := fun k hk => ((hp k hk).fr hf1 (nowr_ok (c := 6) rfl k k)).fr hbc.2.1 (nowr_ok (c := 6) rfl k k)
    refine hsum (st := (11, [(0, (0, 0, 0, 0)), (1, (1, 0, 0, (i : Int))), (2, (1, 0, 0, (j : Int)))], [], [(0, 0, false, 0, 0), (0, 2555, false, 1, 0), (0, 4, false, 2, 0), (0, 4, false, 3, 0)], [(6, i, (1, 2, 0, 0)), (6, j, (1, 3, 0, 0))], [])) (List.all_eq_true.mp (List.all_eq_true.mp sw_b j (List.mem_range.mpr (by omega))) i (List.mem_range.mpr (by omega))) rfl C (r := [0, 0, P i, P j]) ⟨en_mk (by simp only [en_b, and_true]; omega) rfl, sb0, ⟨rfl, Or.inl ⟨rfl, a0, ha0, rfl⟩, rfl, int_dv (z := 0) rfl (by omega), rfl, int_dv (z := 0) rfl (by omega), trivial⟩, trivial, hbc.1, kc ((hq i (by omega)).kn (n := 2) (t := P i) rfl (by omega)) (kc ((hq j hj).kn (n := 3) (t := P j) rfl (by omega)) (k0)), fun _ _ _ _ h => h, fun h => by cases h⟩ (fun x hx r3 lv3 st3 ws3 hx3 hb3 hl3 hs3 hlo3 hsk3 hw3 hV3 hf3 _ => ?_)
    have hx9 := List.mem_singleton.mp hx
    subst hx9
    dsimp only at hlo3 hsk3 ⊢
    obtain ⟨q1, q2, -⟩ := hV3
    obtain ⟨l30, rfl, p30⟩ := lo_ref ha0 hlo3
    obtain ⟨y31, l31, rfl, d31, p31⟩ := lo_int rfl p30
    obtain ⟨y32, l32, rfl, d32, p32⟩ := lo_int rfl p31
    cases lo_nil p32
    rw [vn_at hx3 (n := 0) (z := 0) rfl] at d31
    have e31 : zi = y31 := Int32.toInt_inj.mp (by omega)
    subst e31
    rw [vn_at hx3 (n := 0) (z := 0) rfl] at d32
    have e32 : zj = y32 := Int32.toInt_inj.mp (by omega)
    subst e32
    obtain ⟨x30, s30, rfl, c30, g30⟩ := hsk3.cons
    cases g30.nil
    have f30 := ref_of ha7 c30
    subst f30
    have wn : ∀ {cc k : Nat}, (cc ≠ 12 ∨ (k ≠ i ∧ k ≠ j)) → ai_wr [(12, i, i + 1), (12, j, j + 1)] cc k k = false := fun h => wr_no fun q hq => by
      simp only [List.mem_cons, List.not_mem_nil, or_false] at hq
      rcases hq with rfl | rfl <;> dsimp only <;> omega
    have hc2 : cev ws2 7 n E := cev_bc hn hbc (hc.fr hf1 rfl)
    have hc3 : cev ws3 7 n E := by
      refine ⟨fun i hi => ?_, hc2.2.1.fr hf3 (wn (by omega)), hc2.2.2.fr hf3 (wn (by omega))⟩
      obtain ⟨x1, x2, x3, x4⟩ := hc2.1 i hi
      exact ⟨x1.fr hf3 (wn (by omega)), x2.fr hf3 (wn (by omega)), x3.fr hf3 (wn (by omega)), x4.fr hf3 (wn (by omega))⟩
    have n3 : vi ws3 7 0 n := (hbc.2.2.1 0 _ (by decide) (hv0.fr hf1 rfl)).fr hf3 (wn (by omega))
    have a3 : vi ws3 7 3 a := (hbc.2.2.1 3 _ (by decide) (hv3.fr hf1 rfl)).fr hf3 (wn (by omega))
    have p3 : ∀ k, k < a → vi ws3 12 k (swP P i j k) := fun k hk => by
      unfold swP
      by_cases h1 : k = i
      · rw [if_pos h1, h1]
        exact q1.eq (by have m3 := nm_x hx3 (k := 3) rfl; dsimp only; omega)
      · rw [if_neg h1]
        by_cases h2 : k = j
        · rw [if_pos h2, h2]
          exact q2.eq (by have m2 := nm_x hx3 (k := 2) rfl; dsimp only; omega)
        · rw [if_neg h2]
          exact (hbc.2.2.2.2 k _ (by omega) ((hp k hk).fr hf1 (nowr_ok (c := 6) rfl k k))).fr hf3 (wn (Or.inr ⟨h1, h2⟩))
    have hf3W : ai_fr tb_WR7 ws2 ws3 := fr_sub (fun cc k h q hq => by
      have h1 := h (12, 0, 8) (by unfold tb_WR7; simp)
      dsimp only at h1
      simp only [List.mem_cons, List.not_mem_nil, or_false] at hq
      rcases hq with rfl | rfl <;> dsimp only <;> omega) hf3
    refine hcallI (q := (153, 0, 16, 0, 0)) (M' := tb_m16) (cl := 7) (a := a7) (As := []) (rest := []) (rets := [41]) (P := rp_P ad tys n a E (swP P i j) ws3) C (by decide) (tv_m73.1.1.1 (51, .invokevirtual 153, 3) (List.mem_of_getElem? (i := 27) rfl)) (tv_m73.2 _ (List.mem_of_getElem? (i := 13) rfl)) rfl rfl rfl rfl (by decide) (Nat.le_of_ble_eq_true rfl) rfl rfl rfl rfl hw3 ha7 (Nat.le_of_ble_eq_true rfl) ?_ ?_ ?_
    · intro pcr hp
      simp only [List.mem_cons, List.not_mem_nil, or_false] at hp
      rcases hp with rfl
      · exact tv_m16.1.1.1 (41, .ireturn, 1) (List.mem_of_getElem? (i := 23) rfl)
    · intro p2 e2 R2 s2 m2 args2 below2 meth2 c2 Q2 C2 kk2
      exact rp_all (mm_cx (by decide) C2) ha7 hn ha8 hg hP2 hw3 n3 a3 p3 hc3 (fun w z lv2 h => kk2 41 w z lv2 (by decide) h)
    · intro ws4 zf hrp
      obtain ⟨hw4, hf4, hc4, ez⟩ := hrp
      have bz := plF_b (P := swP P i j) (E := E) a ha8
      have bL := sw_L hn hg hP (i := i) (by omega) hj
      have v72 : vi ws4 7 2 (swL a E P i j) := hc4.2.2
      have f04 : ai_fr tb_WR7 ws ws4 := (f02.tr hf3W).tr (wsub_ok (V := pf_W) (by decide) hf4)
      refine hsum (st := (54, [(0, (0, 0, 0, 0)), (1, (1, 0, 0, (i : Int))), (2, (1, 0, 0, (j : Int)))], [(1, 2, 0, 0)], [(0, 0, false, 0, 0), (0, 2555, false, 1, 0), (-4, 7, false, 2, 0), (0, 999, false, 3, 0)], [(7, 2, (1, 3, 0, 0))], [])) (List.all_eq_true.mp (List.all_eq_true.mp sw_c j (List.mem_range.mpr (by omega))) i (List.mem_range.mpr (by omega))) rfl C (r := [0, 0, zf.toInt, swL a E P i j]) ⟨en_mk (by simp only [en_b, and_true]; omega) rfl, sb0, ⟨rfl, Or.inl ⟨rfl, a0, ha0, rfl⟩, rfl, int_dv (z := 0) rfl (by omega), rfl, int_dv (z := 0) rfl (by omega), trivial⟩, ⟨int_dv (z := zf.toInt) rfl (by omega), trivial⟩, hw4, kc (v72.kn (n := 3) (t := swL a E P i j) rfl (by omega)) (k0), fun _ _ _ _ h => h, fun h => by cases h⟩ (fun x hx r5 lv5 st5 ws5 hx5 hb5 hl5 hs5 hlo5 hsk5 hw5 hV5 hf5 _ => ?_)
      have hx9 := List.mem_singleton.mp hx
      subst hx9
      dsimp only at hlo5 hsk5 ⊢
      cases lo_nil hlo5
      obtain ⟨x50, s50, rfl, c50, g50⟩ := hsk5.cons
      cases g50.nil
      obtain ⟨u50, rfl, w50⟩ := dvn c50 (hx5.at (k := 3) rfl)
      exact kk ws5 u50 _ hw5 (f04.tr (wsub_ok (V := []) (by rfl) hf5)) (by rw [w50]; exact Int.add_zero _)
theorem sw_ci {a0 a1 a7 n a i : Nat} {E P : Nat → Int} {RI : Int × Int} {zw : Int32} {ws0 : va_W} (C : ai_cx tb_m72 10 p R s m args c D tys A b L sx cells slots) (ha0 : ad[0]? = some a0) (ha1 : ad[1]? = some a1) (ha7 : ad[7]? = some a7) (hn : n ≤ 4) (ha8 : a ≤ 8) (hg : good n E) (hP : ∀ j, j < a → P j = 4 ∨ (0 ≤ P j ∧ P j < n)) (hzw : 0 ≤ zw.toInt ∧ zw.toInt ≤ 1) (hv0 : vi ws0 1 0 n) (hv3 : vi ws0 1 3 a) (hp : ∀ j, j < a → vi ws0 6 j (P j)) (hc : cev ws0 1 n E) (hi : i < a)
    (kk : ∀ (ws : va_W) (few : Int) (z2 z3 z4 : Int32), ai_wd tb_TY ad tys ws → ai_fr tb_WR7 ws0 ws → z4.toInt = (i : Int) + 1 → z2.toInt = few → (0 ≤ few ∧ few ≤ 999) → (-4 ≤ z3.toInt ∧ z3.toInt ≤ 77) → (few, z3.toInt) = RI → hG tb_m72 p l e R s m args below meth c D A cells slots Q 44 [(0, .ref a0), (1, .int zw), (2, .int z2), (3, .int z3), (4, .int z4)] [] ws) :
    ∀ (f j : Nat) (few : Int) (z2 z3 z4 z5 : Int32) (ws : va_W), j + f = 9 → j ≤ a → i < j → z4.toInt = i → z5.toInt = j → z2.toInt = few → (0 ≤ few ∧ few ≤ 999) → (-4 ≤ z3.toInt ∧ z3.toInt ≤ 77) → swI a E P i f j few z3.toInt = RI → ai_wd tb_TY ad tys ws → ai_fr tb_WR7 ws0 ws → hG tb_m72 p l e R s m args below meth c D A cells slots Q 62 [(0, .ref a0), (1, .int zw), (2, .int z2), (3, .int z3), (4, .int z4), (5, .int z5)] [] ws := by
  have bE := hg.2.2
  intro f
  induction f with
  | zero =>
    intro j few z2 z3 z4 z5 ws hf h4 _ _ _ _ _ _ _ _ _
    exact absurd hf (by omega)
  | succ f ih =>
    intro j few z2 z3 z4 z5 ws hf hja hij ez4 ez5 ez2 bfew bz3 hR hw hfr
    refine hildw (j := 5) (x := z5) C (tv_m72.1.1.1 (62, .iload 5, 2) (List.mem_of_getElem? (i := 33) rfl)) (List.mem_of_getElem? (i := 5) rfl) ?_
    by_cases hjn : j < a
    · have hU : swI a E P i (f + 1) j few z3.toInt = (if swL a E P i j < few then swI a E P i f (j + 1) (swL a E P i j) (10 * (i : Int) + (j : Int)) else swI a E P i f (j + 1) few z3.toInt) := if_pos hjn
      have bL := sw_L hn hg hP hi hjn
      refine hsum (st := (64, [(0, (0, 0, 0, 0)), (1, (1, 5, 0, 0)), (2, (1, 2, 0, 0)), (3, (1, 3, 0, 0)), (4, (1, 0, 0, (i : Int))), (5, (1, 0, 0, (j : Int)))], [(1, 0, 0, (j : Int))], [(0, 0, false, 0, 0), (0, 2555, false, 1, 0), (0, 999, false, 2, 0), (-4, 77, false, 3, 0), ((j : Int) + 1, 8, false, 4, 0), (0, 1, false, 5, 0)], [(1, 3, (1, 4, 0, 0))], [])) (List.all_eq_true.mp (List.all_eq_true.mp sw_cg j (List.mem_range.mpr (by omega))) i (List.mem_range.mpr (by omega))) rfl C (r := [0, 0, z2.toInt, z3.toInt, (a : Int), zw.toInt]) ⟨en_mk (by simp only [en_b, and_true]; omega) rfl, sb0, ⟨rfl, Or.inl ⟨rfl, a0, ha0, rfl⟩, rfl, int_dv (z := zw.toInt) rfl (by omega), rfl, int_dv (z := z2.toInt) rfl (by omega), rfl, int_dv (z := z3.toInt) rfl (by omega), rfl, int_dv (z := 0) rfl (by omega), rfl, int_dv (z := 0) rfl (by omega), trivial⟩, ⟨int_dv (z := 0) rfl (by omega), trivial⟩, hw, kc ((hv3.fr hfr rfl).kn (n := 4) (t := (a : Int)) rfl (by omega)) (k0), fun _ _ _ _ h => h, fun h => by cases h⟩ (fun x hx r1 lv1 st1 ws1 hx1 hb1 hl1 hs1 hlo1 hsk1 hw1 hV1 hf1 _ => ?_)
      have hx9 := List.mem_singleton.mp hx
      subst hx9
      dsimp only at hlo1 hsk1 ⊢
      obtain ⟨l10, rfl, p10⟩ := lo_ref ha0 hlo1
      obtain ⟨y11, l11, rfl, d11, p11⟩ := lo_int rfl p10
      obtain ⟨y12, l12, rfl, d12, p12⟩ := lo_int rfl p11
      obtain ⟨y13, l13, rfl, d13, p13⟩ := lo_int rfl p12
      obtain ⟨y14, l14, rfl, d14, p14⟩ := lo_int rfl p13
      obtain ⟨y15, l15, rfl, d15, p15⟩ := lo_int rfl p14
      cases lo_nil p15
      rw [vn_at hx1 (n := 5) (z := zw.toInt) rfl] at d11
      have e11 : zw = y11 := Int32.toInt_inj.mp (by omega)
      subst e11
      rw [vn_at hx1 (n := 2) (z := z2.toInt) rfl] at d12
      have e12 : z2 = y12 := Int32.toInt_inj.mp (by omega)
      subst e12
      rw [vn_at hx1 (n := 3) (z := z3.toInt) rfl] at d13
      have e13 : z3 = y13 := Int32.toInt_inj.mp (by omega)
      subst e13
      rw [vn_at hx1 (n := 0) (z := 0) rfl] at d14
      have e14 : z4 = y14 := Int32.toInt_inj.mp (by omega)
      subst e14
      rw [vn_at hx1 (n := 0) (z := 0) rfl] at d15
      have e15 : z5 = y15 := Int32.toInt_inj.mp (by omega)
      subst e15
      obtain ⟨x10, s10, rfl, c10, g10⟩ := hsk1.cons
      obtain ⟨x11, s11, rfl, c11, g11⟩ := g10.cons
      obtain ⟨x12, s12, rfl, c12, g12⟩ := g11.cons
      cases g12.nil
      obtain ⟨u10, rfl, w10⟩ := dvn c10 (hx1.at (k := 0) rfl)
      obtain ⟨u11, rfl, w11⟩ := dvn c11 (hx1.at (k := 0) rfl)
      have f12 := ref_of ha0 c12
      subst f12
      refine hcallI (q := (180, 0, 73, 2, 5)) (M' := tb_m73) (cl := 0) (a := a0) (As := [.int u11, .int u10]) (rest := []) (rets := [62]) (P := fun w z => ai_wd tb_TY ad tys w ∧ ai_fr tb_WR7 ws1 w ∧ z.toInt = swL a E P i j) C (by decide) (tv_m72.1.1.1 (79, .invokevirtual 180, 3) (List.mem_of_getElem? (i := 41) rfl)) (tv_m72.2 _ (List.mem_of_getElem? (i := 21) rfl)) rfl rfl rfl rfl (by decide) (Nat.le_of_ble_eq_true rfl) rfl rfl rfl rfl hw1 ha0 (Nat.le_of_ble_eq_true rfl) ?_ ?_ ?_
      · intro pcr hp
        simp only [List.mem_cons, List.not_mem_nil, or_false] at hp
        rcases hp with rfl
        · exact tv_m73.1.1.1 (62, .ireturn, 1) (List.mem_of_getElem? (i := 32) rfl)
      · intro p2 e2 R2 s2 m2 args2 below2 meth2 c2 Q2 C2 kk2
        exact sw_one (mm_cx (by decide) C2) ha0 ha1 ha7 hn ha8 hg hP hij hjn (by omega) (by omega) hw1 ((hv0.fr hfr rfl).fr hf1 rfl) ((hv3.fr hfr rfl).fr hf1 rfl) (fun j hj => ((hp j hj).fr hfr (nowr_ok (c := 6) rfl _ _)).fr hf1 (nowr_ok (c := 6) rfl _ _)) ((hc.fr hfr rfl).fr hf1 rfl) (fun w z lv2 h1 h2 h3 => kk2 62 w z lv2 (by decide) ⟨h1, h2, h3⟩)
      · intro ws8 zm hPm
        obtain ⟨hw8, hf8, ezm⟩ := hPm
        refine hsum (st := (82, [(0, (0, 0, 0, 0)), (1, (1, 5, 0, 0)), (2, (1, 2, 0, 0)), (3, (1, 3, 0, 0)), (4, (1, 0, 0, (i : Int))), (5, (1, 0, 0, (j : Int)))], [(1, 4, 0, 0)], [(0, 0, false, 0, 0), (0, 2555, false, 1, 0), (0, 999, false, 2, 0), (-4, 77, false, 3, 0), (0, 999, false, 4, 0), (0, 1, false, 5, 0)], [], [])) (List.all_eq_true.mp (List.all_eq_true.mp sw_cy j (List.mem_range.mpr (by omega))) i (List.mem_range.mpr (by omega))) rfl C (r := [0, 0, z2.toInt, z3.toInt, zm.toInt, zw.toInt]) ⟨en_mk (by simp only [en_b, and_true]; omega) rfl, sb0, ⟨rfl, Or.inl ⟨rfl, a0, ha0, rfl⟩, rfl, int_dv (z := zw.toInt) rfl (by omega), rfl, int_dv (z := z2.toInt) rfl (by omega), rfl, int_dv (z := z3.toInt) rfl (by omega), rfl, int_dv (z := 0) rfl (by omega), rfl, int_dv (z := 0) rfl (by omega), trivial⟩, ⟨int_dv (z := zm.toInt) rfl (by omega), trivial⟩, hw8, k0, fun _ _ _ _ h => h, fun h => by cases h⟩ (fun x hx r9 lv9 st9 ws9 hx9 hb9 hl9 hs9 hlo9 hsk9 hw9 hV9 hf9 _ => ?_)
        have m2 := nm_x hx9 (k := 2) rfl
        have m4 := nm_x hx9 (k := 4) rfl
        unfold sw_cY at hx
        rcases List.mem_cons.mp hx with rfl | hx
        · skip
          dsimp only at hlo9 hsk9 ⊢
          simp (config := { decide := true }) only [bnd_b, lin_b, lin_q, Nat.reduceAdd, Nat.zero_add, Nat.reduceEqDiff, reduceIte, and_true, Int.add_zero] at hb9 hl9
          obtain ⟨l90, rfl, p90⟩ := lo_ref ha0 hlo9
          obtain ⟨y91, l91, rfl, d91, p91⟩ := lo_int rfl p90
          obtain ⟨y92, l92, rfl, d92, p92⟩ := lo_int rfl p91
          obtain ⟨y93, l93, rfl, d93, p93⟩ := lo_int rfl p92
          obtain ⟨y94, l94, rfl, d94, p94⟩ := lo_int rfl p93
          obtain ⟨y95, l95, rfl, d95, p95⟩ := lo_int rfl p94
          cases lo_nil p95
          rw [vn_at hx9 (n := 5) (z := zw.toInt) rfl] at d91
          have e91 : zw = y91 := Int32.toInt_inj.mp (by omega)
          subst e91
          rw [vn_at hx9 (n := 2) (z := z2.toInt) rfl] at d92
          rw [vn_at hx9 (n := 3) (z := z3.toInt) rfl] at d93
          rw [vn_at hx9 (n := 0) (z := 0) rfl] at d94
          have e94 : z4 = y94 := Int32.toInt_inj.mp (by omega)
          subst e94
          rw [vn_at hx9 (n := 0) (z := 0) rfl] at d95
          cases hsk9.nil
          refine ih (j + 1) few y92 y93 z4 y95 ws9 (by omega) (by omega) (by omega) (by omega) (by omega) (by omega) (by omega) (by omega) ?_ hw9 (((hfr.tr (wsub_ok (V := []) (by rfl) hf1)).tr hf8).tr (wsub_ok (V := []) (by rfl) hf9))
          rw [← hR, hU]
          rw [if_neg (by omega), show y93.toInt = z3.toInt by omega]
        have hx0 := List.mem_singleton.mp hx
        subst hx0
        dsimp only at hlo9 hsk9 ⊢
        simp (config := { decide := true }) only [bnd_b, lin_b, lin_q, Nat.reduceAdd, Nat.zero_add, Nat.reduceEqDiff, reduceIte, and_true, Int.add_zero] at hb9 hl9
        obtain ⟨l90, rfl, p90⟩ := lo_ref ha0 hlo9
        obtain ⟨y91, l91, rfl, d91, p91⟩ := lo_int rfl p90
        obtain ⟨y92, l92, rfl, d92, p92⟩ := lo_int rfl p91
        obtain ⟨y93, l93, rfl, d93, p93⟩ := lo_int rfl p92
        obtain ⟨y94, l94, rfl, d94, p94⟩ := lo_int rfl p93
        obtain ⟨y95, l95, rfl, d95, p95⟩ := lo_int rfl p94
        cases lo_nil p95
        rw [vn_at hx9 (n := 5) (z := zw.toInt) rfl] at d91
        have e91 : zw = y91 := Int32.toInt_inj.mp (by omega)
        subst e91
        rw [vn_at hx9 (n := 4) (z := zm.toInt) rfl] at d92
        rw [vn_at hx9 (n := 0) (z := 0) rfl] at d93
        rw [vn_at hx9 (n := 0) (z := 0) rfl] at d94
        have e94 : z4 = y94 := Int32.toInt_inj.mp (by omega)
        subst e94
        rw [vn_at hx9 (n := 0) (z := 0) rfl] at d95
        cases hsk9.nil
        refine ih (j + 1) (swL a E P i j) y92 y93 z4 y95 ws9 (by omega) (by omega) (by omega) (by omega) (by omega) (by omega) (by omega) (by omega) ?_ hw9 (((hfr.tr (wsub_ok (V := []) (by rfl) hf1)).tr hf8).tr (wsub_ok (V := []) (by rfl) hf9))
        rw [← hR, hU]
        rw [if_pos (by omega), show y93.toInt = 10 * (i : Int) + (j : Int) by omega]
    · have hja' : j = a := by omega
      have hR : (few, z3.toInt) = RI := by
        rw [← hR]
        exact (if_neg hjn).symm
      refine hsum (st := (64, [(0, (0, 0, 0, 0)), (1, (1, 5, 0, 0)), (2, (1, 2, 0, 0)), (3, (1, 3, 0, 0)), (4, (1, 0, 0, (i : Int))), (5, (1, 0, 0, (j : Int)))], [(1, 0, 0, (j : Int))], [(0, 0, false, 0, 0), (0, 2555, false, 1, 0), (0, 999, false, 2, 0), (-4, 77, false, 3, 0), (0, (j : Int), false, 4, 0), (0, 1, false, 5, 0)], [(1, 3, (1, 4, 0, 0))], [])) (List.all_eq_true.mp (List.all_eq_true.mp sw_cz j (List.mem_range.mpr (by omega))) i (List.mem_range.mpr (by omega))) rfl C (r := [0, 0, z2.toInt, z3.toInt, (a : Int), zw.toInt]) ⟨en_mk (by simp only [en_b, and_true]; omega) rfl, sb0, ⟨rfl, Or.inl ⟨rfl, a0, ha0, rfl⟩, rfl, int_dv (z := zw.toInt) rfl (by omega), rfl, int_dv (z := z2.toInt) rfl (by omega), rfl, int_dv (z := z3.toInt) rfl (by omega), rfl, int_dv (z := 0) rfl (by omega), rfl, int_dv (z := 0) rfl (by omega), trivial⟩, ⟨int_dv (z := 0) rfl (by omega), trivial⟩, hw, kc ((hv3.fr hfr rfl).kn (n := 4) (t := (a : Int)) rfl (by omega)) (k0), fun _ _ _ _ h => h, fun h => by cases h⟩ (fun x hx r1 lv1 st1 ws1 hx1 hb1 hl1 hs1 hlo1 hsk1 hw1 hV1 hf1 _ => ?_)
      have hx9 := List.mem_singleton.mp hx
      subst hx9
      dsimp only at hlo1 hsk1 ⊢
      obtain ⟨l10, rfl, p10⟩ := lo_ref ha0 hlo1
      obtain ⟨y11, l11, rfl, d11, p11⟩ := lo_int rfl p10
      obtain ⟨y12, l12, rfl, d12, p12⟩ := lo_int rfl p11
      obtain ⟨y13, l13, rfl, d13, p13⟩ := lo_int rfl p12
      obtain ⟨y14, l14, rfl, d14, p14⟩ := lo_int rfl p13
      cases lo_nil p14
      rw [vn_at hx1 (n := 5) (z := zw.toInt) rfl] at d11
      have e11 : zw = y11 := Int32.toInt_inj.mp (by omega)
      subst e11
      rw [vn_at hx1 (n := 2) (z := z2.toInt) rfl] at d12
      have e12 : z2 = y12 := Int32.toInt_inj.mp (by omega)
      subst e12
      rw [vn_at hx1 (n := 3) (z := z3.toInt) rfl] at d13
      have e13 : z3 = y13 := Int32.toInt_inj.mp (by omega)
      subst e13
      rw [vn_at hx1 (n := 0) (z := 0) rfl] at d14
      cases hsk1.nil
      exact kk ws1 few z2 z3 y14 hw1 (hfr.tr (wsub_ok (V := []) (by rfl) hf1)) (by omega) ez2 bfew bz3 hR
theorem sw_co {a0 a1 a7 n a : Nat} {E P : Nat → Int} {R0 : Int × Int} {zw : Int32} {ws0 : va_W} (C : ai_cx tb_m72 10 p R s m args c D tys A b L sx cells slots) (ha0 : ad[0]? = some a0) (ha1 : ad[1]? = some a1) (ha7 : ad[7]? = some a7) (hn : n ≤ 4) (ha8 : a ≤ 8) (hg : good n E) (hP : ∀ j, j < a → P j = 4 ∨ (0 ≤ P j ∧ P j < n)) (hzw : 0 ≤ zw.toInt ∧ zw.toInt ≤ 1) (hv0 : vi ws0 1 0 n) (hv3 : vi ws0 1 3 a) (hp : ∀ j, j < a → vi ws0 6 j (P j)) (hc : cev ws0 1 n E)
    (kk : ∀ (pcr : Nat) (ws' : va_W) (z : Int32) (lv' : List (Nat × Value)), pcr ∈ [125, 135] → ai_wd tb_TY ad tys ws' → ai_fr tb_WR7 ws0 ws' → z.toInt = swR R0 zw.toInt (E 17) → hG tb_m72 p l e R s m args below meth c D A cells slots Q pcr lv' [.int z] ws') :
    ∀ (f i : Nat) (few : Int) (z2 z3 z4 : Int32) (ws : va_W), i + f = 9 → i ≤ a → z4.toInt = i → z2.toInt = few → (0 ≤ few ∧ few ≤ 999) → (-4 ≤ z3.toInt ∧ z3.toInt ≤ 77) → swO a E P f i few z3.toInt = R0 → ai_wd tb_TY ad tys ws → ai_fr tb_WR7 ws0 ws → hG tb_m72 p l e R s m args below meth c D A cells slots Q 44 [(0, .ref a0), (1, .int zw), (2, .int z2), (3, .int z3), (4, .int z4)] [] ws := by
  have bE := hg.2.2
  intro f
  induction f with
  | zero =>
    intro i few z2 z3 z4 ws hf h4 _ _ _ _ _ _ _
    exact absurd hf (by omega)
  | succ f ih =>
    intro i few z2 z3 z4 ws hf hia ez4 ez2 bfew bz3 hR hw hfr
    refine hildw (j := 4) (x := z4) C (tv_m72.1.1.1 (44, .iload 4, 2) (List.mem_of_getElem? (i := 24) rfl)) (List.mem_of_getElem? (i := 4) rfl) ?_
    by_cases hin : i < a
    · have hU : swO a E P (f + 1) i few z3.toInt = swO a E P f (i + 1) (swI a E P i f (i + 1) few z3.toInt).1 (swI a E P i f (i + 1) few z3.toInt).2 := if_pos hin
      rw [hU] at hR
      refine hsum (st := (46, [(0, (0, 0, 0, 0)), (1, (1, 5, 0, 0)), (2, (1, 2, 0, 0)), (3, (1, 3, 0, 0)), (4, (1, 0, 0, (i : Int)))], [(1, 0, 0, (i : Int))], [(0, 0, false, 0, 0), (0, 2555, false, 1, 0), (0, 999, false, 2, 0), (-4, 77, false, 3, 0), ((i : Int) + 1, 8, false, 4, 0), (0, 1, false, 5, 0)], [(1, 3, (1, 4, 0, 0))], [])) (List.all_eq_true.mp sw_ch i (List.mem_range.mpr (by omega))) rfl C (r := [0, 0, z2.toInt, z3.toInt, (a : Int), zw.toInt]) ⟨en_mk (by simp only [en_b, and_true]; omega) rfl, sb0, ⟨rfl, Or.inl ⟨rfl, a0, ha0, rfl⟩, rfl, int_dv (z := zw.toInt) rfl (by omega), rfl, int_dv (z := z2.toInt) rfl (by omega), rfl, int_dv (z := z3.toInt) rfl (by omega), rfl, int_dv (z := 0) rfl (by omega), trivial⟩, ⟨int_dv (z := 0) rfl (by omega), trivial⟩, hw, kc ((hv3.fr hfr rfl).kn (n := 4) (t := (a : Int)) rfl (by omega)) (k0), fun _ _ _ _ h => h, fun h => by cases h⟩ (fun x hx r1 lv1 st1 ws1 hx1 hb1 hl1 hs1 hlo1 hsk1 hw1 hV1 hf1 _ => ?_)
      have hx9 := List.mem_singleton.mp hx
      subst hx9
      dsimp only at hlo1 hsk1 ⊢
      obtain ⟨l10, rfl, p10⟩ := lo_ref ha0 hlo1
      obtain ⟨y11, l11, rfl, d11, p11⟩ := lo_int rfl p10
      obtain ⟨y12, l12, rfl, d12, p12⟩ := lo_int rfl p11
      obtain ⟨y13, l13, rfl, d13, p13⟩ := lo_int rfl p12
      obtain ⟨y14, l14, rfl, d14, p14⟩ := lo_int rfl p13
      obtain ⟨y15, l15, rfl, d15, p15⟩ := lo_int rfl p14
      cases lo_nil p15
      rw [vn_at hx1 (n := 5) (z := zw.toInt) rfl] at d11
      have e11 : zw = y11 := Int32.toInt_inj.mp (by omega)
      subst e11
      rw [vn_at hx1 (n := 2) (z := z2.toInt) rfl] at d12
      have e12 : z2 = y12 := Int32.toInt_inj.mp (by omega)
      subst e12
      rw [vn_at hx1 (n := 3) (z := z3.toInt) rfl] at d13
      have e13 : z3 = y13 := Int32.toInt_inj.mp (by omega)
      subst e13
      rw [vn_at hx1 (n := 0) (z := 0) rfl] at d14
      have e14 : z4 = y14 := Int32.toInt_inj.mp (by omega)
      subst e14
      rw [vn_at hx1 (n := 0) (z := 0) rfl] at d15
      cases hsk1.nil
      refine sw_ci (ws0 := ws1) (i := i) (RI := swI a E P i f (i + 1) few z3.toInt) C ha0 ha1 ha7 hn ha8 hg hP hzw ((hv0.fr hfr rfl).fr hf1 rfl) ((hv3.fr hfr rfl).fr hf1 rfl) (fun j hj => ((hp j hj).fr hfr (nowr_ok (c := 6) rfl _ _)).fr hf1 (nowr_ok (c := 6) rfl _ _)) ((hc.fr hfr rfl).fr hf1 rfl) hin (fun ws2 few2 y2 y3 y4 g1 g2 g3 g4 g5 g6 g7 => ?_) f (i + 1) few z2 z3 z4 y15 ws1 (by omega) (by omega) (by omega) (by omega) (by omega) ez2 bfew bz3 rfl hw1 (fun _ _ _ _ h => h)
      refine ih (i + 1) few2 y2 y3 y4 ws2 (by omega) (by omega) (by omega) g4 g5 g6 ?_ g1 ((hfr.tr (wsub_ok (V := []) (by rfl) hf1)).tr g2)
      rw [← hR, ← g7]
    · have hR : (few, z3.toInt) = R0 := by
        rw [← hR]
        exact (if_neg hin).symm
      refine hsum (st := (46, [(0, (0, 0, 0, 0)), (1, (1, 5, 0, 0)), (2, (1, 2, 0, 0)), (3, (1, 3, 0, 0)), (4, (1, 0, 0, (i : Int)))], [(1, 0, 0, (i : Int))], [(0, 0, false, 0, 0), (0, 2555, false, 1, 0), (0, 999, false, 2, 0), (-4, 77, false, 3, 0), (0, (i : Int), false, 4, 0), (0, 1, false, 5, 0), (0, 999, false, 6, 0)], [(1, 3, (1, 4, 0, 0)), (1, 2, (1, 6, 0, 0))], [])) (List.all_eq_true.mp sw_cx i (List.mem_range.mpr (by omega))) rfl C (r := [0, 0, z2.toInt, z3.toInt, (a : Int), zw.toInt, E 17]) ⟨en_mk (by simp only [en_b, and_true]; omega) rfl, sb0, ⟨rfl, Or.inl ⟨rfl, a0, ha0, rfl⟩, rfl, int_dv (z := zw.toInt) rfl (by omega), rfl, int_dv (z := z2.toInt) rfl (by omega), rfl, int_dv (z := z3.toInt) rfl (by omega), rfl, int_dv (z := 0) rfl (by omega), trivial⟩, ⟨int_dv (z := 0) rfl (by omega), trivial⟩, hw, kc ((hv3.fr hfr rfl).kn (n := 4) (t := (a : Int)) rfl (by omega)) (kc ((hc.2.2.fr hfr rfl).kn (n := 6) (t := E 17) rfl (by omega)) (k0)), fun _ _ _ _ h => h, fun h => by cases h⟩ (fun x hx r1 lv1 st1 ws1 hx1 hb1 hl1 hs1 hlo1 hsk1 hw1 hV1 hf1 _ => ?_)
      have m2 := nm_x hx1 (k := 2) rfl
      have m3 := nm_x hx1 (k := 3) rfl
      have m5 := nm_x hx1 (k := 5) rfl
      have m6 := nm_x hx1 (k := 6) rfl
      unfold sw_cX at hx
      rcases List.mem_cons.mp hx with rfl | hx
      · skip
        dsimp only at hsk1 ⊢
        simp (config := { decide := true }) only [bnd_b, lin_b, lin_q, Nat.reduceAdd, Nat.zero_add, Nat.reduceEqDiff, reduceIte, and_true, Int.add_zero] at hb1 hl1
        obtain ⟨z, rfl, hz9⟩ := sk1 rfl hsk1
        unfold vn at hz9
        dsimp only at hz9
        refine kk 125 ws1 z lv1 (by decide) hw1 (hfr.tr (wsub_ok (V := []) (by rfl) hf1)) ?_
        rw [← hR]
        unfold swR
        dsimp only
        rw [if_pos (by omega)]
        omega
      rcases List.mem_cons.mp hx with rfl | hx
      · skip
        dsimp only at hsk1 ⊢
        simp (config := { decide := true }) only [bnd_b, lin_b, lin_q, Nat.reduceAdd, Nat.zero_add, Nat.reduceEqDiff, reduceIte, and_true, Int.add_zero] at hb1 hl1
        obtain ⟨z, rfl, hz9⟩ := sk1 rfl hsk1
        unfold vn at hz9
        dsimp only at hz9
        refine kk 135 ws1 z lv1 (by decide) hw1 (hfr.tr (wsub_ok (V := []) (by rfl) hf1)) ?_
        rw [← hR]
        unfold swR
        dsimp only
        rw [if_neg (by omega)]
        omega
      have hx0 := List.mem_singleton.mp hx
      subst hx0
      dsimp only at hsk1 ⊢
      simp (config := { decide := true }) only [bnd_b, lin_b, lin_q, Nat.reduceAdd, Nat.zero_add, Nat.reduceEqDiff, reduceIte, and_true, Int.add_zero] at hb1 hl1
      obtain ⟨z, rfl, hz9⟩ := sk1 rfl hsk1
      unfold vn at hz9
      dsimp only at hz9
      refine kk 125 ws1 z lv1 (by decide) hw1 (hfr.tr (wsub_ok (V := []) (by rfl) hf1)) ?_
      rw [← hR]
      unfold swR
      dsimp only
      rw [if_pos (by omega)]
      omega
theorem sw_cls {a0 a1 a7 n a : Nat} {E P : Nat → Int} {zw : Int32} {ws : va_W} (C : ai_cx tb_m72 10 p R s m args c D tys A b L sx cells slots) (ha0 : ad[0]? = some a0) (ha1 : ad[1]? = some a1) (ha7 : ad[7]? = some a7) (hn : n ≤ 4) (ha8 : a ≤ 8) (hg : good n E) (hP : ∀ j, j < a → P j = 4 ∨ (0 ≤ P j ∧ P j < n)) (hzw : 0 ≤ zw.toInt ∧ zw.toInt ≤ 1) (hw : ai_wd tb_TY ad tys ws) (hv0 : vi ws 1 0 n) (hv3 : vi ws 1 3 a) (hp : ∀ j, j < a → vi ws 6 j (P j)) (hc : cev ws 1 n E)
    (kk : ∀ (pcr : Nat) (ws' : va_W) (z : Int32) (lv' : List (Nat × Value)), pcr ∈ [125, 135] → ai_wd tb_TY ad tys ws' → ai_fr tb_WR7 ws ws' → z.toInt = swR (swO a E P 9 0 (plE P E a 17) (-4)) zw.toInt (E 17) → hG tb_m72 p l e R s m args below meth c D A cells slots Q pcr lv' [.int z] ws') : hG tb_m72 p l e R s m args below meth c D A cells slots Q 0 [(0, .ref a0), (1, .int zw)] [] ws := by
  refine hsum (st := (0, [(0, (0, 0, 0, 0)), (1, (1, 2, 0, 0))], [], [(0, 0, false, 0, 0), (0, 2555, false, 1, 0), (0, 1, false, 2, 0)], [], [])) sw_c0 rfl C (r := [0, 0, zw.toInt]) ⟨en_mk (by simp only [en_b, and_true]; omega) rfl, sb0, ⟨rfl, Or.inl ⟨rfl, a0, ha0, rfl⟩, rfl, int_dv (z := zw.toInt) rfl (by omega), trivial⟩, trivial, hw, k0, fun _ _ _ _ h => h, fun h => by cases h⟩ (fun x hx r1 lv1 st1 ws1 hx1 hb1 hl1 hs1 hlo1 hsk1 hw1 hV1 hf1 _ => ?_)
  have hx9 := List.mem_singleton.mp hx
  subst hx9
  dsimp only at hlo1 hsk1 ⊢
  obtain ⟨l10, rfl, p10⟩ := lo_ref ha0 hlo1
  obtain ⟨y11, l11, rfl, d11, p11⟩ := lo_int rfl p10
  cases lo_nil p11
  rw [vn_at hx1 (n := 2) (z := zw.toInt) rfl] at d11
  have e11 : zw = y11 := Int32.toInt_inj.mp (by omega)
  subst e11
  obtain ⟨x10, s10, rfl, c10, g10⟩ := hsk1.cons
  obtain ⟨x11, s11, rfl, c11, g11⟩ := g10.cons
  cases g11.nil
  have f10 := ref_of ha1 c10
  subst f10
  have f11 := ref_of ha7 c11
  subst f11
  refine hcallV (q := (84, 0, 1, 1, 0)) (M' := tb_m1) (cl := 7) (a := a7) (As := [.ref a1]) (rest := []) (rets := [103]) (P := bc_P ad tys 1 7 ws1) C (by decide) (tv_m72.1.1.1 (19, .invokevirtual 84, 3) (List.mem_of_getElem? (i := 11) rfl)) (tv_m72.2 _ (List.mem_of_getElem? (i := 3) rfl)) rfl rfl rfl rfl (by decide) (Nat.le_of_ble_eq_true rfl) rfl rfl rfl rfl hw1 ha7 (Nat.le_of_ble_eq_true rfl) ?_ ?_ ?_
  · intro pcr hp
    simp only [List.mem_cons, List.not_mem_nil, or_false] at hp
    rcases hp with rfl
    · exact tv_m1.1.1.1 (103, .return_, 1) (List.mem_of_getElem? (i := 56) rfl)
  · intro p2 e2 R2 s2 m2 args2 below2 meth2 c2 Q2 C2 kk2
    exact bc_all bc_r1 bc_T1 (mm_cx (by decide) C2) hw1 ha7 ha1 (fun pcr w lv2 hp hP => kk2 pcr w lv2 hp hP)
  · intro ws2 hbc
    have f02 : ai_fr tb_WR7 ws ws2 := (wsub_ok (V := []) (by rfl) hf1).tr (wsub_ok (V := bc_W 7) (by decide) hbc.2.1)
    refine hsum (st := (22, [(0, (0, 0, 0, 0)), (1, (1, 2, 0, 0))], [], [(0, 0, false, 0, 0), (0, 2555, false, 1, 0), (0, 1, false, 2, 0)], [], [])) sw_c1 rfl C (r := [0, 0, zw.toInt]) ⟨en_mk (by simp only [en_b, and_true]; omega) rfl, sb0, ⟨rfl, Or.inl ⟨rfl, a0, ha0, rfl⟩, rfl, int_dv (z := zw.toInt) rfl (by omega), trivial⟩, trivial, hbc.1, k0, fun _ _ _ _ h => h, fun h => by cases h⟩ (fun x hx r3 lv3 st3 ws3 hx3 hb3 hl3 hs3 hlo3 hsk3 hw3 hV3 hf3 _ => ?_)
    have hx9 := List.mem_singleton.mp hx
    subst hx9
    dsimp only at hlo3 hsk3 ⊢
    obtain ⟨l30, rfl, p30⟩ := lo_ref ha0 hlo3
    obtain ⟨y31, l31, rfl, d31, p31⟩ := lo_int rfl p30
    cases lo_nil p31
    rw [vn_at hx3 (n := 2) (z := zw.toInt) rfl] at d31
    have e31 : zw = y31 := Int32.toInt_inj.mp (by omega)
    subst e31
    obtain ⟨x30, s30, rfl, c30, g30⟩ := hsk3.cons
    cases g30.nil
    have f30 := ref_of ha7 c30
    subst f30
    have hc3 : cev ws3 7 n E := (cev_bc hn hbc (hc.fr hf1 rfl)).fr hf3 rfl
    have n3 : vi ws3 7 0 n := (hbc.2.2.1 0 _ (by decide) (hv0.fr hf1 rfl)).fr hf3 rfl
    have a3 : vi ws3 7 3 a := (hbc.2.2.1 3 _ (by decide) (hv3.fr hf1 rfl)).fr hf3 rfl
    have p3 : ∀ j, j < a → vi ws3 12 j (P j) := fun j hj => (hbc.2.2.2.2 j _ (by omega) ((hp j hj).fr hf1 (nowr_ok (c := 6) rfl j j))).fr hf3 (nowr_ok (c := 12) rfl j j)
    refine hcallI (q := (153, 0, 16, 0, 0)) (M' := tb_m16) (cl := 7) (a := a7) (As := []) (rest := []) (rets := [41]) (P := rp_P ad tys n a E (P) ws3) C (by decide) (tv_m72.1.1.1 (26, .invokevirtual 153, 3) (List.mem_of_getElem? (i := 14) rfl)) (tv_m72.2 _ (List.mem_of_getElem? (i := 13) rfl)) rfl rfl rfl rfl (by decide) (Nat.le_of_ble_eq_true rfl) rfl rfl rfl rfl hw3 ha7 (Nat.le_of_ble_eq_true rfl) ?_ ?_ ?_
    · intro pcr hp
      simp only [List.mem_cons, List.not_mem_nil, or_false] at hp
      rcases hp with rfl
      · exact tv_m16.1.1.1 (41, .ireturn, 1) (List.mem_of_getElem? (i := 23) rfl)
    · intro p2 e2 R2 s2 m2 args2 below2 meth2 c2 Q2 C2 kk2
      exact rp_all (mm_cx (by decide) C2) ha7 hn ha8 hg hP hw3 n3 a3 p3 hc3 (fun w z lv2 h => kk2 41 w z lv2 (by decide) h)
    · intro ws4 zf hrp
      obtain ⟨hw4, hf4, hc4, ez⟩ := hrp
      have bz := plF_b (P := P) (E := E) a ha8
      have hg4 := plE_g hn hg hP a (Nat.le_refl _)
      have bG := hg4.2.2
      have f04 : ai_fr tb_WR7 ws ws4 := (f02.tr (wsub_ok (V := []) (by rfl) hf3)).tr (wsub_ok (V := pf_W) (by decide) hf4)
      refine hsum (st := (29, [(0, (0, 0, 0, 0)), (1, (1, 2, 0, 0))], [(1, 3, 0, 0)], [(0, 0, false, 0, 0), (0, 2555, false, 1, 0), (0, 1, false, 2, 0), (-4, 7, false, 3, 0), (0, 999, false, 4, 0)], [(7, 2, (1, 4, 0, 0))], [])) sw_c2 rfl C (r := [0, 0, zw.toInt, zf.toInt, plE P E a 17]) ⟨en_mk (by simp only [en_b, and_true]; omega) rfl, sb0, ⟨rfl, Or.inl ⟨rfl, a0, ha0, rfl⟩, rfl, int_dv (z := zw.toInt) rfl (by omega), trivial⟩, ⟨int_dv (z := zf.toInt) rfl (by omega), trivial⟩, hw4, kc (hc4.2.2.kn (n := 4) (t := plE P E a 17) rfl (by omega)) (k0), fun _ _ _ _ h => h, fun h => by cases h⟩ (fun x hx r7 lv7 st7 ws7 hx7 hb7 hl7 hs7 hlo7 hsk7 hw7 hV7 hf7 _ => ?_)
      have hx9 := List.mem_singleton.mp hx
      subst hx9
      dsimp only at hlo7 hsk7 ⊢
      obtain ⟨l70, rfl, p70⟩ := lo_ref ha0 hlo7
      obtain ⟨y71, l71, rfl, d71, p71⟩ := lo_int rfl p70
      obtain ⟨y72, l72, rfl, d72, p72⟩ := lo_int rfl p71
      obtain ⟨y73, l73, rfl, d73, p73⟩ := lo_int rfl p72
      obtain ⟨y74, l74, rfl, d74, p74⟩ := lo_int rfl p73
      cases lo_nil p74
      rw [vn_at hx7 (n := 2) (z := zw.toInt) rfl] at d71
      have e71 : zw = y71 := Int32.toInt_inj.mp (by omega)
      subst e71
      rw [vn_at hx7 (n := 4) (z := plE P E a 17) rfl] at d72
      rw [vn_at hx7 (n := 0) (z := 0) rfl] at d73
      rw [vn_at hx7 (n := 0) (z := 0) rfl] at d74
      cases hsk7.nil
      exact sw_co (ws0 := ws) C ha0 ha1 ha7 hn ha8 hg hP hzw hv0 hv3 hp hc kk 9 0 (plE P E a 17) y72 y73 y74 ws7 rfl (Nat.zero_le _) (by omega) (by omega) (by omega) (by omega) (by rw [show y73.toInt = -4 by omega]) hw7 (f04.tr (wsub_ok (V := []) (by rfl) hf7))
theorem sw_mi {ar n a i : Nat} {E P : Nat → Int} {RI : Int × Int} {zw : Int32} {ws0 : va_W} (C : ai_cx tb_m148 10 p R s m args c D tys A b L sx cells slots) (ha : ad[49]? = some ar) (hn : n ≤ 4) (ha8 : a ≤ 8) (hg : good n E) (hP : ∀ j, j < a → P j = 4 ∨ (0 ≤ P j ∧ P j < n)) (hzw : 0 ≤ zw.toInt ∧ zw.toInt ≤ 1) (hv0 : vi ws0 49 1 n) (hv3 : vi ws0 50 26 a) (hp : ∀ j, j < a → vi ws0 50 (18 + j) (P j)) (hc : pev ws0 0 n E) (hi : i < a)
    (kk : ∀ (ws : va_W) (few : Int) (z2 z3 z4 : Int32), ai_wd tb_TY ad tys ws → ai_fr tb_WR7 ws0 ws → z4.toInt = (i : Int) + 1 → z2.toInt = few - E 17 → (0 ≤ few ∧ few ≤ 999) → (-4 ≤ z3.toInt ∧ z3.toInt ≤ 77) → (few, z3.toInt) = RI → hG tb_m148 p l e R s m args below meth c D A cells slots Q 28 [(0, .ref ar), (1, .int zw), (2, .int z2), (3, .int z3), (4, .int z4)] [] ws) :
    ∀ (f j : Nat) (few : Int) (z2 z3 z4 z5 : Int32) (ws : va_W), j + f = 9 → j ≤ a → i < j → z4.toInt = i → z5.toInt = j → z2.toInt = few - E 17 → (0 ≤ few ∧ few ≤ 999) → (-4 ≤ z3.toInt ∧ z3.toInt ≤ 77) → swI a E P i f j few z3.toInt = RI → ai_wd tb_TY ad tys ws → ai_fr tb_WR7 ws0 ws → hG tb_m148 p l e R s m args below meth c D A cells slots Q 46 [(0, .ref ar), (1, .int zw), (2, .int z2), (3, .int z3), (4, .int z4), (5, .int z5)] [] ws := by
  have bE := hg.2.2
  intro f
  induction f with
  | zero =>
    intro j few z2 z3 z4 z5 ws hf h4 _ _ _ _ _ _ _ _ _
    exact absurd hf (by omega)
  | succ f ih =>
    intro j few z2 z3 z4 z5 ws hf hja hij ez4 ez5 ez2 bfew bz3 hR hw hfr
    refine hildw (j := 5) (x := z5) C (tv_m148.1.1.1 (46, .iload 5, 2) (List.mem_of_getElem? (i := 28) rfl)) (List.mem_of_getElem? (i := 5) rfl) ?_
    by_cases hjn : j < a
    · have hU : swI a E P i (f + 1) j few z3.toInt = (if swL a E P i j < few then swI a E P i f (j + 1) (swL a E P i j) (10 * (i : Int) + (j : Int)) else swI a E P i f (j + 1) few z3.toInt) := if_pos hjn
      have bL := sw_L hn hg hP hi hjn
      refine hsum (st := (48, [(0, (0, 49, 0, 0)), (1, (1, 5, 0, 0)), (2, (1, 2, 0, 0)), (3, (1, 3, 0, 0)), (4, (1, 0, 0, (i : Int))), (5, (1, 0, 0, (j : Int)))], [(1, 0, 0, (j : Int))], [(0, 0, false, 0, 0), (0, 2555, false, 1, 0), (-999, 999, false, 2, 0), (-4, 77, false, 3, 0), ((j : Int) + 1, 8, false, 4, 0), (0, 1, false, 5, 0)], [(50, 26, (1, 4, 0, 0))], [])) (List.all_eq_true.mp (List.all_eq_true.mp sw_mg j (List.mem_range.mpr (by omega))) i (List.mem_range.mpr (by omega))) rfl C (r := [0, 0, z2.toInt, z3.toInt, (a : Int), zw.toInt]) ⟨en_mk (by simp only [en_b, and_true]; omega) rfl, sb0, ⟨rfl, Or.inl ⟨rfl, ar, ha, rfl⟩, rfl, int_dv (z := zw.toInt) rfl (by omega), rfl, int_dv (z := z2.toInt) rfl (by omega), rfl, int_dv (z := z3.toInt) rfl (by omega), rfl, int_dv (z := 0) rfl (by omega), rfl, int_dv (z := 0) rfl (by omega), trivial⟩, ⟨int_dv (z := 0) rfl (by omega), trivial⟩, hw, kc ((hv3.fr hfr rfl).kn (n := 4) (t := (a : Int)) rfl (by omega)) (k0), fun _ _ _ _ h => h, fun h => by cases h⟩ (fun x hx r1 lv1 st1 ws1 hx1 hb1 hl1 hs1 hlo1 hsk1 hw1 hV1 hf1 _ => ?_)
      have hx9 := List.mem_singleton.mp hx
      subst hx9
      dsimp only at hlo1 hsk1 ⊢
      obtain ⟨l10, rfl, p10⟩ := lo_ref ha hlo1
      obtain ⟨y11, l11, rfl, d11, p11⟩ := lo_int rfl p10
      obtain ⟨y12, l12, rfl, d12, p12⟩ := lo_int rfl p11
      obtain ⟨y13, l13, rfl, d13, p13⟩ := lo_int rfl p12
      obtain ⟨y14, l14, rfl, d14, p14⟩ := lo_int rfl p13
      obtain ⟨y15, l15, rfl, d15, p15⟩ := lo_int rfl p14
      cases lo_nil p15
      rw [vn_at hx1 (n := 5) (z := zw.toInt) rfl] at d11
      have e11 : zw = y11 := Int32.toInt_inj.mp (by omega)
      subst e11
      rw [vn_at hx1 (n := 2) (z := z2.toInt) rfl] at d12
      have e12 : z2 = y12 := Int32.toInt_inj.mp (by omega)
      subst e12
      rw [vn_at hx1 (n := 3) (z := z3.toInt) rfl] at d13
      have e13 : z3 = y13 := Int32.toInt_inj.mp (by omega)
      subst e13
      rw [vn_at hx1 (n := 0) (z := 0) rfl] at d14
      have e14 : z4 = y14 := Int32.toInt_inj.mp (by omega)
      subst e14
      rw [vn_at hx1 (n := 0) (z := 0) rfl] at d15
      have e15 : z5 = y15 := Int32.toInt_inj.mp (by omega)
      subst e15
      obtain ⟨x10, s10, rfl, c10, g10⟩ := hsk1.cons
      obtain ⟨x11, s11, rfl, c11, g11⟩ := g10.cons
      obtain ⟨x12, s12, rfl, c12, g12⟩ := g11.cons
      cases g12.nil
      obtain ⟨u10, rfl, w10⟩ := dvn c10 (hx1.at (k := 0) rfl)
      obtain ⟨u11, rfl, w11⟩ := dvn c11 (hx1.at (k := 0) rfl)
      have f12 := ref_of49 ha c12
      subst f12
      refine hcallV (q := (174, 0, 134, 2, 6)) (M' := tb_m134) (cl := 49) (a := ar) (As := [.int u11, .int u10]) (rest := []) (rets := [30]) (P := cs_P ad tys 0 135 ws1) C (by decide) (tv_m148.1.1.1 (63, .invokevirtual 174, 3) (List.mem_of_getElem? (i := 37) rfl)) (tv_m148.2 _ (List.mem_of_getElem? (i := 21) rfl)) rfl rfl rfl rfl (by decide) (Nat.le_of_ble_eq_true rfl) rfl rfl rfl rfl hw1 ha (Nat.le_of_ble_eq_true rfl) ?_ ?_ ?_
      · intro pcr hp
        simp only [List.mem_cons, List.not_mem_nil, or_false] at hp
        rcases hp with rfl
        · exact tv_m134.1.1.1 (30, .return_, 1) (List.mem_of_getElem? (i := 19) rfl)
      · intro p2 e2 R2 s2 m2 args2 below2 meth2 c2 Q2 C2 kk2
        exact cs_all cs_r8 (by decide +kernel) (by decide) (mm_cx (by decide) C2) hw1 ha (by omega) (by omega) (fun pcr w lv2 hp hP => kk2 pcr w lv2 hp hP)
      · intro ws2 hcs
        have off1 : ∀ {j : Nat} {z : Int}, j < 81 → vi ws0 50 j z → vi ws1 50 j z := fun hj h => (h.fr hfr (sw_off hj)).fr hf1 (nowr_ok (c := 50) rfl _ _)
        have off2 : ∀ {j : Nat} {z : Int}, j < 81 → vi ws0 50 j z → vi ws2 50 j z := fun {j z} hj h => (off1 hj h).fr hcs.2.1 (wr_no fun q hq => by
          rw [List.mem_singleton.mp hq]
          dsimp only
          omega)
        have hc1 : pev ws1 0 n E := (hc.fr hn hfr (fun j hj => sw_off (by omega))).fr hn hf1 (fun _ _ => rfl)
        have hc2 := sw_pev hn hcs hc1
        have hPi := hP i hi
        have hPj := hP j hjn
        have hP2 := sw_hP hP hi hjn
        have f02 : ai_fr tb_WR7 ws0 ws2 := (hfr.tr (wsub_ok (V := []) (by rfl) hf1)).tr (wsub_ok (V := [(50, 135, 162)]) (by decide) hcs.2.1)
        refine hsum (st := (66, [(0, (0, 49, 0, 0)), (1, (1, 5, 0, 0)), (2, (1, 2, 0, 0)), (3, (1, 3, 0, 0)), (4, (1, 0, 0, (i : Int))), (5, (1, 0, 0, (j : Int)))], [], [(0, 0, false, 0, 0), (0, 2555, false, 1, 0), (-999, 999, false, 2, 0), (-4, 77, false, 3, 0), (0, 4, false, 4, 0), (0, 1, false, 5, 0), (0, 4, false, 6, 0)], [(50, 18 + i, (1, 4, 0, 0)), (50, 18 + j, (1, 6, 0, 0))], [])) (List.all_eq_true.mp (List.all_eq_true.mp sw_ms j (List.mem_range.mpr (by omega))) i (List.mem_range.mpr (by omega))) rfl C (r := [0, 0, z2.toInt, z3.toInt, P i, zw.toInt, P j]) ⟨en_mk (by simp only [en_b, and_true]; omega) rfl, sb0, ⟨rfl, Or.inl ⟨rfl, ar, ha, rfl⟩, rfl, int_dv (z := zw.toInt) rfl (by omega), rfl, int_dv (z := z2.toInt) rfl (by omega), rfl, int_dv (z := z3.toInt) rfl (by omega), rfl, int_dv (z := 0) rfl (by omega), rfl, int_dv (z := 0) rfl (by omega), trivial⟩, trivial, hcs.1, kc ((off2 (by omega) (hp i hi)).kn (n := 4) (t := P i) rfl (by omega)) (kc ((off2 (by omega) (hp j hjn)).kn (n := 6) (t := P j) rfl (by omega)) (k0)), fun _ _ _ _ h => h, fun h => by cases h⟩ (fun x hx r3 lv3 st3 ws3 hx3 hb3 hl3 hs3 hlo3 hsk3 hw3 hV3 hf3 _ => ?_)
        have hx9 := List.mem_singleton.mp hx
        subst hx9
        dsimp only at hlo3 hsk3 ⊢
        obtain ⟨q1, q2, -⟩ := hV3
        obtain ⟨l30, rfl, p30⟩ := lo_ref ha hlo3
        obtain ⟨y31, l31, rfl, d31, p31⟩ := lo_int rfl p30
        obtain ⟨y32, l32, rfl, d32, p32⟩ := lo_int rfl p31
        obtain ⟨y33, l33, rfl, d33, p33⟩ := lo_int rfl p32
        obtain ⟨y34, l34, rfl, d34, p34⟩ := lo_int rfl p33
        obtain ⟨y35, l35, rfl, d35, p35⟩ := lo_int rfl p34
        cases lo_nil p35
        rw [vn_at hx3 (n := 5) (z := zw.toInt) rfl] at d31
        have e31 : zw = y31 := Int32.toInt_inj.mp (by omega)
        subst e31
        rw [vn_at hx3 (n := 2) (z := z2.toInt) rfl] at d32
        have e32 : z2 = y32 := Int32.toInt_inj.mp (by omega)
        subst e32
        rw [vn_at hx3 (n := 3) (z := z3.toInt) rfl] at d33
        have e33 : z3 = y33 := Int32.toInt_inj.mp (by omega)
        subst e33
        rw [vn_at hx3 (n := 0) (z := 0) rfl] at d34
        have e34 : z4 = y34 := Int32.toInt_inj.mp (by omega)
        subst e34
        rw [vn_at hx3 (n := 0) (z := 0) rfl] at d35
        have e35 : z5 = y35 := Int32.toInt_inj.mp (by omega)
        subst e35
        obtain ⟨x30, s30, rfl, c30, g30⟩ := hsk3.cons
        obtain ⟨x31, s31, rfl, c31, g31⟩ := g30.cons
        cases g31.nil
        obtain ⟨u30, rfl, w30⟩ := dvn c30 (hx3.at (k := 0) rfl)
        have f31 := ref_of49 ha c31
        subst f31
        have wn : ∀ {k : Nat}, (k ≠ 18 + i ∧ k ≠ 18 + j) → ai_wr [(50, 153 + i, 154 + i), (50, 153 + j, 154 + j)] 50 (k + 135) (k + 135) = false := fun {k} h => wr_no fun q hq => by
          simp only [List.mem_cons, List.not_mem_nil, or_false] at hq
          rcases hq with rfl | rfl <;> dsimp only <;> omega
        have hc3 : pev ws3 135 n E := hc2.fr hn hf3 (fun k hk => wn (by omega))
        have hf3W : ai_fr tb_WR7 ws2 ws3 := fr_sub (fun cc k h q hq => by
          have h1 := h (50, 81, 162) (by unfold tb_WR7; simp)
          dsimp only at h1
          simp only [List.mem_cons, List.not_mem_nil, or_false] at hq
          rcases hq with rfl | rfl <;> dsimp only <;> omega) hf3
        have n3 : vi ws3 49 1 n := (hv0.fr f02 rfl).fr hf3W rfl
        have a3 : vi ws3 50 (26 + 135) a := (sw_cp hcs (j := 26) (by decide) (off1 (by decide) hv3)).fr hf3 (wn (k := 26) (by omega))
        have p3 : ∀ k, k < a → vi ws3 50 (18 + k + 135) (swP P i j k) := fun k hk => by
          unfold swP
          by_cases h1 : k = i
          · rw [if_pos h1, h1, show 18 + i + 135 = 153 + i by omega]
            exact q1.eq (by have m3 := nm_x hx3 (k := 6) rfl; dsimp only; omega)
          · rw [if_neg h1]
            by_cases h2 : k = j
            · rw [if_pos h2, h2, show 18 + j + 135 = 153 + j by omega]
              exact q2.eq (by have m2 := nm_x hx3 (k := 4) rfl; dsimp only; omega)
            · rw [if_neg h2]
              exact (sw_cp hcs (j := 18 + k) (by omega) (off1 (by omega) (hp k hk))).fr hf3 (wn (by omega))
        refine hcallV (q := (184, 0, 135, 1, 6)) (M' := tb_m135) (cl := 49) (a := ar) (As := [.int u30]) (rest := []) (rets := [77]) (P := pg_P ad tys n a E (swP P i j) ws3) C (by decide) (tv_m148.1.1.1 (112, .invokevirtual 184, 3) (List.mem_of_getElem? (i := 64) rfl)) (tv_m148.2 _ (List.mem_of_getElem? (i := 23) rfl)) rfl rfl rfl rfl (by decide) (Nat.le_of_ble_eq_true rfl) rfl rfl rfl rfl hw3 ha (Nat.le_of_ble_eq_true rfl) ?_ ?_ ?_
        · intro pcr hp
          simp only [List.mem_cons, List.not_mem_nil, or_false] at hp
          rcases hp with rfl
          · exact tv_m135.1.1.1 (77, .return_, 1) (List.mem_of_getElem? (i := 43) rfl)
        · intro p2 e2 R2 s2 m2 args2 below2 meth2 c2 Q2 C2 kk2
          exact pg_all (pg := 135) (mm_cx (by decide) C2) (Or.inr rfl) sw_cs (by decide +kernel) ha (by omega) hn ha8 hg hP2 hw3 n3 a3 p3 hc3 (fun w lv2 h => kk2 77 w lv2 (by decide) h)
        · intro ws8 hpg
          obtain ⟨hw8, hf8, hc8, v17⟩ := hpg
          have f08 : ai_fr tb_WR7 ws0 ws8 := (f02.tr hf3W).tr (wsub_ok (V := pg_W) (by decide) hf8)
          have l125 : vi ws8 50 125 (swL a E P i j) := hc8.2.2
          have l17 : vi ws8 50 17 (E 17) := (hc.2.2).fr f08 (sw_off (by decide))
          refine hsum (st := (115, [(0, (0, 49, 0, 0)), (1, (1, 5, 0, 0)), (2, (1, 2, 0, 0)), (3, (1, 3, 0, 0)), (4, (1, 0, 0, (i : Int))), (5, (1, 0, 0, (j : Int)))], [], [(0, 0, false, 0, 0), (0, 2555, false, 1, 0), (-999, 999, false, 2, 0), (-4, 77, false, 3, 0), (0, 999, false, 4, 0), (0, 1, false, 5, 0), (0, 999, false, 6, 0)], [(50, 125, (1, 4, 0, 0)), (50, 17, (1, 6, 0, 0))], [])) (List.all_eq_true.mp (List.all_eq_true.mp sw_my j (List.mem_range.mpr (by omega))) i (List.mem_range.mpr (by omega))) rfl C (r := [0, 0, z2.toInt, z3.toInt, swL a E P i j, zw.toInt, E 17]) ⟨en_mk (by simp only [en_b, and_true]; omega) rfl, sb0, ⟨rfl, Or.inl ⟨rfl, ar, ha, rfl⟩, rfl, int_dv (z := zw.toInt) rfl (by omega), rfl, int_dv (z := z2.toInt) rfl (by omega), rfl, int_dv (z := z3.toInt) rfl (by omega), rfl, int_dv (z := 0) rfl (by omega), rfl, int_dv (z := 0) rfl (by omega), trivial⟩, trivial, hw8, kc (l125.kn (n := 4) (t := swL a E P i j) rfl (by omega)) (kc (l17.kn (n := 6) (t := E 17) rfl (by omega)) (k0)), fun _ _ _ _ h => h, fun h => by cases h⟩ (fun x hx r9 lv9 st9 ws9 hx9 hb9 hl9 hs9 hlo9 hsk9 hw9 hV9 hf9 _ => ?_)
          have m2 := nm_x hx9 (k := 2) rfl
          have m4 := nm_x hx9 (k := 4) rfl
          have m6 := nm_x hx9 (k := 6) rfl
          unfold sw_mY at hx
          rcases List.mem_cons.mp hx with rfl | hx
          · skip
            dsimp only at hlo9 hsk9 ⊢
            simp (config := { decide := true }) only [bnd_b, lin_b, lin_q, Nat.reduceAdd, Nat.zero_add, Nat.reduceEqDiff, reduceIte, and_true, Int.add_zero] at hb9 hl9
            obtain ⟨l90, rfl, p90⟩ := lo_ref ha hlo9
            obtain ⟨y91, l91, rfl, d91, p91⟩ := lo_int rfl p90
            obtain ⟨y92, l92, rfl, d92, p92⟩ := lo_int rfl p91
            obtain ⟨y93, l93, rfl, d93, p93⟩ := lo_int rfl p92
            obtain ⟨y94, l94, rfl, d94, p94⟩ := lo_int rfl p93
            obtain ⟨y95, l95, rfl, d95, p95⟩ := lo_int rfl p94
            cases lo_nil p95
            rw [vn_at hx9 (n := 5) (z := zw.toInt) rfl] at d91
            have e91 : zw = y91 := Int32.toInt_inj.mp (by omega)
            subst e91
            rw [vn_at hx9 (n := 2) (z := z2.toInt) rfl] at d92
            rw [vn_at hx9 (n := 3) (z := z3.toInt) rfl] at d93
            rw [vn_at hx9 (n := 0) (z := 0) rfl] at d94
            have e94 : z4 = y94 := Int32.toInt_inj.mp (by omega)
            subst e94
            rw [vn_at hx9 (n := 0) (z := 0) rfl] at d95
            cases hsk9.nil
            refine ih (j + 1) few y92 y93 z4 y95 ws9 (by omega) (by omega) (by omega) (by omega) (by omega) (by omega) (by omega) (by omega) ?_ hw9 (f08.tr (wsub_ok (V := []) (by rfl) hf9))
            rw [← hR, hU]
            rw [if_neg (by omega), show y93.toInt = z3.toInt by omega]
          have hx0 := List.mem_singleton.mp hx
          subst hx0
          dsimp only at hlo9 hsk9 ⊢
          simp (config := { decide := true }) only [bnd_b, lin_b, lin_q, Nat.reduceAdd, Nat.zero_add, Nat.reduceEqDiff, reduceIte, and_true, Int.add_zero] at hb9 hl9
          obtain ⟨l90, rfl, p90⟩ := lo_ref ha hlo9
          obtain ⟨y91, l91, rfl, d91, p91⟩ := lo_int rfl p90
          obtain ⟨y92, l92, rfl, d92, p92⟩ := lo_int rfl p91
          obtain ⟨y93, l93, rfl, d93, p93⟩ := lo_int rfl p92
          obtain ⟨y94, l94, rfl, d94, p94⟩ := lo_int rfl p93
          obtain ⟨y95, l95, rfl, d95, p95⟩ := lo_int rfl p94
          cases lo_nil p95
          rw [vn_at hx9 (n := 5) (z := zw.toInt) rfl] at d91
          have e91 : zw = y91 := Int32.toInt_inj.mp (by omega)
          subst e91
          unfold vn at d92
          dsimp only at d92
          rw [vn_at hx9 (n := 0) (z := 0) rfl] at d93
          rw [vn_at hx9 (n := 0) (z := 0) rfl] at d94
          have e94 : z4 = y94 := Int32.toInt_inj.mp (by omega)
          subst e94
          rw [vn_at hx9 (n := 0) (z := 0) rfl] at d95
          cases hsk9.nil
          refine ih (j + 1) (swL a E P i j) y92 y93 z4 y95 ws9 (by omega) (by omega) (by omega) (by omega) (by omega) (by omega) (by omega) (by omega) ?_ hw9 (f08.tr (wsub_ok (V := []) (by rfl) hf9))
          rw [← hR, hU]
          rw [if_pos (by omega), show y93.toInt = 10 * (i : Int) + (j : Int) by omega]
    · have hja' : j = a := by omega
      have hR : (few, z3.toInt) = RI := by
        rw [← hR]
        exact (if_neg hjn).symm
      refine hsum (st := (48, [(0, (0, 49, 0, 0)), (1, (1, 5, 0, 0)), (2, (1, 2, 0, 0)), (3, (1, 3, 0, 0)), (4, (1, 0, 0, (i : Int))), (5, (1, 0, 0, (j : Int)))], [(1, 0, 0, (j : Int))], [(0, 0, false, 0, 0), (0, 2555, false, 1, 0), (-999, 999, false, 2, 0), (-4, 77, false, 3, 0), (0, (j : Int), false, 4, 0), (0, 1, false, 5, 0)], [(50, 26, (1, 4, 0, 0))], [])) (List.all_eq_true.mp (List.all_eq_true.mp sw_mz j (List.mem_range.mpr (by omega))) i (List.mem_range.mpr (by omega))) rfl C (r := [0, 0, z2.toInt, z3.toInt, (a : Int), zw.toInt]) ⟨en_mk (by simp only [en_b, and_true]; omega) rfl, sb0, ⟨rfl, Or.inl ⟨rfl, ar, ha, rfl⟩, rfl, int_dv (z := zw.toInt) rfl (by omega), rfl, int_dv (z := z2.toInt) rfl (by omega), rfl, int_dv (z := z3.toInt) rfl (by omega), rfl, int_dv (z := 0) rfl (by omega), rfl, int_dv (z := 0) rfl (by omega), trivial⟩, ⟨int_dv (z := 0) rfl (by omega), trivial⟩, hw, kc ((hv3.fr hfr rfl).kn (n := 4) (t := (a : Int)) rfl (by omega)) (k0), fun _ _ _ _ h => h, fun h => by cases h⟩ (fun x hx r1 lv1 st1 ws1 hx1 hb1 hl1 hs1 hlo1 hsk1 hw1 hV1 hf1 _ => ?_)
      have hx9 := List.mem_singleton.mp hx
      subst hx9
      dsimp only at hlo1 hsk1 ⊢
      obtain ⟨l10, rfl, p10⟩ := lo_ref ha hlo1
      obtain ⟨y11, l11, rfl, d11, p11⟩ := lo_int rfl p10
      obtain ⟨y12, l12, rfl, d12, p12⟩ := lo_int rfl p11
      obtain ⟨y13, l13, rfl, d13, p13⟩ := lo_int rfl p12
      obtain ⟨y14, l14, rfl, d14, p14⟩ := lo_int rfl p13
      cases lo_nil p14
      rw [vn_at hx1 (n := 5) (z := zw.toInt) rfl] at d11
      have e11 : zw = y11 := Int32.toInt_inj.mp (by omega)
      subst e11
      rw [vn_at hx1 (n := 2) (z := z2.toInt) rfl] at d12
      have e12 : z2 = y12 := Int32.toInt_inj.mp (by omega)
      subst e12
      rw [vn_at hx1 (n := 3) (z := z3.toInt) rfl] at d13
      have e13 : z3 = y13 := Int32.toInt_inj.mp (by omega)
      subst e13
      rw [vn_at hx1 (n := 0) (z := 0) rfl] at d14
      cases hsk1.nil
      exact kk ws1 few z2 z3 y14 hw1 (hfr.tr (wsub_ok (V := []) (by rfl) hf1)) (by omega) ez2 bfew bz3 hR
theorem sw_mo {ar n a : Nat} {E P : Nat → Int} {R0 : Int × Int} {zw : Int32} {ws0 : va_W} (C : ai_cx tb_m148 10 p R s m args c D tys A b L sx cells slots) (ha : ad[49]? = some ar) (hn : n ≤ 4) (ha8 : a ≤ 8) (hg : good n E) (hP : ∀ j, j < a → P j = 4 ∨ (0 ≤ P j ∧ P j < n)) (hzw : 0 ≤ zw.toInt ∧ zw.toInt ≤ 1) (hv0 : vi ws0 49 1 n) (hv3 : vi ws0 50 26 a) (hp : ∀ j, j < a → vi ws0 50 (18 + j) (P j)) (hc : pev ws0 0 n E)
    (kk : ∀ (pcr : Nat) (ws' : va_W) (z : Int32) (lv' : List (Nat × Value)), pcr ∈ [180] → ai_wd tb_TY ad tys ws' → ai_fr tb_WR7 ws0 ws' → z.toInt = swR R0 zw.toInt (E 17) → hG tb_m148 p l e R s m args below meth c D A cells slots Q pcr lv' [.int z] ws') :
    ∀ (f i : Nat) (few : Int) (z2 z3 z4 : Int32) (ws : va_W), i + f = 9 → i ≤ a → z4.toInt = i → z2.toInt = few - E 17 → (0 ≤ few ∧ few ≤ 999) → (-4 ≤ z3.toInt ∧ z3.toInt ≤ 77) → swO a E P f i few z3.toInt = R0 → ai_wd tb_TY ad tys ws → ai_fr tb_WR7 ws0 ws → hG tb_m148 p l e R s m args below meth c D A cells slots Q 28 [(0, .ref ar), (1, .int zw), (2, .int z2), (3, .int z3), (4, .int z4)] [] ws := by
  have bE := hg.2.2
  intro f
  induction f with
  | zero =>
    intro i few z2 z3 z4 ws hf h4 _ _ _ _ _ _ _
    exact absurd hf (by omega)
  | succ f ih =>
    intro i few z2 z3 z4 ws hf hia ez4 ez2 bfew bz3 hR hw hfr
    refine hildw (j := 4) (x := z4) C (tv_m148.1.1.1 (28, .iload 4, 2) (List.mem_of_getElem? (i := 18) rfl)) (List.mem_of_getElem? (i := 4) rfl) ?_
    by_cases hin : i < a
    · have hU : swO a E P (f + 1) i few z3.toInt = swO a E P f (i + 1) (swI a E P i f (i + 1) few z3.toInt).1 (swI a E P i f (i + 1) few z3.toInt).2 := if_pos hin
      rw [hU] at hR
      refine hsum (st := (30, [(0, (0, 49, 0, 0)), (1, (1, 5, 0, 0)), (2, (1, 2, 0, 0)), (3, (1, 3, 0, 0)), (4, (1, 0, 0, (i : Int)))], [(1, 0, 0, (i : Int))], [(0, 0, false, 0, 0), (0, 2555, false, 1, 0), (-999, 999, false, 2, 0), (-4, 77, false, 3, 0), ((i : Int) + 1, 8, false, 4, 0), (0, 1, false, 5, 0)], [(50, 26, (1, 4, 0, 0))], [])) (List.all_eq_true.mp sw_mh i (List.mem_range.mpr (by omega))) rfl C (r := [0, 0, z2.toInt, z3.toInt, (a : Int), zw.toInt]) ⟨en_mk (by simp only [en_b, and_true]; omega) rfl, sb0, ⟨rfl, Or.inl ⟨rfl, ar, ha, rfl⟩, rfl, int_dv (z := zw.toInt) rfl (by omega), rfl, int_dv (z := z2.toInt) rfl (by omega), rfl, int_dv (z := z3.toInt) rfl (by omega), rfl, int_dv (z := 0) rfl (by omega), trivial⟩, ⟨int_dv (z := 0) rfl (by omega), trivial⟩, hw, kc ((hv3.fr hfr rfl).kn (n := 4) (t := (a : Int)) rfl (by omega)) (k0), fun _ _ _ _ h => h, fun h => by cases h⟩ (fun x hx r1 lv1 st1 ws1 hx1 hb1 hl1 hs1 hlo1 hsk1 hw1 hV1 hf1 _ => ?_)
      have hx9 := List.mem_singleton.mp hx
      subst hx9
      dsimp only at hlo1 hsk1 ⊢
      obtain ⟨l10, rfl, p10⟩ := lo_ref ha hlo1
      obtain ⟨y11, l11, rfl, d11, p11⟩ := lo_int rfl p10
      obtain ⟨y12, l12, rfl, d12, p12⟩ := lo_int rfl p11
      obtain ⟨y13, l13, rfl, d13, p13⟩ := lo_int rfl p12
      obtain ⟨y14, l14, rfl, d14, p14⟩ := lo_int rfl p13
      obtain ⟨y15, l15, rfl, d15, p15⟩ := lo_int rfl p14
      cases lo_nil p15
      rw [vn_at hx1 (n := 5) (z := zw.toInt) rfl] at d11
      have e11 : zw = y11 := Int32.toInt_inj.mp (by omega)
      subst e11
      rw [vn_at hx1 (n := 2) (z := z2.toInt) rfl] at d12
      have e12 : z2 = y12 := Int32.toInt_inj.mp (by omega)
      subst e12
      rw [vn_at hx1 (n := 3) (z := z3.toInt) rfl] at d13
      have e13 : z3 = y13 := Int32.toInt_inj.mp (by omega)
      subst e13
      rw [vn_at hx1 (n := 0) (z := 0) rfl] at d14
      have e14 : z4 = y14 := Int32.toInt_inj.mp (by omega)
      subst e14
      rw [vn_at hx1 (n := 0) (z := 0) rfl] at d15
      cases hsk1.nil
      refine sw_mi (ws0 := ws1) (i := i) (RI := swI a E P i f (i + 1) few z3.toInt) C ha hn ha8 hg hP hzw ((hv0.fr hfr rfl).fr hf1 rfl) ((hv3.fr hfr rfl).fr hf1 rfl) (fun j hj => ((hp j hj).fr hfr (sw_off (by omega))).fr hf1 (nowr_ok (c := 50) rfl _ _)) ((hc.fr hn hfr (fun j hj => sw_off (by omega))).fr hn hf1 (fun _ _ => rfl)) hin (fun ws2 few2 y2 y3 y4 g1 g2 g3 g4 g5 g6 g7 => ?_) f (i + 1) few z2 z3 z4 y15 ws1 (by omega) (by omega) (by omega) (by omega) (by omega) ez2 bfew bz3 rfl hw1 (fun _ _ _ _ h => h)
      refine ih (i + 1) few2 y2 y3 y4 ws2 (by omega) (by omega) (by omega) g4 g5 g6 ?_ g1 ((hfr.tr (wsub_ok (V := []) (by rfl) hf1)).tr g2)
      rw [← hR, ← g7]
    · have hR : (few, z3.toInt) = R0 := by
        rw [← hR]
        exact (if_neg hin).symm
      refine hsum (st := (30, [(0, (0, 49, 0, 0)), (1, (1, 5, 0, 0)), (2, (1, 2, 0, 0)), (3, (1, 3, 0, 0)), (4, (1, 0, 0, (i : Int)))], [(1, 0, 0, (i : Int))], [(0, 0, false, 0, 0), (0, 2555, false, 1, 0), (-999, 999, false, 2, 0), (-4, 77, false, 3, 0), (0, (i : Int), false, 4, 0), (0, 1, false, 5, 0)], [(50, 26, (1, 4, 0, 0))], [])) (List.all_eq_true.mp sw_mx i (List.mem_range.mpr (by omega))) rfl C (r := [0, 0, z2.toInt, z3.toInt, (a : Int), zw.toInt]) ⟨en_mk (by simp only [en_b, and_true]; omega) rfl, sb0, ⟨rfl, Or.inl ⟨rfl, ar, ha, rfl⟩, rfl, int_dv (z := zw.toInt) rfl (by omega), rfl, int_dv (z := z2.toInt) rfl (by omega), rfl, int_dv (z := z3.toInt) rfl (by omega), rfl, int_dv (z := 0) rfl (by omega), trivial⟩, ⟨int_dv (z := 0) rfl (by omega), trivial⟩, hw, kc ((hv3.fr hfr rfl).kn (n := 4) (t := (a : Int)) rfl (by omega)) (k0), fun _ _ _ _ h => h, fun h => by cases h⟩ (fun x hx r1 lv1 st1 ws1 hx1 hb1 hl1 hs1 hlo1 hsk1 hw1 hV1 hf1 _ => ?_)
      have m2 := nm_x hx1 (k := 2) rfl
      have m3 := nm_x hx1 (k := 3) rfl
      have m5 := nm_x hx1 (k := 5) rfl
      unfold sw_mX at hx
      rcases List.mem_cons.mp hx with rfl | hx
      · skip
        dsimp only at hsk1 ⊢
        simp (config := { decide := true }) only [bnd_b, lin_b, lin_q, Nat.reduceAdd, Nat.zero_add, Nat.reduceEqDiff, reduceIte, and_true, Int.add_zero] at hb1 hl1
        obtain ⟨z, rfl, hz9⟩ := sk1 rfl hsk1
        unfold vn at hz9
        dsimp only at hz9
        refine kk 180 ws1 z lv1 (by decide) hw1 (hfr.tr (wsub_ok (V := []) (by rfl) hf1)) ?_
        rw [← hR]
        unfold swR
        dsimp only
        rw [if_pos (by omega)]
        omega
      rcases List.mem_cons.mp hx with rfl | hx
      · skip
        dsimp only at hsk1 ⊢
        simp (config := { decide := true }) only [bnd_b, lin_b, lin_q, Nat.reduceAdd, Nat.zero_add, Nat.reduceEqDiff, reduceIte, and_true, Int.add_zero] at hb1 hl1
        obtain ⟨z, rfl, hz9⟩ := sk1 rfl hsk1
        unfold vn at hz9
        dsimp only at hz9
        refine kk 180 ws1 z lv1 (by decide) hw1 (hfr.tr (wsub_ok (V := []) (by rfl) hf1)) ?_
        rw [← hR]
        unfold swR
        dsimp only
        rw [if_neg (by omega)]
        omega
      have hx0 := List.mem_singleton.mp hx
      subst hx0
      dsimp only at hsk1 ⊢
      simp (config := { decide := true }) only [bnd_b, lin_b, lin_q, Nat.reduceAdd, Nat.zero_add, Nat.reduceEqDiff, reduceIte, and_true, Int.add_zero] at hb1 hl1
      obtain ⟨z, rfl, hz9⟩ := sk1 rfl hsk1
      unfold vn at hz9
      dsimp only at hz9
      refine kk 180 ws1 z lv1 (by decide) hw1 (hfr.tr (wsub_ok (V := []) (by rfl) hf1)) ?_
      rw [← hR]
      unfold swR
      dsimp only
      rw [if_pos (by omega)]
      omega
theorem sw_mdl {ar n a : Nat} {E P : Nat → Int} {zw : Int32} {ws : va_W} (C : ai_cx tb_m148 10 p R s m args c D tys A b L sx cells slots) (ha : ad[49]? = some ar) (hn : n ≤ 4) (ha8 : a ≤ 8) (hg : good n E) (hP : ∀ j, j < a → P j = 4 ∨ (0 ≤ P j ∧ P j < n)) (hzw : 0 ≤ zw.toInt ∧ zw.toInt ≤ 1) (hw : ai_wd tb_TY ad tys ws) (hv0 : vi ws 49 1 n) (hv3 : vi ws 50 26 a) (hp : ∀ j, j < a → vi ws 50 (18 + j) (P j)) (hc : pev ws 0 n E)
    (kk : ∀ (pcr : Nat) (ws' : va_W) (z : Int32) (lv' : List (Nat × Value)), pcr ∈ [180] → ai_wd tb_TY ad tys ws' → ai_fr tb_WR7 ws ws' → z.toInt = swR (swO a E P 9 0 (plE P E a 17) (-4)) zw.toInt (E 17) → hG tb_m148 p l e R s m args below meth c D A cells slots Q pcr lv' [.int z] ws') : hG tb_m148 p l e R s m args below meth c D A cells slots Q 0 [(0, .ref ar), (1, .int zw)] [] ws := by
  refine hsum (st := (0, [(0, (0, 49, 0, 0)), (1, (1, 2, 0, 0))], [], [(0, 0, false, 0, 0), (0, 2555, false, 1, 0), (0, 1, false, 2, 0)], [], [])) sw_m0 rfl C (r := [0, 0, zw.toInt]) ⟨en_mk (by simp only [en_b, and_true]; omega) rfl, sb0, ⟨rfl, Or.inl ⟨rfl, ar, ha, rfl⟩, rfl, int_dv (z := zw.toInt) rfl (by omega), trivial⟩, trivial, hw, k0, fun _ _ _ _ h => h, fun h => by cases h⟩ (fun x hx r1 lv1 st1 ws1 hx1 hb1 hl1 hs1 hlo1 hsk1 hw1 hV1 hf1 _ => ?_)
  have hx9 := List.mem_singleton.mp hx
  subst hx9
  dsimp only at hlo1 hsk1 ⊢
  obtain ⟨l10, rfl, p10⟩ := lo_ref ha hlo1
  obtain ⟨y11, l11, rfl, d11, p11⟩ := lo_int rfl p10
  cases lo_nil p11
  rw [vn_at hx1 (n := 2) (z := zw.toInt) rfl] at d11
  have e11 : zw = y11 := Int32.toInt_inj.mp (by omega)
  subst e11
  obtain ⟨x10, s10, rfl, c10, g10⟩ := hsk1.cons
  obtain ⟨x11, s11, rfl, c11, g11⟩ := g10.cons
  cases g11.nil
  obtain ⟨u10, rfl, w10⟩ := dvn c10 (hx1.at (k := 0) rfl)
  have f11 := ref_of49 ha c11
  subst f11
  refine hcallV (q := (184, 0, 135, 1, 6)) (M' := tb_m135) (cl := 49) (a := ar) (As := [.int u10]) (rest := []) (rets := [77]) (P := pg_P ad tys n a E P ws1) C (by decide) (tv_m148.1.1.1 (14, .invokevirtual 184, 3) (List.mem_of_getElem? (i := 10) rfl)) (tv_m148.2 _ (List.mem_of_getElem? (i := 23) rfl)) rfl rfl rfl rfl (by decide) (Nat.le_of_ble_eq_true rfl) rfl rfl rfl rfl hw1 ha (Nat.le_of_ble_eq_true rfl) ?_ ?_ ?_
  · intro pcr hp
    simp only [List.mem_cons, List.not_mem_nil, or_false] at hp
    rcases hp with rfl
    · exact tv_m135.1.1.1 (77, .return_, 1) (List.mem_of_getElem? (i := 43) rfl)
  · intro p2 e2 R2 s2 m2 args2 below2 meth2 c2 Q2 C2 kk2
    exact pg_all (pg := 0) (mm_cx (by decide) C2) (Or.inl rfl) cs_r7 (by decide +kernel) ha (by omega) hn ha8 hg hP hw1 (hv0.fr hf1 rfl) (hv3.fr hf1 rfl) (fun j hj => (hp j hj).fr hf1 (nowr_ok (c := 50) rfl _ _)) (hc.fr hn hf1 (fun _ _ => rfl)) (fun w lv2 h => kk2 77 w lv2 (by decide) h)
  · intro ws4 hpg
    obtain ⟨hw4, hf4, hc4, v17⟩ := hpg
    have hg4 := plE_g hn hg hP a (Nat.le_refl _)
    have bG := hg4.2.2
    have bE := hg.2.2
    have f04 : ai_fr tb_WR7 ws ws4 := (wsub_ok (V := []) (by rfl) hf1).tr (wsub_ok (V := pg_W) (by decide) hf4)
    have l125 : vi ws4 50 125 (plE P E a 17) := hc4.2.2
    have l17 : vi ws4 50 17 (E 17) := hc.2.2.fr f04 (sw_off (by decide))
    refine hsum (st := (17, [(0, (0, 49, 0, 0)), (1, (1, 2, 0, 0))], [], [(0, 0, false, 0, 0), (0, 2555, false, 1, 0), (0, 1, false, 2, 0), (0, 999, false, 3, 0), (0, 999, false, 4, 0)], [(50, 125, (1, 3, 0, 0)), (50, 17, (1, 4, 0, 0))], [])) sw_m1 rfl C (r := [0, 0, zw.toInt, plE P E a 17, E 17]) ⟨en_mk (by simp only [en_b, and_true]; omega) rfl, sb0, ⟨rfl, Or.inl ⟨rfl, ar, ha, rfl⟩, rfl, int_dv (z := zw.toInt) rfl (by omega), trivial⟩, trivial, hw4, kc (l125.kn (n := 3) (t := plE P E a 17) rfl (by omega)) (kc (l17.kn (n := 4) (t := E 17) rfl (by omega)) (k0)), fun _ _ _ _ h => h, fun h => by cases h⟩ (fun x hx r7 lv7 st7 ws7 hx7 hb7 hl7 hs7 hlo7 hsk7 hw7 hV7 hf7 _ => ?_)
    have hx9 := List.mem_singleton.mp hx
    subst hx9
    dsimp only at hlo7 hsk7 ⊢
    have m3 := nm_x hx7 (k := 3) rfl
    have m4 := nm_x hx7 (k := 4) rfl
    simp (config := { decide := true }) only [bnd_b, lin_b, lin_q, Nat.reduceAdd, Nat.zero_add, Nat.reduceEqDiff, reduceIte, and_true, Int.add_zero] at hb7 hl7
    obtain ⟨l70, rfl, p70⟩ := lo_ref ha hlo7
    obtain ⟨y71, l71, rfl, d71, p71⟩ := lo_int rfl p70
    obtain ⟨y72, l72, rfl, d72, p72⟩ := lo_int rfl p71
    obtain ⟨y73, l73, rfl, d73, p73⟩ := lo_int rfl p72
    obtain ⟨y74, l74, rfl, d74, p74⟩ := lo_int rfl p73
    cases lo_nil p74
    rw [vn_at hx7 (n := 2) (z := zw.toInt) rfl] at d71
    have e71 : zw = y71 := Int32.toInt_inj.mp (by omega)
    subst e71
    unfold vn at d72
    dsimp only at d72
    rw [vn_at hx7 (n := 0) (z := 0) rfl] at d73
    rw [vn_at hx7 (n := 0) (z := 0) rfl] at d74
    cases hsk7.nil
    exact sw_mo (ws0 := ws) C ha hn ha8 hg hP hzw hv0 hv3 hp hc kk 9 0 (plE P E a 17) y72 y73 y74 ws7 rfl (Nat.zero_le _) (by omega) (by omega) (by omega) (by omega) (by rw [show y73.toInt = -4 by omega]) hw7 (f04.tr (wsub_ok (V := []) (by rfl) hf7))
end XS1
theorem sw9_n : ((ai_ex (hk []) 300 169 tb_m169 11 [1297] (696, lw_lo, [], lw_eb (-2147483648) (-1), [], [])).any fun xs => xs.all lw_un) = true := by decide +kernel
theorem sw9_o : ((ai_ex (hk []) 300 169 tb_m169 11 [1297] (696, lw_lo, [], lw_eb 2 2147483647, [], [])).any fun xs => xs.all lw_un) = true := by decide +kernel
section XS2
variable {ad : List Nat} {M : ai_m} {d : Nat} {p : Program} {l : Launch} {e : Env} {R : Room} {s : State} {m : MethodId} {args : Array Value} {below : List Frame} {meth : Method} {c : Code} {D : va_G} {tys : ai_ty} {A : Nat → Prop} {b L : Nat} {sx : Nat → Int32} {cells slots : Nat} {Q : State → Prop}
set_option maxRecDepth 20000 in
theorem lw_swap {i q0 q49 : Nat} {ws : va_W} (C : ai_cx tb_m169 11 p R s m args c D tys A b L sx cells slots) (e0 : ad[0]? = some q0) (e49 : ad[49]? = some q49) (hi : i + 5 ≤ L) (hL : L ≤ 2560) (hw : ai_wd tb_TY ad tys ws) (hI : Inv ws)
    (k : ∀ wc, ai_wd tb_TY ad tys wc → Inv wc → hG tb_m169 p l e R s m args below meth c D A cells slots Q 1297 [(0, .ref b), (1, .ref q0), (2, .ref q49), (3, .int (nI i))] [] wc) : hG tb_m169 p l e R s m args below meth c D A cells slots Q 696 [(0, .ref b), (1, .ref q0), (2, .ref q49), (3, .int (nI i))] [] ws := by
  have b0 := ai_irg (sx i)
  have b1 := ai_irg (sx (i + 1))
  have b2 := ai_irg (sx (i + 2))
  have b3 := ai_irg (sx (i + 3))
  have b4 := ai_irg (sx (i + 4))
  obtain ⟨t, g, u, q, y, n, j0, j1, E, a, P, hb, hp, hi0, hi1, hs⟩ := id hI
  obtain ⟨hn1, hn2, hn4⟩ := hb.2.2.2.2.1
  obtain ⟨hc, he, hg⟩ := hp.1
  obtain ⟨p3, p26, p8⟩ := hp.2.1
  have hP : ∀ j, j < a → P j = 4 ∨ (0 ≤ P j ∧ P j < n) := fun j hj => (hp.2.2 j hj).2.2
  obtain ⟨a1, -, -, e1, -⟩ := hw.get (c := 1) rfl
  obtain ⟨a7, -, -, e7, -⟩ := hw.get (c := 7) rfl
  by_cases h1 : (sx (i + 1)).toInt < 0
  · exact lw_no (rr := []) C e0 e49 hi hL hw hI sw9_n (en_mk (by simp only [lw_r, lw_eb, List.append_nil, en_b, and_true]; omega) rfl) sb0 k0 k
  by_cases h2 : 1 < (sx (i + 1)).toInt
  · exact lw_no (rr := []) C e0 e49 hi hL hw hI sw9_o (en_mk (by simp only [lw_r, lw_eb, List.append_nil, en_b, and_true]; omega) rfl) sb0 k0 k
  have hzw : 0 ≤ (sx (i + 1)).toInt ∧ (sx (i + 1)).toInt ≤ 1 := by omega
  refine law2 (P1 := fun w z1 => ai_wd tb_TY ad tys w ∧ ai_fr tb_WR7 ws w ∧ z1.toInt = swR (swO a E P 9 0 (plE P E a 17) (-4)) (sx (i + 1)).toInt (E 17)) (P2 := fun wa _ w z1 => ai_wd tb_TY ad tys w ∧ ai_fr tb_WR7 wa w ∧ z1.toInt = swR (swO a E P 9 0 (plE P E a 17) (-4)) (sx (i + 1)).toInt (E 17)) (rets1 := [125, 135]) (rets2 := [180]) C e0 e49 hi hL hw (n := 1) (cmp := true) (by decide) lr_swapA lr_swapB lr_swapC (q1 := (97, 0, 72, 1, 5)) (tv_m169.1.1.1 (702, .invokevirtual 97, 3) (List.mem_of_getElem? (i := 408) rfl)) (tv_m169.2 _ (List.mem_of_getElem? (i := 40) rfl)) rfl rfl rfl rfl (by decide) (Nat.le_of_ble_eq_true rfl) rfl rfl (q2 := (100, 0, 148, 1, 6)) (tv_m169.1.1.1 (711, .invokevirtual 100, 3) (List.mem_of_getElem? (i := 415) rfl)) (tv_m169.2 _ (List.mem_of_getElem? (i := 41) rfl)) rfl rfl rfl rfl (by decide) (Nat.le_of_ble_eq_true rfl) rfl rfl ?_ ?_ ?_ (fun wa z1 h => h.1) ?_ (fun wa z1 wb z2 h1 h2 => ⟨h2.1, fun _ => Int32.toInt_inj.mp (by rw [h1.2.2, h2.2.2])⟩) (fun wa z1 wb z2 wc h1 h2 hwc hf => k wc hwc (hI.rd hwc ((h1.2.1.tr h2.2.1).tr (wsub_ok (V := []) (by rfl) hf))))
  · intro pcr hpc
    simp only [List.mem_cons, List.not_mem_nil, or_false] at hpc
    rcases hpc with rfl | rfl
    · exact tv_m72.1.1.1 (125, .ireturn, 1) (List.mem_of_getElem? (i := 64) rfl)
    · exact tv_m72.1.1.1 (135, .ireturn, 1) (List.mem_of_getElem? (i := 70) rfl)
  · intro pcr hpc
    rw [List.mem_singleton.mp hpc]
    exact tv_m148.1.1.1 (180, .ireturn, 1) (List.mem_of_getElem? (i := 98) rfl)
  · intro p e R s m args below meth c Q w hw' hf C2 kk
    exact sw_cls C2 e0 e1 e7 hn4 p8 hg hP hzw hw' (hn1.fr hf rfl) (p3.fr hf rfl) (fun j hj => (hp.2.2 j hj).1.fr hf (nowr_ok (c := 6) rfl _ _)) (hc.fr hf rfl) (fun pcr w' z lv hpr g1 g2 g3 => kk pcr w' z lv hpr ⟨g1, (wsub_ok (V := []) (by rfl) hf).tr g2, g3⟩)
  · intro p e R s m args below meth c Q wa z1 w hP1 hw' hf C2 kk
    have hfa : ai_fr tb_WR7 ws w := hP1.2.1.tr (wsub_ok (V := []) (by rfl) hf)
    exact sw_mdl C2 e49 hn4 p8 hg hP hzw hw' (hn2.fr hfa rfl) (p26.fr hfa rfl) (fun j hj => (hp.2.2 j hj).2.1.fr hfa (sw_off (by omega))) (he.fr hn4 hfa (fun j hj => sw_off (by omega))) (fun pcr w' z lv hpr g1 g2 g3 => kk pcr w' z lv hpr ⟨g1, (wsub_ok (V := []) (by rfl) hf).tr g2, g3⟩)
end XS2
