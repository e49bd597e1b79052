theorem lr_unmaskA : lw_A 719 725 1 = true := by decide +kernel
theorem lr_unmaskB : lw_B 725 734 1 true = true := by decide +kernel
theorem lr_unmaskC : lw_C 734 true = true := by decide +kernel
/-! unmask, compared -/
def mvF (n a : Nat) (E P : Nat → Int) : Int := sumF (fun i => plE P E a (8 + i)) n 5 0 0
def umF (n a : Nat) (E P : Nat → Int) : Nat → Nat → Int → Int → Int × Int
  | 0, _, most, found => (most, found)
  | f + 1, t, most, found => if t < n then (if most < mvF n a (ev_up E t 0) P then umF n a E P f (t + 1) (mvF n a (ev_up E t 0) P) (t : Int) else umF n a E P f (t + 1) most found) else (most, found)
def umR (R : Int × Int) (w : Int) : Int := if R.2 = -4 ∨ w = 0 then R.2 else R.1
theorem um_off {j : Nat} (hj : j < 81) : ai_wr tb_WR7 50 j j = false := wr_no fun q hq => by
  unfold tb_WR7 at hq
  simp only [List.mem_cons, List.not_mem_nil, or_false] at hq
  rcases hq with rfl | rfl | rfl | rfl | rfl | rfl | rfl | rfl | rfl | rfl <;> dsimp only <;> omega
theorem um_cp {ad : List Nat} {tys : ai_ty} {ws ws' : va_W} {j : Nat} {z : Int} (h : cs_P ad tys 0 135 ws ws') (hj : j < 27) (hz : vi ws 50 j z) : vi ws' 50 (j + 135) z := by
  have h1 := h.2.2 j z hj (by rw [Nat.zero_add]; exact hz)
  rw [Nat.add_comm] at h1
  exact h1
theorem um_pev {ad : List Nat} {tys : ai_ty} {ws ws' : va_W} {n : Nat} {E : Nat → Int} (hn : n ≤ 4) (h : cs_P ad tys 0 135 ws ws') (hc : pev ws 0 n E) : pev ws' 135 n E := by
  refine ⟨fun i hi => ?_, um_cp h (by decide) hc.2.1, um_cp h (by decide) hc.2.2⟩
  obtain ⟨x1, x2, x3, x4⟩ := hc.1 i hi
  exact ⟨um_cp h (by omega) x1, um_cp h (by omega) x2, um_cp h (by omega) x3, um_cp h (by omega) x4⟩
theorem um_good {n t : Nat} {E : Nat → Int} (hn : n ≤ 4) (hg : good n E) (ht : t < n) : good n (ev_up E t 0) := by
  refine ⟨fun i hi => ?_, by rw [ev_up_ne (by omega)]; exact hg.2.1, by rw [ev_up_ne (by omega)]; exact hg.2.2⟩
  have hgi := hg.1 i hi
  rw [ev_up_ne (j := 4 + i) (by omega), ev_up_ne (j := 8 + i) (by omega), ev_up_ne (j := 12 + i) (by omega)]
  by_cases hit : i = t
  · rw [hit, ev_up_at]
    rw [hit] at hgi
    exact ⟨by omega, hgi.2⟩
  · rw [ev_up_ne hit]
    exact hgi
theorem um_cs : cs_r 135 108 = true := by decide +kernel
theorem um_a : ((List.range 4).all fun t => (ai_ex (hk []) 300 75 tb_m75 9 [8] (0, [(0, (0, 0, 0, 0)), (1, (1, 0, 0, (t : Int)))], [], [(0, 0, false, 0, 0), (0, 2555, false, 1, 0)], [], [])).any fun xs => xs.all fun x => ([(8, [(0, (0, 0, 0, 0)), (1, (1, 0, 0, (t : Int)))], [(0, 1, 0, 0), (0, 7, 0, 0)], [], [(0, 0, false, 0, 0), (0, 2555, false, 1, 0)], [])] : List sm_t).any fun y => sm_is [] x y) = true := by decide +kernel
theorem um_b : ((List.range 4).all fun t => (ai_ex (hk [(8, t, t + 1)]) 300 75 tb_m75 9 [25] (11, [(0, (0, 0, 0, 0)), (1, (1, 0, 0, (t : Int)))], [], [(0, 0, false, 0, 0), (0, 2555, false, 1, 0)], [], [])).any fun xs => xs.all fun x => ([(25, [(0, (0, 0, 0, 0)), (1, (1, 0, 0, (t : Int)))], [(0, 7, 0, 0)], [(1, 0, 0, 0)], [(0, 0, false, 0, 0), (0, 2555, false, 1, 0)], [])] : List sm_t).any fun y => sm_is [(8, t)] x y) = true := by decide +kernel
theorem um_c : ((List.range 4).all fun t => (ai_ex (hk []) 300 75 tb_m75 9 [33] (28, [(0, (0, 0, 0, 0)), (1, (1, 0, 0, (t : Int)))], [(1, 2, 0, 0)], [(0, 0, false, 0, 0), (0, 2555, false, 1, 0), (-4, 7, false, 2, 0)], [], [])).any fun xs => xs.all fun x => ([(33, [(0, (0, 0, 0, 0)), (1, (1, 0, 0, (t : Int)))], [(0, 7, 0, 0)], [], [(0, 0, false, 0, 0), (0, 2555, false, 1, 0), (-4, 7, false, 2, 0)], [])] : List sm_t).any fun y => sm_is [] x y) = true := by decide +kernel
def um_cX (t : Nat) : List sm_t := [(97, [], [(1, 3, 0, 0)], [], [(0, 0, false, 0, 0), (0, 2555, false, 1, 0), (-2147483648, 2147483647, false, 2, 0), (-4, -4, false, 3, 0), (0, (t : Int), false, 4, 0), (0, 1, false, 5, 0)], []), (97, [], [(1, 2, 0, 0)], [], [(0, 0, false, 0, 0), (0, 2555, false, 1, 0), (-2147483648, 2147483647, false, 2, 0), (-3, 3, false, 3, 0), (0, (t : Int), false, 4, 0), (1, 1, false, 5, 0)], [(140, 5, 0, 5, 0), (140, 3, 0, 3, -4)]), (97, [], [(1, 3, 0, 0)], [], [(0, 0, false, 0, 0), (0, 2555, false, 1, 0), (-2147483648, 2147483647, false, 2, 0), (-3, 3, false, 3, 0), (0, (t : Int), false, 4, 0), (0, 0, false, 5, 0)], [(140, 3, 0, 3, -4)])]
def um_cY (t : Nat) : List sm_t := [(44, [(0, (0, 0, 0, 0)), (1, (1, 5, 0, 0)), (2, (1, 2, 0, 0)), (3, (1, 3, 0, 0)), (4, (1, 0, 0, (t : Int) + 1))], [], [], [(0, 0, false, 0, 0), (0, 2555, false, 1, 0), (-2147483648, 2147483647, false, 2, 0), (-4, 3, false, 3, 0), (-2147483648, 2147483647, false, 4, 0), (0, 1, false, 5, 0)], [(4, 4, 2, 4, 1)]), (44, [(0, (0, 0, 0, 0)), (1, (1, 5, 0, 0)), (2, (1, 4, 0, 0)), (3, (1, 0, 0, (t : Int))), (4, (1, 0, 0, (t : Int) + 1))], [], [], [(0, 0, false, 0, 0), (0, 2555, false, 1, 0), (-2147483648, 2147483646, false, 2, 0), (-4, 3, false, 3, 0), (-2147483647, 2147483647, false, 4, 0), (0, 1, false, 5, 0)], [(5, 4, 2, 4, 1)])]
def um_mX (t : Nat) : List sm_t := [(121, [], [(1, 3, 0, 0)], [], [(0, 0, false, 0, 0), (0, 2555, false, 1, 0), (-2147483648, 2147483647, false, 2, 0), (-4, -4, false, 3, 0), (0, (t : Int), false, 4, 0), (0, 1, false, 5, 0)], []), (121, [], [(1, 2, 0, 0)], [], [(0, 0, false, 0, 0), (0, 2555, false, 1, 0), (-2147483648, 2147483647, false, 2, 0), (-3, 3, false, 3, 0), (0, (t : Int), false, 4, 0), (1, 1, false, 5, 0)], [(140, 5, 0, 5, 0), (140, 3, 0, 3, -4)]), (121, [], [(1, 3, 0, 0)], [], [(0, 0, false, 0, 0), (0, 2555, false, 1, 0), (-2147483648, 2147483647, false, 2, 0), (-3, 3, false, 3, 0), (0, (t : Int), false, 4, 0), (0, 0, false, 5, 0)], [(140, 3, 0, 3, -4)])]
def um_mY (t : Nat) : List sm_t := [(30, [(0, (0, 49, 0, 0)), (1, (1, 5, 0, 0)), (2, (1, 2, 0, 0)), (3, (1, 3, 0, 0)), (4, (1, 0, 0, (t : Int) + 1))], [], [], [(0, 0, false, 0, 0), (0, 2555, false, 1, 0), (-2147483648, 2147483647, false, 2, 0), (-4, 3, false, 3, 0), (-2147483648, 2147483647, false, 4, 0), (0, 1, false, 5, 0)], [(4, 4, 2, 4, 1), (4, 4, 2, 4, 1)]), (30, [(0, (0, 49, 0, 0)), (1, (1, 5, 0, 0)), (2, (1, 4, 0, 0)), (3, (1, 0, 0, (t : Int))), (4, (1, 0, 0, (t : Int) + 1))], [], [], [(0, 0, false, 0, 0), (0, 2555, false, 1, 0), (-2147483648, 2147483646, false, 2, 0), (-4, 3, false, 3, 0), (-2147483647, 2147483647, false, 4, 0), (0, 1, false, 5, 0)], [(5, 4, 2, 4, 1), (5, 4, 2, 4, 1)])]
theorem um_cg : ((List.range 4).all fun t => (ai_ex (hk []) 300 74 tb_m74 10 [59] (46, [(0, (0, 0, 0, 0)), (1, (1, 5, 0, 0)), (2, (1, 2, 0, 0)), (3, (1, 3, 0, 0)), (4, (1, 0, 0, (t : Int)))], [(1, 0, 0, (t : Int))], [(0, 0, false, 0, 0), (0, 2555, false, 1, 0), (-2147483648, 2147483647, false, 2, 0), (-4, 3, false, 3, 0), ((t : Int) + 1, 4, false, 4, 0), (0, 1, false, 5, 0)], [(1, 0, (1, 4, 0, 0))], [])).any fun xs => xs.all fun x => ([(59, [(0, (0, 0, 0, 0)), (1, (1, 5, 0, 0)), (2, (1, 2, 0, 0)), (3, (1, 3, 0, 0)), (4, (1, 0, 0, (t : Int)))], [(1, 0, 0, (t : Int)), (0, 0, 0, 0)], [], [(0, 0, false, 0, 0), (0, 2555, false, 1, 0), (-2147483648, 2147483647, false, 2, 0), (-4, 3, false, 3, 0), ((t : Int) + 1, 4, false, 4, 0), (0, 1, false, 5, 0)], [])] : List sm_t).any fun y => sm_is [] x y) = true := by decide +kernel
theorem um_cy : ((List.range 4).all fun t => (ai_ex (hk []) 300 74 tb_m74 10 [44] (62, [(0, (0, 0, 0, 0)), (1, (1, 5, 0, 0)), (2, (1, 2, 0, 0)), (3, (1, 3, 0, 0)), (4, (1, 0, 0, (t : Int)))], [(1, 4, 0, 0)], [(0, 0, false, 0, 0), (0, 2555, false, 1, 0), (-2147483648, 2147483647, false, 2, 0), (-4, 3, false, 3, 0), (-2147483648, 2147483647, false, 4, 0), (0, 1, false, 5, 0)], [], [])).any fun xs => xs.all fun x => (um_cY t : List sm_t).any fun y => sm_is [] x y) = true := by decide +kernel
theorem um_cx : ((List.range 5).all fun t => (ai_ex (hk []) 300 74 tb_m74 10 [59] (46, [(0, (0, 0, 0, 0)), (1, (1, 5, 0, 0)), (2, (1, 2, 0, 0)), (3, (1, 3, 0, 0)), (4, (1, 0, 0, (t : Int)))], [(1, 0, 0, (t : Int))], [(0, 0, false, 0, 0), (0, 2555, false, 1, 0), (-2147483648, 2147483647, false, 2, 0), (-4, 3, false, 3, 0), (0, (t : Int), false, 4, 0), (0, 1, false, 5, 0)], [(1, 0, (1, 4, 0, 0))], [])).any fun xs => xs.all fun x => (um_cX t : List sm_t).any fun y => sm_is [] x y) = true := by decide +kernel
theorem um_c0 : ((ai_ex (hk []) 300 74 tb_m74 10 [19] (0, [(0, (0, 0, 0, 0)), (1, (1, 2, 0, 0))], [], [(0, 0, false, 0, 0), (0, 2555, false, 1, 0), (0, 1, false, 2, 0)], [], [])).any fun xs => xs.all fun x => ([(19, [(0, (0, 0, 0, 0)), (1, (1, 2, 0, 0))], [(0, 1, 0, 0), (0, 7, 0, 0)], [], [(0, 0, false, 0, 0), (0, 2555, false, 1, 0), (0, 1, false, 2, 0)], [])] : List sm_t).any fun y => sm_is [] x y) = true := by decide +kernel
theorem um_c1 : ((ai_ex (hk []) 300 74 tb_m74 10 [26] (22, [(0, (0, 0, 0, 0)), (1, (1, 2, 0, 0))], [], [(0, 0, false, 0, 0), (0, 2555, false, 1, 0), (0, 1, false, 2, 0)], [], [])).any fun xs => xs.all fun x => ([(26, [(0, (0, 0, 0, 0)), (1, (1, 2, 0, 0))], [(0, 7, 0, 0)], [], [(0, 0, false, 0, 0), (0, 2555, false, 1, 0), (0, 1, false, 2, 0)], [])] : List sm_t).any fun y => sm_is [] x y) = true := by decide +kernel
theorem um_c2 : ((ai_ex (hk []) 300 74 tb_m74 10 [34] (29, [(0, (0, 0, 0, 0)), (1, (1, 2, 0, 0))], [(1, 3, 0, 0)], [(0, 0, false, 0, 0), (0, 2555, false, 1, 0), (0, 1, false, 2, 0), (-4, 7, false, 3, 0)], [], [])).any fun xs => xs.all fun x => ([(34, [(0, (0, 0, 0, 0)), (1, (1, 2, 0, 0))], [(0, 7, 0, 0)], [], [(0, 0, false, 0, 0), (0, 2555, false, 1, 0), (0, 1, false, 2, 0), (-4, 7, false, 3, 0)], [])] : List sm_t).any fun y => sm_is [] x y) = true := by decide +kernel
theorem um_c3 : ((ai_ex (hk []) 300 74 tb_m74 10 [44] (37, [(0, (0, 0, 0, 0)), (1, (1, 2, 0, 0))], [(1, 3, 0, 0)], [(0, 0, false, 0, 0), (0, 2555, false, 1, 0), (0, 1, false, 2, 0), (-2147483648, 2147483647, false, 3, 0)], [], [])).any fun xs => xs.all fun x => ([(44, [(0, (0, 0, 0, 0)), (1, (1, 2, 0, 0)), (2, (1, 3, 0, 0)), (3, (1, 0, 0, -4)), (4, (1, 0, 0, 0))], [], [], [(0, 0, false, 0, 0), (0, 2555, false, 1, 0), (0, 1, false, 2, 0), (-2147483648, 2147483647, false, 3, 0)], [])] : List sm_t).any fun y => sm_is [] x y) = true := by decide +kernel
theorem um_mg : ((List.range 4).all fun t => (ai_ex (hk []) 300 149 tb_m149 10 [44] (32, [(0, (0, 49, 0, 0)), (1, (1, 5, 0, 0)), (2, (1, 2, 0, 0)), (3, (1, 3, 0, 0)), (4, (1, 0, 0, (t : Int)))], [(1, 0, 0, (t : Int))], [(0, 0, false, 0, 0), (0, 2555, false, 1, 0), (-2147483648, 2147483647, false, 2, 0), (-4, 3, false, 3, 0), ((t : Int) + 1, 4, false, 4, 0), (0, 1, false, 5, 0)], [(49, 1, (1, 4, 0, 0))], [])).any fun xs => xs.all fun x => ([(44, [(0, (0, 49, 0, 0)), (1, (1, 5, 0, 0)), (2, (1, 2, 0, 0)), (3, (1, 3, 0, 0)), (4, (1, 0, 0, (t : Int)))], [(1, 0, 0, 135), (1, 0, 0, 0), (0, 49, 0, 0)], [], [(0, 0, false, 0, 0), (0, 2555, false, 1, 0), (-2147483648, 2147483647, false, 2, 0), (-4, 3, false, 3, 0), ((t : Int) + 1, 4, false, 4, 0), (0, 1, false, 5, 0)], [])] : List sm_t).any fun y => sm_is [] x y) = true := by decide +kernel
theorem um_mh : ((List.range 4).all fun t => (ai_ex (hk [(50, 135 + t, 136 + t)]) 300 149 tb_m149 10 [63] (47, [(0, (0, 49, 0, 0)), (1, (1, 4, 0, 0)), (2, (1, 2, 0, 0)), (3, (1, 3, 0, 0)), (4, (1, 0, 0, (t : Int)))], [], [(0, 0, false, 0, 0), (0, 2555, false, 1, 0), (-2147483648, 2147483647, false, 2, 0), (-4, 3, false, 3, 0), (0, 1, false, 4, 0)], [], [])).any fun xs => xs.all fun x => ([(63, [(0, (0, 49, 0, 0)), (1, (1, 4, 0, 0)), (2, (1, 2, 0, 0)), (3, (1, 3, 0, 0)), (4, (1, 0, 0, (t : Int)))], [(1, 0, 0, 135), (0, 49, 0, 0)], [(1, 0, 0, 0)], [(0, 0, false, 0, 0), (0, 2555, false, 1, 0), (-2147483648, 2147483647, false, 2, 0), (-4, 3, false, 3, 0), (0, 1, false, 4, 0)], [])] : List sm_t).any fun y => sm_is [(50, 135 + t)] x y) = true := by decide +kernel
theorem um_mi : ((List.range 4).all fun t => (ai_ex (hk []) 300 149 tb_m149 10 [69] (66, [(0, (0, 49, 0, 0)), (1, (1, 4, 0, 0)), (2, (1, 2, 0, 0)), (3, (1, 3, 0, 0)), (4, (1, 0, 0, (t : Int)))], [], [(0, 0, false, 0, 0), (0, 2555, false, 1, 0), (-2147483648, 2147483647, false, 2, 0), (-4, 3, false, 3, 0), (0, 1, false, 4, 0)], [], [])).any fun xs => xs.all fun x => ([(69, [(0, (0, 49, 0, 0)), (1, (1, 4, 0, 0)), (2, (1, 2, 0, 0)), (3, (1, 3, 0, 0)), (4, (1, 0, 0, (t : Int)))], [(1, 0, 0, 108), (0, 49, 0, 0)], [], [(0, 0, false, 0, 0), (0, 2555, false, 1, 0), (-2147483648, 2147483647, false, 2, 0), (-4, 3, false, 3, 0), (0, 1, false, 4, 0)], [])] : List sm_t).any fun y => sm_is [] x y) = true := by decide +kernel
theorem um_my : ((List.range 4).all fun t => (ai_ex (hk []) 300 149 tb_m149 10 [30] (72, [(0, (0, 49, 0, 0)), (1, (1, 5, 0, 0)), (2, (1, 2, 0, 0)), (3, (1, 3, 0, 0)), (4, (1, 0, 0, (t : Int)))], [(1, 4, 0, 0)], [(0, 0, false, 0, 0), (0, 2555, false, 1, 0), (-2147483648, 2147483647, false, 2, 0), (-4, 3, false, 3, 0), (-2147483648, 2147483647, false, 4, 0), (0, 1, false, 5, 0)], [], [])).any fun xs => xs.all fun x => (um_mY t : List sm_t).any fun y => sm_is [] x y) = true := by decide +kernel
theorem um_mx : ((List.range 5).all fun t => (ai_ex (hk []) 300 149 tb_m149 10 [44] (32, [(0, (0, 49, 0, 0)), (1, (1, 5, 0, 0)), (2, (1, 2, 0, 0)), (3, (1, 3, 0, 0)), (4, (1, 0, 0, (t : Int)))], [(1, 0, 0, (t : Int))], [(0, 0, false, 0, 0), (0, 2555, false, 1, 0), (-2147483648, 2147483647, false, 2, 0), (-4, 3, false, 3, 0), (0, (t : Int), false, 4, 0), (0, 1, false, 5, 0)], [(49, 1, (1, 4, 0, 0))], [])).any fun xs => xs.all fun x => (um_mX t : List sm_t).any fun y => sm_is [] x y) = true := by decide +kernel
theorem um_m0 : ((ai_ex (hk []) 300 149 tb_m149 10 [14] (0, [(0, (0, 49, 0, 0)), (1, (1, 2, 0, 0))], [], [(0, 0, false, 0, 0), (0, 2555, false, 1, 0), (0, 1, false, 2, 0)], [], [])).any fun xs => xs.all fun x => ([(14, [(0, (0, 49, 0, 0)), (1, (1, 2, 0, 0))], [(1, 0, 0, 0), (0, 49, 0, 0)], [], [(0, 0, false, 0, 0), (0, 2555, false, 1, 0), (0, 1, false, 2, 0)], [])] : List sm_t).any fun y => sm_is [] x y) = true := by decide +kernel
theorem um_m1 : ((ai_ex (hk []) 300 149 tb_m149 10 [20] (17, [(0, (0, 49, 0, 0)), (1, (1, 2, 0, 0))], [], [(0, 0, false, 0, 0), (0, 2555, false, 1, 0), (0, 1, false, 2, 0)], [], [])).any fun xs => xs.all fun x => ([(20, [(0, (0, 49, 0, 0)), (1, (1, 2, 0, 0))], [(1, 0, 0, 108), (0, 49, 0, 0)], [], [(0, 0, false, 0, 0), (0, 2555, false, 1, 0), (0, 1, false, 2, 0)], [])] : List sm_t).any fun y => sm_is [] x y) = true := by decide +kernel
theorem um_m3 : ((ai_ex (hk []) 300 149 tb_m149 10 [30] (23, [(0, (0, 49, 0, 0)), (1, (1, 2, 0, 0))], [(1, 3, 0, 0)], [(0, 0, false, 0, 0), (0, 2555, false, 1, 0), (0, 1, false, 2, 0), (-2147483648, 2147483647, false, 3, 0)], [], [])).any fun xs => xs.all fun x => ([(30, [(0, (0, 49, 0, 0)), (1, (1, 2, 0, 0)), (2, (1, 3, 0, 0)), (3, (1, 0, 0, -4)), (4, (1, 0, 0, 0))], [], [], [(0, 0, false, 0, 0), (0, 2555, false, 1, 0), (0, 1, false, 2, 0), (-2147483648, 2147483647, false, 3, 0)], [])] : List sm_t).any fun y => sm_is [] x y) = true := by decide +kernel
section XU1
variable {ad : List Nat} {M : ai_m} {d : Nat} {p : Program} {l : Launch} {e : Env} {R : Room} {s : State} {m : MethodId} {args : Array Value} {below : List Frame} {meth : Method} {c : Code} {D : va_G} {tys : ai_ty} {A : Nat → Prop} {b L : Nat} {sx : Nat → Int32} {cells slots : Nat} {Q : State → Prop}
theorem um_one {a0 a1 a7 n a t : Nat} {E P : Nat → Int} {zt : Int32} {ws : va_W} (C : ai_cx tb_m75 9 p R s m args c D tys A b L sx cells slots) (ha0 : ad[0]? = some a0) (ha1 : ad[1]? = some a1) (ha7 : ad[7]? = some a7) (hn : n ≤ 4) (ha8 : a ≤ 8) (hg : good n E) (hP : ∀ j, j < a → P j = 4 ∨ (0 ≤ P j ∧ P j < n)) (ht : t < n) (et : zt.toInt = t) (hw : ai_wd tb_TY ad tys ws) (hv0 : vi ws 1 0 n) (hv3 : vi ws 1 3 a) (hp : ∀ j, j < a → vi ws 6 j (P j)) (hc : cev ws 1 n E)
    (kk : ∀ (ws' : va_W) (z : Int32) (lv' : List (Nat × Value)), ai_wd tb_TY ad tys ws' → ai_fr tb_WR7 ws ws' → z.toInt = mvF n a (ev_up E t 0) P → hG tb_m75 p l e R s m args below meth c D A cells slots Q 36 lv' [.int z] ws') : hG tb_m75 p l e R s m args below meth c D A cells slots Q 0 [(0, .ref a0), (1, .int zt)] [] ws := by
  refine hsum (st := (0, [(0, (0, 0, 0, 0)), (1, (1, 0, 0, (t : Int)))], [], [(0, 0, false, 0, 0), (0, 2555, false, 1, 0)], [], [])) (List.all_eq_true.mp um_a t (List.mem_range.mpr (by omega))) rfl C (r := [0, 0]) ⟨en_mk (by simp only [en_b, and_true]; omega) rfl, sb0, ⟨rfl, Or.inl ⟨rfl, a0, ha0, rfl⟩, rfl, int_dv (z := 0) rfl (by omega), trivial⟩, trivial, hw, k0, fun _ _ _ _ h => h, fun h => by cases h⟩ (fun x hx r1 lv1 st1 ws1 hx1 hb1 hl1 hs1 hlo1 hsk1 hw1 hV1 hf1 _ => ?_)
  have hx9 := List.mem_singleton.mp hx
  subst hx9
  dsimp only at hlo1 hsk1 ⊢
  obtain ⟨l10, rfl, p10⟩ := lo_ref ha0 hlo1
  obtain ⟨y11, l11, rfl, d11, p11⟩ := lo_int rfl p10
  cases lo_nil p11
  rw [vn_at hx1 (n := 0) (z := 0) rfl] at d11
  have e11 : zt = y11 := Int32.toInt_inj.mp (by omega)
  subst e11
  obtain ⟨x10, s10, rfl, c10, g10⟩ := hsk1.cons
  obtain ⟨x11, s11, rfl, c11, g11⟩ := g10.cons
  cases g11.nil
  have f10 := ref_of ha1 c10
  subst f10
  have f11 := ref_of ha7 c11
  subst f11
  refine hcallV (q := (84, 0, 1, 1, 0)) (M' := tb_m1) (cl := 7) (a := a7) (As := [.ref a1]) (rest := []) (rets := [103]) (P := bc_P ad tys 1 7 ws1) C (by decide) (tv_m75.1.1.1 (8, .invokevirtual 84, 3) (List.mem_of_getElem? (i := 4) rfl)) (tv_m75.2 _ (List.mem_of_getElem? (i := 3) rfl)) rfl rfl rfl rfl (by decide) (Nat.le_of_ble_eq_true rfl) rfl rfl rfl rfl hw1 ha7 (Nat.le_of_ble_eq_true rfl) ?_ ?_ ?_
  · intro pcr hp
    simp only [List.mem_cons, List.not_mem_nil, or_false] at hp
    rcases hp with rfl
    · exact tv_m1.1.1.1 (103, .return_, 1) (List.mem_of_getElem? (i := 56) rfl)
  · intro p2 e2 R2 s2 m2 args2 below2 meth2 c2 Q2 C2 kk2
    exact bc_all bc_r1 bc_T1 (mm_cx (by decide) C2) hw1 ha7 ha1 (fun pcr w lv2 hp hP => kk2 pcr w lv2 hp hP)
  · intro ws2 hbc
    have f02 : ai_fr tb_WR7 ws ws2 := (wsub_ok (V := []) (by rfl) hf1).tr (wsub_ok (V := bc_W 7) (by decide) hbc.2.1)
    refine hsum (st := (11, [(0, (0, 0, 0, 0)), (1, (1, 0, 0, (t : Int)))], [], [(0, 0, false, 0, 0), (0, 2555, false, 1, 0)], [], [])) (List.all_eq_true.mp um_b t (List.mem_range.mpr (by omega))) rfl C (r := [0, 0]) ⟨en_mk (by simp only [en_b, and_true]; omega) rfl, sb0, ⟨rfl, Or.inl ⟨rfl, a0, ha0, rfl⟩, rfl, int_dv (z := 0) rfl (by omega), trivial⟩, trivial, hbc.1, k0, fun _ _ _ _ h => h, fun h => by cases h⟩ (fun x hx r3 lv3 st3 ws3 hx3 hb3 hl3 hs3 hlo3 hsk3 hw3 hV3 hf3 _ => ?_)
    have hx9 := List.mem_singleton.mp hx
    subst hx9
    dsimp only at hlo3 hsk3 ⊢
    obtain ⟨q3, -⟩ := hV3
    obtain ⟨l30, rfl, p30⟩ := lo_ref ha0 hlo3
    obtain ⟨y31, l31, rfl, d31, p31⟩ := lo_int rfl p30
    cases lo_nil p31
    rw [vn_at hx3 (n := 0) (z := 0) rfl] at d31
    have e31 : zt = y31 := Int32.toInt_inj.mp (by omega)
    subst e31
    obtain ⟨x30, s30, rfl, c30, g30⟩ := hsk3.cons
    cases g30.nil
    have f30 := ref_of ha7 c30
    subst f30
    have wn : ∀ {cc i : Nat}, (cc ≠ 8 ∨ i ≠ t) → ai_wr [(8, t, t + 1)] cc i i = false := fun h => wr_no fun q hq => by
      rw [List.mem_singleton.mp hq]
      dsimp only
      omega
    have hc2 : cev ws2 7 n E := cev_bc hn hbc (hc.fr hf1 rfl)
    have hc3 : cev ws3 7 n (ev_up E t 0) := by
      refine ⟨fun i hi => ?_, by rw [ev_up_ne (by omega)]; exact hc2.2.1.fr hf3 (wn (by omega)), by rw [ev_up_ne (by omega)]; exact hc2.2.2.fr hf3 (wn (by omega))⟩
      obtain ⟨x1, x2, x3, x4⟩ := hc2.1 i hi
      rw [ev_up_ne (j := 4 + i) (by omega), ev_up_ne (j := 8 + i) (by omega), ev_up_ne (j := 12 + i) (by omega)]
      refine ⟨?_, x2.fr hf3 (wn (by omega)), x3.fr hf3 (wn (by omega)), x4.fr hf3 (wn (by omega))⟩
      by_cases hit : i = t
      · rw [hit, ev_up_at]
        exact q3.eq (by rw [nm_x hx3 (k := 0) rfl]; rfl)
      · rw [ev_up_ne hit]
        exact x1.fr hf3 (wn (Or.inr hit))
    have n3 : vi ws3 7 0 n := (hbc.2.2.1 0 _ (by decide) (hv0.fr hf1 rfl)).fr hf3 (wn (by omega))
    have a3 : vi ws3 7 3 a := (hbc.2.2.1 3 _ (by decide) (hv3.fr hf1 rfl)).fr hf3 (wn (by omega))
    have p3 : ∀ j, j < a → vi ws3 12 j (P j) := fun j hj => (hbc.2.2.2.2 j _ (by omega) ((hp j hj).fr hf1 (nowr_ok (c := 6) rfl j j))).fr hf3 (wn (by omega))
    have hf3W : ai_fr tb_WR7 ws2 ws3 := fr_sub (fun cc j h q hq => by
      have h1 := h (8, 0, 4) (by unfold tb_WR7; simp)
      dsimp only at h1
      rw [List.mem_singleton.mp hq]
      dsimp only
      omega) hf3
    have hg3 := um_good hn hg ht
    refine hcallI (q := (153, 0, 16, 0, 0)) (M' := tb_m16) (cl := 7) (a := a7) (As := []) (rest := []) (rets := [41]) (P := rp_P ad tys n a (ev_up E t 0) P ws3) C (by decide) (tv_m75.1.1.1 (25, .invokevirtual 153, 3) (List.mem_of_getElem? (i := 13) rfl)) (tv_m75.2 _ (List.mem_of_getElem? (i := 13) rfl)) rfl rfl rfl rfl (by decide) (Nat.le_of_ble_eq_true rfl) rfl rfl rfl rfl hw3 ha7 (Nat.le_of_ble_eq_true rfl) ?_ ?_ ?_
    · intro pcr hp
      simp only [List.mem_cons, List.not_mem_nil, or_false] at hp
      rcases hp with rfl
      · exact tv_m16.1.1.1 (41, .ireturn, 1) (List.mem_of_getElem? (i := 23) rfl)
    · intro p2 e2 R2 s2 m2 args2 below2 meth2 c2 Q2 C2 kk2
      exact rp_all (mm_cx (by decide) C2) ha7 hn ha8 hg3 hP hw3 n3 a3 p3 hc3 (fun w z lv2 h => kk2 41 w z lv2 (by decide) h)
    · intro ws4 zf hrp
      obtain ⟨hw4, hf4, hc4, ez⟩ := hrp
      have bz := plF_b (P := P) (E := ev_up E t 0) a ha8
      have hg4 := plE_g hn hg3 hP a (Nat.le_refl _)
      have n4 : vi ws4 7 0 n := n3.fr hf4 rfl
      have f04 : ai_fr tb_WR7 ws ws4 := (f02.tr hf3W).tr (wsub_ok (V := pf_W) (by decide) hf4)
      refine hsum (st := (28, [(0, (0, 0, 0, 0)), (1, (1, 0, 0, (t : Int)))], [(1, 2, 0, 0)], [(0, 0, false, 0, 0), (0, 2555, false, 1, 0), (-4, 7, false, 2, 0)], [], [])) (List.all_eq_true.mp um_c t (List.mem_range.mpr (by omega))) rfl C (r := [0, 0, zf.toInt]) ⟨en_mk (by simp only [en_b, and_true]; omega) rfl, sb0, ⟨rfl, Or.inl ⟨rfl, a0, ha0, rfl⟩, rfl, int_dv (z := 0) rfl (by omega), trivial⟩, ⟨int_dv (z := zf.toInt) rfl (by omega), trivial⟩, hw4, k0, fun _ _ _ _ h => h, fun h => by cases h⟩ (fun x hx r5 lv5 st5 ws5 hx5 hb5 hl5 hs5 hlo5 hsk5 hw5 hV5 hf5 _ => ?_)
      have hx9 := List.mem_singleton.mp hx
      subst hx9
      dsimp only at hlo5 hsk5 ⊢
      obtain ⟨l50, rfl, p50⟩ := lo_ref ha0 hlo5
      obtain ⟨y51, l51, rfl, d51, p51⟩ := lo_int rfl p50
      cases lo_nil p51
      rw [vn_at hx5 (n := 0) (z := 0) rfl] at d51
      have e51 : zt = y51 := Int32.toInt_inj.mp (by omega)
      subst e51
      obtain ⟨x50, s50, rfl, c50, g50⟩ := hsk5.cons
      cases g50.nil
      have f50 := ref_of ha7 c50
      subst f50
      refine hcallI (q := (110, 0, 7, 0, 0)) (M' := tb_m7) (cl := 7) (a := a7) (As := []) (rest := []) (rets := [8]) (P := fun w z => ai_wd tb_TY ad tys w ∧ ai_fr [] ws5 w ∧ z.toInt = mvF n a (ev_up E t 0) P) C (by decide) (tv_m75.1.1.1 (33, .invokevirtual 110, 3) (List.mem_of_getElem? (i := 17) rfl)) (tv_m75.2 _ (List.mem_of_getElem? (i := 5) rfl)) rfl rfl rfl rfl (by decide) (Nat.le_of_ble_eq_true rfl) rfl rfl rfl rfl hw5 ha7 (Nat.le_of_ble_eq_true rfl) ?_ ?_ ?_
      · intro pcr hp
        simp only [List.mem_cons, List.not_mem_nil, or_false] at hp
        rcases hp with rfl
        · exact tv_m7.1.1.1 (8, .ireturn, 1) (List.mem_of_getElem? (i := 4) rfl)
      · intro p2 e2 R2 s2 m2 args2 below2 meth2 c2 Q2 C2 kk2
        exact al7_all (mm_cx (by decide) C2) (Or.inr rfl) ha7 hn (fun i hi => by have := hg4.1 i hi; show 0 ≤ plE P (ev_up E t 0) a (8 + i) ∧ plE P (ev_up E t 0) a (8 + i) ≤ 99; omega) hw5 ⟨(n4.fr hf5 rfl), fun i hi => (hc4.1 i hi).2.2.1.fr hf5 (nowr_ok (c := 10) rfl _ _)⟩ (fun w z lv2 h1 h2 h3 => kk2 8 w z lv2 (by decide) ⟨h1, h2, h3⟩)
      · intro ws6 z6 hP6
        exact kk ws6 z6 _ hP6.1 ((f04.tr (wsub_ok (V := []) (by rfl) hf5)).tr (wsub_ok (V := []) (by rfl) hP6.2.1)) hP6.2.2
theorem um_cl {a0 a1 a7 n a : Nat} {E P : Nat → Int} {R0 : Int × Int} {zw : Int32} {ws0 : va_W} (C : ai_cx tb_m74 10 p R s m args c D tys A b L sx cells slots) (ha0 : ad[0]? = some a0) (ha1 : ad[1]? = some a1) (ha7 : ad[7]? = some a7) (hn : n ≤ 4) (ha8 : a ≤ 8) (hg : good n E) (hP : ∀ j, j < a → P j = 4 ∨ (0 ≤ P j ∧ P j < n)) (hzw : 0 ≤ zw.toInt ∧ zw.toInt ≤ 1) (hv0 : vi ws0 1 0 n) (hv3 : vi ws0 1 3 a) (hp : ∀ j, j < a → vi ws0 6 j (P j)) (hc : cev ws0 1 n E)
    (kk : ∀ (ws' : va_W) (z : Int32) (lv' : List (Nat × Value)), ai_wd tb_TY ad tys ws' → ai_fr tb_WR7 ws0 ws' → z.toInt = umR R0 zw.toInt → hG tb_m74 p l e R s m args below meth c D A cells slots Q 97 lv' [.int z] ws') :
    ∀ (f t : Nat) (z2 z3 z4 : Int32) (ws : va_W), t + f = 5 → t ≤ n → z4.toInt = t → (-4 ≤ z3.toInt ∧ z3.toInt ≤ 3) → umF n a E P f t z2.toInt z3.toInt = R0 → ai_wd tb_TY ad tys ws → ai_fr tb_WR7 ws0 ws → hG tb_m74 p l e R s m args below meth c D A cells slots Q 44 [(0, .ref a0), (1, .int zw), (2, .int z2), (3, .int z3), (4, .int z4)] [] ws := by
  intro f
  induction f with
  | zero =>
    intro t z2 z3 z4 ws hf h4 _ _ _ _ _
    exact absurd hf (by omega)
  | succ f ih =>
    intro t z2 z3 z4 ws hf h4 ez4 bz3 hR hw hfr
    have bz2 := ai_irg z2
    refine hildw (j := 4) (x := z4) C (tv_m74.1.1.1 (44, .iload 4, 2) (List.mem_of_getElem? (i := 24) rfl)) (List.mem_of_getElem? (i := 4) rfl) ?_
    by_cases htn : t < n
    · have hU : umF n a E P (f + 1) t z2.toInt z3.toInt = (if z2.toInt < mvF n a (ev_up E t 0) P then umF n a E P f (t + 1) (mvF n a (ev_up E t 0) P) (t : Int) else umF n a E P f (t + 1) z2.toInt z3.toInt) := if_pos htn
      refine hsum (st := (46, [(0, (0, 0, 0, 0)), (1, (1, 5, 0, 0)), (2, (1, 2, 0, 0)), (3, (1, 3, 0, 0)), (4, (1, 0, 0, (t : Int)))], [(1, 0, 0, (t : Int))], [(0, 0, false, 0, 0), (0, 2555, false, 1, 0), (-2147483648, 2147483647, false, 2, 0), (-4, 3, false, 3, 0), ((t : Int) + 1, 4, false, 4, 0), (0, 1, false, 5, 0)], [(1, 0, (1, 4, 0, 0))], [])) (List.all_eq_true.mp um_cg t (List.mem_range.mpr (by omega))) rfl C (r := [0, 0, z2.toInt, z3.toInt, (n : Int), zw.toInt]) ⟨en_mk (by simp only [en_b, and_true]; omega) rfl, sb0, ⟨rfl, Or.inl ⟨rfl, a0, ha0, rfl⟩, rfl, int_dv (z := zw.toInt) rfl (by omega), rfl, int_dv (z := z2.toInt) rfl (by omega), rfl, int_dv (z := z3.toInt) rfl (by omega), rfl, int_dv (z := 0) rfl (by omega), trivial⟩, ⟨int_dv (z := 0) rfl (by omega), trivial⟩, hw, kc ((hv0.fr hfr rfl).kn (n := 4) (t := (n : Int)) rfl (by omega)) (k0), fun _ _ _ _ h => h, fun h => by cases h⟩ (fun x hx r1 lv1 st1 ws1 hx1 hb1 hl1 hs1 hlo1 hsk1 hw1 hV1 hf1 _ => ?_)
      have hx9 := List.mem_singleton.mp hx
      subst hx9
      dsimp only at hlo1 hsk1 ⊢
      obtain ⟨l10, rfl, p10⟩ := lo_ref ha0 hlo1
      obtain ⟨y11, l11, rfl, d11, p11⟩ := lo_int rfl p10
      obtain ⟨y12, l12, rfl, d12, p12⟩ := lo_int rfl p11
      obtain ⟨y13, l13, rfl, d13, p13⟩ := lo_int rfl p12
      obtain ⟨y14, l14, rfl, d14, p14⟩ := lo_int rfl p13
      cases lo_nil p14
      rw [vn_at hx1 (n := 5) (z := zw.toInt) rfl] at d11
      have e11 : zw = y11 := Int32.toInt_inj.mp (by omega)
      subst e11
      rw [vn_at hx1 (n := 2) (z := z2.toInt) rfl] at d12
      have e12 : z2 = y12 := Int32.toInt_inj.mp (by omega)
      subst e12
      rw [vn_at hx1 (n := 3) (z := z3.toInt) rfl] at d13
      have e13 : z3 = y13 := Int32.toInt_inj.mp (by omega)
      subst e13
      rw [vn_at hx1 (n := 0) (z := 0) rfl] at d14
      have e14 : z4 = y14 := Int32.toInt_inj.mp (by omega)
      subst e14
      obtain ⟨x10, s10, rfl, c10, g10⟩ := hsk1.cons
      obtain ⟨x11, s11, rfl, c11, g11⟩ := g10.cons
      cases g11.nil
      obtain ⟨u10, rfl, w10⟩ := dvn c10 (hx1.at (k := 0) rfl)
      have f11 := ref_of ha0 c11
      subst f11
      refine hcallI (q := (183, 0, 75, 1, 5)) (M' := tb_m75) (cl := 0) (a := a0) (As := [.int u10]) (rest := []) (rets := [36]) (P := fun w z => ai_wd tb_TY ad tys w ∧ ai_fr tb_WR7 ws1 w ∧ z.toInt = mvF n a (ev_up E t 0) P) C (by decide) (tv_m74.1.1.1 (59, .invokevirtual 183, 3) (List.mem_of_getElem? (i := 31) rfl)) (tv_m74.2 _ (List.mem_of_getElem? (i := 22) rfl)) rfl rfl rfl rfl (by decide) (Nat.le_of_ble_eq_true rfl) rfl rfl rfl rfl hw1 ha0 (Nat.le_of_ble_eq_true rfl) ?_ ?_ ?_
      · intro pcr hp
        simp only [List.mem_cons, List.not_mem_nil, or_false] at hp
        rcases hp with rfl
        · exact tv_m75.1.1.1 (36, .ireturn, 1) (List.mem_of_getElem? (i := 18) rfl)
      · intro p2 e2 R2 s2 m2 args2 below2 meth2 c2 Q2 C2 kk2
        exact um_one (mm_cx (by decide) C2) ha0 ha1 ha7 hn ha8 hg hP htn (by omega) hw1 ((hv0.fr hfr rfl).fr hf1 rfl) ((hv3.fr hfr rfl).fr hf1 rfl) (fun j hj => ((hp j hj).fr hfr (nowr_ok (c := 6) rfl _ _)).fr hf1 (nowr_ok (c := 6) rfl _ _)) ((hc.fr hfr rfl).fr hf1 rfl) (fun w z lv2 h1 h2 h3 => kk2 36 w z lv2 (by decide) ⟨h1, h2, h3⟩)
      · intro ws8 zm hPm
        obtain ⟨hw8, hf8, ezm⟩ := hPm
        have bzm := ai_irg zm
        refine hsum (st := (62, [(0, (0, 0, 0, 0)), (1, (1, 5, 0, 0)), (2, (1, 2, 0, 0)), (3, (1, 3, 0, 0)), (4, (1, 0, 0, (t : Int)))], [(1, 4, 0, 0)], [(0, 0, false, 0, 0), (0, 2555, false, 1, 0), (-2147483648, 2147483647, false, 2, 0), (-4, 3, false, 3, 0), (-2147483648, 2147483647, false, 4, 0), (0, 1, false, 5, 0)], [], [])) (List.all_eq_true.mp um_cy t (List.mem_range.mpr (by omega))) rfl C (r := [0, 0, z2.toInt, z3.toInt, zm.toInt, zw.toInt]) ⟨en_mk (by simp only [en_b, and_true]; omega) rfl, sb0, ⟨rfl, Or.inl ⟨rfl, a0, ha0, rfl⟩, rfl, int_dv (z := zw.toInt) rfl (by omega), rfl, int_dv (z := z2.toInt) rfl (by omega), rfl, int_dv (z := z3.toInt) rfl (by omega), rfl, int_dv (z := 0) rfl (by omega), trivial⟩, ⟨int_dv (z := zm.toInt) rfl (by omega), trivial⟩, hw8, k0, fun _ _ _ _ h => h, fun h => by cases h⟩ (fun x hx r9 lv9 st9 ws9 hx9 hb9 hl9 hs9 hlo9 hsk9 hw9 hV9 hf9 _ => ?_)
        have m2 := nm_x hx9 (k := 2) rfl
        have m4 := nm_x hx9 (k := 4) rfl
        unfold um_cY at hx
        rcases List.mem_cons.mp hx with rfl | hx
        · skip
          dsimp only at hlo9 hsk9 ⊢
          simp (config := { decide := true }) only [bnd_b, lin_b, lin_q, Nat.reduceAdd, Nat.zero_add, Nat.reduceEqDiff, reduceIte, and_true, Int.add_zero] at hb9 hl9
          obtain ⟨l90, rfl, p90⟩ := lo_ref ha0 hlo9
          obtain ⟨y91, l91, rfl, d91, p91⟩ := lo_int rfl p90
          obtain ⟨y92, l92, rfl, d92, p92⟩ := lo_int rfl p91
          obtain ⟨y93, l93, rfl, d93, p93⟩ := lo_int rfl p92
          obtain ⟨y94, l94, rfl, d94, p94⟩ := lo_int rfl p93
          cases lo_nil p94
          rw [vn_at hx9 (n := 5) (z := zw.toInt) rfl] at d91
          have e91 : zw = y91 := Int32.toInt_inj.mp (by omega)
          subst e91
          rw [vn_at hx9 (n := 2) (z := z2.toInt) rfl] at d92
          rw [vn_at hx9 (n := 3) (z := z3.toInt) rfl] at d93
          rw [vn_at hx9 (n := 0) (z := 0) rfl] at d94
          cases hsk9.nil
          refine ih (t + 1) y92 y93 y94 ws9 (by omega) (by omega) (by omega) (by omega) ?_ hw9 (((hfr.tr (wsub_ok (V := []) (by rfl) hf1)).tr hf8).tr (wsub_ok (V := []) (by rfl) hf9))
          rw [← hR, hU]
          rw [if_neg (by omega), show y92.toInt = z2.toInt by omega, show y93.toInt = z3.toInt by omega]
        have hx0 := List.mem_singleton.mp hx
        subst hx0
        dsimp only at hlo9 hsk9 ⊢
        simp (config := { decide := true }) only [bnd_b, lin_b, lin_q, Nat.reduceAdd, Nat.zero_add, Nat.reduceEqDiff, reduceIte, and_true, Int.add_zero] at hb9 hl9
        obtain ⟨l90, rfl, p90⟩ := lo_ref ha0 hlo9
        obtain ⟨y91, l91, rfl, d91, p91⟩ := lo_int rfl p90
        obtain ⟨y92, l92, rfl, d92, p92⟩ := lo_int rfl p91
        obtain ⟨y93, l93, rfl, d93, p93⟩ := lo_int rfl p92
        obtain ⟨y94, l94, rfl, d94, p94⟩ := lo_int rfl p93
        cases lo_nil p94
        rw [vn_at hx9 (n := 5) (z := zw.toInt) rfl] at d91
        have e91 : zw = y91 := Int32.toInt_inj.mp (by omega)
        subst e91
        rw [vn_at hx9 (n := 4) (z := zm.toInt) rfl] at d92
        rw [vn_at hx9 (n := 0) (z := 0) rfl] at d93
        rw [vn_at hx9 (n := 0) (z := 0) rfl] at d94
        cases hsk9.nil
        refine ih (t + 1) y92 y93 y94 ws9 (by omega) (by omega) (by omega) (by omega) ?_ hw9 (((hfr.tr (wsub_ok (V := []) (by rfl) hf1)).tr hf8).tr (wsub_ok (V := []) (by rfl) hf9))
        rw [← hR, hU]
        rw [if_pos (by omega), show y92.toInt = mvF n a (ev_up E t 0) P by omega, show y93.toInt = (t : Int) by omega]
    · have htn' : t = n := by omega
      subst htn'
      have hR : (z2.toInt, z3.toInt) = R0 := by
        rw [← hR]
        exact (if_neg htn).symm
      refine hsum (st := (46, [(0, (0, 0, 0, 0)), (1, (1, 5, 0, 0)), (2, (1, 2, 0, 0)), (3, (1, 3, 0, 0)), (4, (1, 0, 0, (t : Int)))], [(1, 0, 0, (t : Int))], [(0, 0, false, 0, 0), (0, 2555, false, 1, 0), (-2147483648, 2147483647, false, 2, 0), (-4, 3, false, 3, 0), (0, (t : Int), false, 4, 0), (0, 1, false, 5, 0)], [(1, 0, (1, 4, 0, 0))], [])) (List.all_eq_true.mp um_cx t (List.mem_range.mpr (by omega))) rfl C (r := [0, 0, z2.toInt, z3.toInt, (t : Int), zw.toInt]) ⟨en_mk (by simp only [en_b, and_true]; omega) rfl, sb0, ⟨rfl, Or.inl ⟨rfl, a0, ha0, rfl⟩, rfl, int_dv (z := zw.toInt) rfl (by omega), rfl, int_dv (z := z2.toInt) rfl (by omega), rfl, int_dv (z := z3.toInt) rfl (by omega), rfl, int_dv (z := 0) rfl (by omega), trivial⟩, ⟨int_dv (z := 0) rfl (by omega), trivial⟩, hw, kc ((hv0.fr hfr rfl).kn (n := 4) (t := (t : Int)) rfl (by omega)) (k0), fun _ _ _ _ h => h, fun h => by cases h⟩ (fun x hx r1 lv1 st1 ws1 hx1 hb1 hl1 hs1 hlo1 hsk1 hw1 hV1 hf1 _ => ?_)
      have m3 := nm_x hx1 (k := 3) rfl
      have m5 := nm_x hx1 (k := 5) rfl
      unfold um_cX at hx
      rcases List.mem_cons.mp hx with rfl | hx
      · skip
        dsimp only at hsk1 ⊢
        simp (config := { decide := true }) only [bnd_b, lin_b, lin_q, Nat.reduceAdd, Nat.zero_add, Nat.reduceEqDiff, reduceIte, and_true, Int.add_zero] at hb1 hl1
        obtain ⟨z, rfl, hz'⟩ := sk1 rfl hsk1
        rw [vn_at hx1 (n := 3) (z := z3.toInt) rfl] at hz'
        refine kk ws1 z lv1 hw1 (hfr.tr (wsub_ok (V := []) (by rfl) hf1)) ?_
        rw [← hR]
        unfold umR
        dsimp only
        rw [if_pos (by omega)]
        omega
      rcases List.mem_cons.mp hx with rfl | hx
      · skip
        dsimp only at hsk1 ⊢
        simp (config := { decide := true }) only [bnd_b, lin_b, lin_q, Nat.reduceAdd, Nat.zero_add, Nat.reduceEqDiff, reduceIte, and_true, Int.add_zero] at hb1 hl1
        obtain ⟨z, rfl, hz'⟩ := sk1 rfl hsk1
        rw [vn_at hx1 (n := 2) (z := z2.toInt) rfl] at hz'
        refine kk ws1 z lv1 hw1 (hfr.tr (wsub_ok (V := []) (by rfl) hf1)) ?_
        rw [← hR]
        unfold umR
        dsimp only
        rw [if_neg (by omega)]
        omega
      have hx9 := List.mem_singleton.mp hx
      subst hx9
      dsimp only at hsk1 ⊢
      simp (config := { decide := true }) only [bnd_b, lin_b, lin_q, Nat.reduceAdd, Nat.zero_add, Nat.reduceEqDiff, reduceIte, and_true, Int.add_zero] at hb1 hl1
      obtain ⟨z, rfl, hz'⟩ := sk1 rfl hsk1
      rw [vn_at hx1 (n := 3) (z := z3.toInt) rfl] at hz'
      refine kk ws1 z lv1 hw1 (hfr.tr (wsub_ok (V := []) (by rfl) hf1)) ?_
      rw [← hR]
      unfold umR
      dsimp only
      rw [if_pos (by omega)]
      omega
theorem um_cls {a0 a1 a7 n a : Nat} {E P : Nat → Int} {zw : Int32} {ws : va_W} (C : ai_cx tb_m74 10 p R s m args c D tys A b L sx cells slots) (ha0 : ad[0]? = some a0) (ha1 : ad[1]? = some a1) (ha7 : ad[7]? = some a7) (hn : n ≤ 4) (ha8 : a ≤ 8) (hg : good n E) (hP : ∀ j, j < a → P j = 4 ∨ (0 ≤ P j ∧ P j < n)) (hzw : 0 ≤ zw.toInt ∧ zw.toInt ≤ 1) (hw : ai_wd tb_TY ad tys ws) (hv0 : vi ws 1 0 n) (hv3 : vi ws 1 3 a) (hp : ∀ j, j < a → vi ws 6 j (P j)) (hc : cev ws 1 n E)
    (kk : ∀ (ws' : va_W) (z : Int32) (lv' : List (Nat × Value)), ai_wd tb_TY ad tys ws' → ai_fr tb_WR7 ws ws' → z.toInt = umR (umF n a E P 5 0 (mvF n a E P) (-4)) zw.toInt → hG tb_m74 p l e R s m args below meth c D A cells slots Q 97 lv' [.int z] ws') : hG tb_m74 p l e R s m args below meth c D A cells slots Q 0 [(0, .ref a0), (1, .int zw)] [] ws := by
  refine hsum (st := (0, [(0, (0, 0, 0, 0)), (1, (1, 2, 0, 0))], [], [(0, 0, false, 0, 0), (0, 2555, false, 1, 0), (0, 1, false, 2, 0)], [], [])) um_c0 rfl C (r := [0, 0, zw.toInt]) ⟨en_mk (by simp only [en_b, and_true]; omega) rfl, sb0, ⟨rfl, Or.inl ⟨rfl, a0, ha0, rfl⟩, rfl, int_dv (z := zw.toInt) rfl (by omega), trivial⟩, trivial, hw, k0, fun _ _ _ _ h => h, fun h => by cases h⟩ (fun x hx r1 lv1 st1 ws1 hx1 hb1 hl1 hs1 hlo1 hsk1 hw1 hV1 hf1 _ => ?_)
  have hx9 := List.mem_singleton.mp hx
  subst hx9
  dsimp only at hlo1 hsk1 ⊢
  obtain ⟨l10, rfl, p10⟩ := lo_ref ha0 hlo1
  obtain ⟨y11, l11, rfl, d11, p11⟩ := lo_int rfl p10
  cases lo_nil p11
  rw [vn_at hx1 (n := 2) (z := zw.toInt) rfl] at d11
  have e11 : zw = y11 := Int32.toInt_inj.mp (by omega)
  subst e11
  obtain ⟨x10, s10, rfl, c10, g10⟩ := hsk1.cons
  obtain ⟨x11, s11, rfl, c11, g11⟩ := g10.cons
  cases g11.nil
  have f10 := ref_of ha1 c10
  subst f10
  have f11 := ref_of ha7 c11
  subst f11
  refine hcallV (q := (84, 0, 1, 1, 0)) (M' := tb_m1) (cl := 7) (a := a7) (As := [.ref a1]) (rest := []) (rets := [103]) (P := bc_P ad tys 1 7 ws1) C (by decide) (tv_m74.1.1.1 (19, .invokevirtual 84, 3) (List.mem_of_getElem? (i := 11) rfl)) (tv_m74.2 _ (List.mem_of_getElem? (i := 3) rfl)) rfl rfl rfl rfl (by decide) (Nat.le_of_ble_eq_true rfl) rfl rfl rfl rfl hw1 ha7 (Nat.le_of_ble_eq_true rfl) ?_ ?_ ?_
  · intro pcr hp
    simp only [List.mem_cons, List.not_mem_nil, or_false] at hp
    rcases hp with rfl
    · exact tv_m1.1.1.1 (103, .return_, 1) (List.mem_of_getElem? (i := 56) rfl)
  · intro p2 e2 R2 s2 m2 args2 below2 meth2 c2 Q2 C2 kk2
    exact bc_all bc_r1 bc_T1 (mm_cx (by decide) C2) hw1 ha7 ha1 (fun pcr w lv2 hp hP => kk2 pcr w lv2 hp hP)
  · intro ws2 hbc
    have f02 : ai_fr tb_WR7 ws ws2 := (wsub_ok (V := []) (by rfl) hf1).tr (wsub_ok (V := bc_W 7) (by decide) hbc.2.1)
    refine hsum (st := (22, [(0, (0, 0, 0, 0)), (1, (1, 2, 0, 0))], [], [(0, 0, false, 0, 0), (0, 2555, false, 1, 0), (0, 1, false, 2, 0)], [], [])) um_c1 rfl C (r := [0, 0, zw.toInt]) ⟨en_mk (by simp only [en_b, and_true]; omega) rfl, sb0, ⟨rfl, Or.inl ⟨rfl, a0, ha0, rfl⟩, rfl, int_dv (z := zw.toInt) rfl (by omega), trivial⟩, trivial, hbc.1, k0, fun _ _ _ _ h => h, fun h => by cases h⟩ (fun x hx r3 lv3 st3 ws3 hx3 hb3 hl3 hs3 hlo3 hsk3 hw3 hV3 hf3 _ => ?_)
    have hx9 := List.mem_singleton.mp hx
    subst hx9
    dsimp only at hlo3 hsk3 ⊢
    obtain ⟨l30, rfl, p30⟩ := lo_ref ha0 hlo3
    obtain ⟨y31, l31, rfl, d31, p31⟩ := lo_int rfl p30
    cases lo_nil p31
    rw [vn_at hx3 (n := 2) (z := zw.toInt) rfl] at d31
    have e31 : zw = y31 := Int32.toInt_inj.mp (by omega)
    subst e31
    obtain ⟨x30, s30, rfl, c30, g30⟩ := hsk3.cons
    cases g30.nil
    have f30 := ref_of ha7 c30
    subst f30
    have hc3 : cev ws3 7 n E := (cev_bc hn hbc (hc.fr hf1 rfl)).fr hf3 rfl
    have n3 : vi ws3 7 0 n := (hbc.2.2.1 0 _ (by decide) (hv0.fr hf1 rfl)).fr hf3 rfl
    have a3 : vi ws3 7 3 a := (hbc.2.2.1 3 _ (by decide) (hv3.fr hf1 rfl)).fr hf3 rfl
    have p3 : ∀ j, j < a → vi ws3 12 j (P j) := fun j hj => (hbc.2.2.2.2 j _ (by omega) ((hp j hj).fr hf1 (nowr_ok (c := 6) rfl j j))).fr hf3 (nowr_ok (c := 12) rfl j j)
    refine hcallI (q := (153, 0, 16, 0, 0)) (M' := tb_m16) (cl := 7) (a := a7) (As := []) (rest := []) (rets := [41]) (P := rp_P ad tys n a (E) P ws3) C (by decide) (tv_m74.1.1.1 (26, .invokevirtual 153, 3) (List.mem_of_getElem? (i := 14) rfl)) (tv_m74.2 _ (List.mem_of_getElem? (i := 13) rfl)) rfl rfl rfl rfl (by decide) (Nat.le_of_ble_eq_true rfl) rfl rfl rfl rfl hw3 ha7 (Nat.le_of_ble_eq_true rfl) ?_ ?_ ?_
    · intro pcr hp
      simp only [List.mem_cons, List.not_mem_nil, or_false] at hp
      rcases hp with rfl
      · exact tv_m16.1.1.1 (41, .ireturn, 1) (List.mem_of_getElem? (i := 23) rfl)
    · intro p2 e2 R2 s2 m2 args2 below2 meth2 c2 Q2 C2 kk2
      exact rp_all (mm_cx (by decide) C2) ha7 hn ha8 hg hP hw3 n3 a3 p3 hc3 (fun w z lv2 h => kk2 41 w z lv2 (by decide) h)
    · intro ws4 zf hrp
      obtain ⟨hw4, hf4, hc4, ez⟩ := hrp
      have bz := plF_b (P := P) (E := E) a ha8
      have hg4 := plE_g hn hg hP a (Nat.le_refl _)
      have n4 : vi ws4 7 0 n := n3.fr hf4 rfl
      have f04 : ai_fr tb_WR7 ws ws4 := (f02.tr (wsub_ok (V := []) (by rfl) hf3)).tr (wsub_ok (V := pf_W) (by decide) hf4)
      refine hsum (st := (29, [(0, (0, 0, 0, 0)), (1, (1, 2, 0, 0))], [(1, 3, 0, 0)], [(0, 0, false, 0, 0), (0, 2555, false, 1, 0), (0, 1, false, 2, 0), (-4, 7, false, 3, 0)], [], [])) um_c2 rfl C (r := [0, 0, zw.toInt, zf.toInt]) ⟨en_mk (by simp only [en_b, and_true]; omega) rfl, sb0, ⟨rfl, Or.inl ⟨rfl, a0, ha0, rfl⟩, rfl, int_dv (z := zw.toInt) rfl (by omega), trivial⟩, ⟨int_dv (z := zf.toInt) rfl (by omega), trivial⟩, hw4, k0, fun _ _ _ _ h => h, fun h => by cases h⟩ (fun x hx r5 lv5 st5 ws5 hx5 hb5 hl5 hs5 hlo5 hsk5 hw5 hV5 hf5 _ => ?_)
      have hx9 := List.mem_singleton.mp hx
      subst hx9
      dsimp only at hlo5 hsk5 ⊢
      obtain ⟨l50, rfl, p50⟩ := lo_ref ha0 hlo5
      obtain ⟨y51, l51, rfl, d51, p51⟩ := lo_int rfl p50
      cases lo_nil p51
      rw [vn_at hx5 (n := 2) (z := zw.toInt) rfl] at d51
      have e51 : zw = y51 := Int32.toInt_inj.mp (by omega)
      subst e51
      obtain ⟨x50, s50, rfl, c50, g50⟩ := hsk5.cons
      cases g50.nil
      have f50 := ref_of ha7 c50
      subst f50
      refine hcallI (q := (110, 0, 7, 0, 0)) (M' := tb_m7) (cl := 7) (a := a7) (As := []) (rest := []) (rets := [8]) (P := fun w z => ai_wd tb_TY ad tys w ∧ ai_fr [] ws5 w ∧ z.toInt = mvF n a (E) P) C (by decide) (tv_m74.1.1.1 (34, .invokevirtual 110, 3) (List.mem_of_getElem? (i := 18) rfl)) (tv_m74.2 _ (List.mem_of_getElem? (i := 5) rfl)) rfl rfl rfl rfl (by decide) (Nat.le_of_ble_eq_true rfl) rfl rfl rfl rfl hw5 ha7 (Nat.le_of_ble_eq_true rfl) ?_ ?_ ?_
      · intro pcr hp
        simp only [List.mem_cons, List.not_mem_nil, or_false] at hp
        rcases hp with rfl
        · exact tv_m7.1.1.1 (8, .ireturn, 1) (List.mem_of_getElem? (i := 4) rfl)
      · intro p2 e2 R2 s2 m2 args2 below2 meth2 c2 Q2 C2 kk2
        exact al7_all (mm_cx (by decide) C2) (Or.inr rfl) ha7 hn (fun i hi => by have := hg4.1 i hi; show 0 ≤ plE P (E) a (8 + i) ∧ plE P (E) a (8 + i) ≤ 99; omega) hw5 ⟨(n4.fr hf5 rfl), fun i hi => (hc4.1 i hi).2.2.1.fr hf5 (nowr_ok (c := 10) rfl _ _)⟩ (fun w z lv2 h1 h2 h3 => kk2 8 w z lv2 (by decide) ⟨h1, h2, h3⟩)
      · intro ws6 z6 hP6
        obtain ⟨hw6, hf6, ez6⟩ := hP6
        have bz6 := ai_irg z6
        refine hsum (st := (37, [(0, (0, 0, 0, 0)), (1, (1, 2, 0, 0))], [(1, 3, 0, 0)], [(0, 0, false, 0, 0), (0, 2555, false, 1, 0), (0, 1, false, 2, 0), (-2147483648, 2147483647, false, 3, 0)], [], [])) um_c3 rfl C (r := [0, 0, zw.toInt, z6.toInt]) ⟨en_mk (by simp only [en_b, and_true]; omega) rfl, sb0, ⟨rfl, Or.inl ⟨rfl, a0, ha0, rfl⟩, rfl, int_dv (z := zw.toInt) rfl (by omega), trivial⟩, ⟨int_dv (z := z6.toInt) rfl (by omega), trivial⟩, hw6, k0, fun _ _ _ _ h => h, fun h => by cases h⟩ (fun x hx r7 lv7 st7 ws7 hx7 hb7 hl7 hs7 hlo7 hsk7 hw7 hV7 hf7 _ => ?_)
        have hx9 := List.mem_singleton.mp hx
        subst hx9
        dsimp only at hlo7 hsk7 ⊢
        obtain ⟨l70, rfl, p70⟩ := lo_ref ha0 hlo7
        obtain ⟨y71, l71, rfl, d71, p71⟩ := lo_int rfl p70
        obtain ⟨y72, l72, rfl, d72, p72⟩ := lo_int rfl p71
        obtain ⟨y73, l73, rfl, d73, p73⟩ := lo_int rfl p72
        obtain ⟨y74, l74, rfl, d74, p74⟩ := lo_int rfl p73
        cases lo_nil p74
        rw [vn_at hx7 (n := 2) (z := zw.toInt) rfl] at d71
        have e71 : zw = y71 := Int32.toInt_inj.mp (by omega)
        subst e71
        rw [vn_at hx7 (n := 3) (z := z6.toInt) rfl] at d72
        rw [vn_at hx7 (n := 0) (z := 0) rfl] at d73
        rw [vn_at hx7 (n := 0) (z := 0) rfl] at d74
        cases hsk7.nil
        exact um_cl (ws0 := ws) C ha0 ha1 ha7 hn ha8 hg hP hzw hv0 hv3 hp hc kk 5 0 y72 y73 y74 ws7 rfl (Nat.zero_le _) (by omega) (by omega) (by rw [show y72.toInt = mvF n a E P by omega, show y73.toInt = -4 by omega]) hw7 (((f04.tr (wsub_ok (V := []) (by rfl) hf5)).tr (wsub_ok (V := []) (by rfl) hf6)).tr (wsub_ok (V := []) (by rfl) hf7))
theorem um_ml {ar n a : Nat} {E P : Nat → Int} {R0 : Int × Int} {zw : Int32} {ws0 : va_W} (C : ai_cx tb_m149 10 p R s m args c D tys A b L sx cells slots) (ha : ad[49]? = some ar) (hn : n ≤ 4) (ha8 : a ≤ 8) (hg : good n E) (hP : ∀ j, j < a → P j = 4 ∨ (0 ≤ P j ∧ P j < n)) (hzw : 0 ≤ zw.toInt ∧ zw.toInt ≤ 1) (hv0 : vi ws0 49 1 n) (hv3 : vi ws0 50 26 a) (hp : ∀ j, j < a → vi ws0 50 (18 + j) (P j)) (hc : pev ws0 0 n E)
    (kk : ∀ (ws' : va_W) (z : Int32) (lv' : List (Nat × Value)), ai_wd tb_TY ad tys ws' → ai_fr tb_WR7 ws0 ws' → z.toInt = umR R0 zw.toInt → hG tb_m149 p l e R s m args below meth c D A cells slots Q 121 lv' [.int z] ws') :
    ∀ (f t : Nat) (z2 z3 z4 : Int32) (ws : va_W), t + f = 5 → t ≤ n → z4.toInt = t → (-4 ≤ z3.toInt ∧ z3.toInt ≤ 3) → umF n a E P f t z2.toInt z3.toInt = R0 → ai_wd tb_TY ad tys ws → ai_fr tb_WR7 ws0 ws → hG tb_m149 p l e R s m args below meth c D A cells slots Q 30 [(0, .ref ar), (1, .int zw), (2, .int z2), (3, .int z3), (4, .int z4)] [] ws := by
  intro f
  induction f with
  | zero =>
    intro t z2 z3 z4 ws hf h4 _ _ _ _ _
    exact absurd hf (by omega)
  | succ f ih =>
    intro t z2 z3 z4 ws hf h4 ez4 bz3 hR hw hfr
    have bz2 := ai_irg z2
    refine hildw (j := 4) (x := z4) C (tv_m149.1.1.1 (30, .iload 4, 2) (List.mem_of_getElem? (i := 19) rfl)) (List.mem_of_getElem? (i := 4) rfl) ?_
    by_cases htn : t < n
    · have hU : umF n a E P (f + 1) t z2.toInt z3.toInt = (if z2.toInt < mvF n a (ev_up E t 0) P then umF n a E P f (t + 1) (mvF n a (ev_up E t 0) P) (t : Int) else umF n a E P f (t + 1) z2.toInt z3.toInt) := if_pos htn
      refine hsum (st := (32, [(0, (0, 49, 0, 0)), (1, (1, 5, 0, 0)), (2, (1, 2, 0, 0)), (3, (1, 3, 0, 0)), (4, (1, 0, 0, (t : Int)))], [(1, 0, 0, (t : Int))], [(0, 0, false, 0, 0), (0, 2555, false, 1, 0), (-2147483648, 2147483647, false, 2, 0), (-4, 3, false, 3, 0), ((t : Int) + 1, 4, false, 4, 0), (0, 1, false, 5, 0)], [(49, 1, (1, 4, 0, 0))], [])) (List.all_eq_true.mp um_mg t (List.mem_range.mpr (by omega))) rfl C (r := [0, 0, z2.toInt, z3.toInt, (n : Int), zw.toInt]) ⟨en_mk (by simp only [en_b, and_true]; omega) rfl, sb0, ⟨rfl, Or.inl ⟨rfl, ar, ha, rfl⟩, rfl, int_dv (z := zw.toInt) rfl (by omega), rfl, int_dv (z := z2.toInt) rfl (by omega), rfl, int_dv (z := z3.toInt) rfl (by omega), rfl, int_dv (z := 0) rfl (by omega), trivial⟩, ⟨int_dv (z := 0) rfl (by omega), trivial⟩, hw, kc ((hv0.fr hfr rfl).kn (n := 4) (t := (n : Int)) rfl (by omega)) (k0), fun _ _ _ _ h => h, fun h => by cases h⟩ (fun x hx r1 lv1 st1 ws1 hx1 hb1 hl1 hs1 hlo1 hsk1 hw1 hV1 hf1 _ => ?_)
      have hx9 := List.mem_singleton.mp hx
      subst hx9
      dsimp only at hlo1 hsk1 ⊢
      obtain ⟨l10, rfl, p10⟩ := lo_ref ha hlo1
      obtain ⟨y11, l11, rfl, d11, p11⟩ := lo_int rfl p10
      obtain ⟨y12, l12, rfl, d12, p12⟩ := lo_int rfl p11
      obtain ⟨y13, l13, rfl, d13, p13⟩ := lo_int rfl p12
      obtain ⟨y14, l14, rfl, d14, p14⟩ := lo_int rfl p13
      cases lo_nil p14
      rw [vn_at hx1 (n := 5) (z := zw.toInt) rfl] at d11
      have e11 : zw = y11 := Int32.toInt_inj.mp (by omega)
      subst e11
      rw [vn_at hx1 (n := 2) (z := z2.toInt) rfl] at d12
      have e12 : z2 = y12 := Int32.toInt_inj.mp (by omega)
      subst e12
      rw [vn_at hx1 (n := 3) (z := z3.toInt) rfl] at d13
      have e13 : z3 = y13 := Int32.toInt_inj.mp (by omega)
      subst e13
      rw [vn_at hx1 (n := 0) (z := 0) rfl] at d14
      have e14 : z4 = y14 := Int32.toInt_inj.mp (by omega)
      subst e14
      obtain ⟨x10, s10, rfl, c10, g10⟩ := hsk1.cons
      obtain ⟨x11, s11, rfl, c11, g11⟩ := g10.cons
      obtain ⟨x12, s12, rfl, c12, g12⟩ := g11.cons
      cases g12.nil
      obtain ⟨u10, rfl, w10⟩ := dvn c10 (hx1.at (k := 0) rfl)
      obtain ⟨u11, rfl, w11⟩ := dvn c11 (hx1.at (k := 0) rfl)
      have f12 := ref_of49 ha c12
      subst f12
      refine hcallV (q := (174, 0, 134, 2, 6)) (M' := tb_m134) (cl := 49) (a := ar) (As := [.int u11, .int u10]) (rest := []) (rets := [30]) (P := cs_P ad tys 0 135 ws1) C (by decide) (tv_m149.1.1.1 (44, .invokevirtual 174, 3) (List.mem_of_getElem? (i := 26) rfl)) (tv_m149.2 _ (List.mem_of_getElem? (i := 21) rfl)) rfl rfl rfl rfl (by decide) (Nat.le_of_ble_eq_true rfl) rfl rfl rfl rfl hw1 ha (Nat.le_of_ble_eq_true rfl) ?_ ?_ ?_
      · intro pcr hp
        simp only [List.mem_cons, List.not_mem_nil, or_false] at hp
        rcases hp with rfl
        · exact tv_m134.1.1.1 (30, .return_, 1) (List.mem_of_getElem? (i := 19) rfl)
      · intro p2 e2 R2 s2 m2 args2 below2 meth2 c2 Q2 C2 kk2
        exact cs_all cs_r8 (by decide +kernel) (by decide) (mm_cx (by decide) C2) hw1 ha (by omega) (by omega) (fun pcr w lv2 hp hP => kk2 pcr w lv2 hp hP)
      · intro ws2 hcs
        have off1 : ∀ {j : Nat} {z : Int}, j < 81 → vi ws0 50 j z → vi ws1 50 j z := fun hj h => (h.fr hfr (um_off hj)).fr hf1 (nowr_ok (c := 50) rfl _ _)
        have hc1 : pev ws1 0 n E := (hc.fr hn hfr (fun j hj => um_off (by omega))).fr hn hf1 (fun _ _ => rfl)
        have hc2 := um_pev hn hcs hc1
        have f02 : ai_fr tb_WR7 ws0 ws2 := (hfr.tr (wsub_ok (V := []) (by rfl) hf1)).tr (wsub_ok (V := [(50, 135, 162)]) (by decide) hcs.2.1)
        refine hsum (st := (47, [(0, (0, 49, 0, 0)), (1, (1, 4, 0, 0)), (2, (1, 2, 0, 0)), (3, (1, 3, 0, 0)), (4, (1, 0, 0, (t : Int)))], [], [(0, 0, false, 0, 0), (0, 2555, false, 1, 0), (-2147483648, 2147483647, false, 2, 0), (-4, 3, false, 3, 0), (0, 1, false, 4, 0)], [], [])) (List.all_eq_true.mp um_mh t (List.mem_range.mpr (by omega))) rfl C (r := [0, 0, z2.toInt, z3.toInt, zw.toInt]) ⟨en_mk (by simp only [en_b, and_true]; omega) rfl, sb0, ⟨rfl, Or.inl ⟨rfl, ar, ha, rfl⟩, rfl, int_dv (z := zw.toInt) rfl (by omega), rfl, int_dv (z := z2.toInt) rfl (by omega), rfl, int_dv (z := z3.toInt) rfl (by omega), rfl, int_dv (z := 0) rfl (by omega), trivial⟩, trivial, hcs.1, k0, fun _ _ _ _ h => h, fun h => by cases h⟩ (fun x hx r3 lv3 st3 ws3 hx3 hb3 hl3 hs3 hlo3 hsk3 hw3 hV3 hf3 _ => ?_)
        have hx9 := List.mem_singleton.mp hx
        subst hx9
        dsimp only at hlo3 hsk3 ⊢
        obtain ⟨q3, -⟩ := hV3
        obtain ⟨l30, rfl, p30⟩ := lo_ref ha hlo3
        obtain ⟨y31, l31, rfl, d31, p31⟩ := lo_int rfl p30
        obtain ⟨y32, l32, rfl, d32, p32⟩ := lo_int rfl p31
        obtain ⟨y33, l33, rfl, d33, p33⟩ := lo_int rfl p32
        obtain ⟨y34, l34, rfl, d34, p34⟩ := lo_int rfl p33
        cases lo_nil p34
        rw [vn_at hx3 (n := 4) (z := zw.toInt) rfl] at d31
        have e31 : zw = y31 := Int32.toInt_inj.mp (by omega)
        subst e31
        rw [vn_at hx3 (n := 2) (z := z2.toInt) rfl] at d32
        have e32 : z2 = y32 := Int32.toInt_inj.mp (by omega)
        subst e32
        rw [vn_at hx3 (n := 3) (z := z3.toInt) rfl] at d33
        have e33 : z3 = y33 := Int32.toInt_inj.mp (by omega)
        subst e33
        rw [vn_at hx3 (n := 0) (z := 0) rfl] at d34
        have e34 : z4 = y34 := Int32.toInt_inj.mp (by omega)
        subst e34
        obtain ⟨x30, s30, rfl, c30, g30⟩ := hsk3.cons
        obtain ⟨x31, s31, rfl, c31, g31⟩ := g30.cons
        cases g31.nil
        obtain ⟨u30, rfl, w30⟩ := dvn c30 (hx3.at (k := 0) rfl)
        have f31 := ref_of49 ha c31
        subst f31
        have wn : ∀ {j : Nat}, j ≠ t → ai_wr [(50, 135 + t, 136 + t)] 50 (j + 135) (j + 135) = false := fun {j} h => wr_no fun q hq => by
          rw [List.mem_singleton.mp hq]
          dsimp only
          omega
        have q3' : vi ws3 50 (t + 135) 0 := by
          rw [Nat.add_comm]
          exact q3.eq (by rw [nm_x hx3 (k := 0) rfl]; rfl)
        have hc3 : pev ws3 135 n (ev_up E t 0) := by
          refine ⟨fun i hi => ?_, by rw [ev_up_ne (by omega)]; exact hc2.2.1.fr hf3 (wn (j := 16) (by omega)), by rw [ev_up_ne (by omega)]; exact hc2.2.2.fr hf3 (wn (j := 17) (by omega))⟩
          obtain ⟨x1, x2, x3, x4⟩ := hc2.1 i hi
          rw [ev_up_ne (j := 4 + i) (by omega), ev_up_ne (j := 8 + i) (by omega), ev_up_ne (j := 12 + i) (by omega)]
          refine ⟨?_, x2.fr hf3 (wn (by omega)), x3.fr hf3 (wn (by omega)), x4.fr hf3 (wn (by omega))⟩
          by_cases hit : i = t
          · rw [hit, ev_up_at]
            exact q3'
          · rw [ev_up_ne hit]
            exact x1.fr hf3 (wn hit)
        have hg3 := um_good hn hg htn
        have hf3W : ai_fr tb_WR7 ws2 ws3 := fr_sub (fun cc j h q hq => by
          have h1 := h (50, 81, 162) (by unfold tb_WR7; simp)
          dsimp only at h1
          rw [List.mem_singleton.mp hq]
          dsimp only
          omega) hf3
        have n3 : vi ws3 49 1 n := (hv0.fr f02 rfl).fr hf3W rfl
        have a3 : vi ws3 50 (26 + 135) a := (um_cp hcs (j := 26) (by decide) (off1 (by decide) hv3)).fr hf3 (wn (j := 26) (by omega))
        have p3 : ∀ j, j < a → vi ws3 50 (18 + j + 135) (P j) := fun j hj => (um_cp hcs (j := 18 + j) (by omega) (off1 (by omega) (hp j hj))).fr hf3 (wn (by omega))
        refine hcallV (q := (184, 0, 135, 1, 6)) (M' := tb_m135) (cl := 49) (a := ar) (As := [.int u30]) (rest := []) (rets := [77]) (P := pg_P ad tys n a (ev_up E t 0) P ws3) C (by decide) (tv_m149.1.1.1 (63, .invokevirtual 184, 3) (List.mem_of_getElem? (i := 36) rfl)) (tv_m149.2 _ (List.mem_of_getElem? (i := 23) rfl)) rfl rfl rfl rfl (by decide) (Nat.le_of_ble_eq_true rfl) rfl rfl rfl rfl hw3 ha (Nat.le_of_ble_eq_true rfl) ?_ ?_ ?_
        · intro pcr hp
          simp only [List.mem_cons, List.not_mem_nil, or_false] at hp
          rcases hp with rfl
          · exact tv_m135.1.1.1 (77, .return_, 1) (List.mem_of_getElem? (i := 43) rfl)
        · intro p2 e2 R2 s2 m2 args2 below2 meth2 c2 Q2 C2 kk2
          exact pg_all (pg := 135) (mm_cx (by decide) C2) (Or.inr rfl) um_cs (by decide +kernel) ha (by omega) hn ha8 hg3 hP hw3 n3 a3 p3 hc3 (fun w lv2 h => kk2 77 w lv2 (by decide) h)
        · intro ws4 hpg
          obtain ⟨hw4, hf4, hc4, v17⟩ := hpg
          have hg4 := plE_g hn hg3 hP a (Nat.le_refl _)
          have n4 : vi ws4 49 1 n := n3.fr hf4 rfl
          have f04 : ai_fr tb_WR7 ws0 ws4 := (f02.tr hf3W).tr (wsub_ok (V := pg_W) (by decide) hf4)
          refine hsum (st := (66, [(0, (0, 49, 0, 0)), (1, (1, 4, 0, 0)), (2, (1, 2, 0, 0)), (3, (1, 3, 0, 0)), (4, (1, 0, 0, (t : Int)))], [], [(0, 0, false, 0, 0), (0, 2555, false, 1, 0), (-2147483648, 2147483647, false, 2, 0), (-4, 3, false, 3, 0), (0, 1, false, 4, 0)], [], [])) (List.all_eq_true.mp um_mi t (List.mem_range.mpr (by omega))) rfl C (r := [0, 0, z2.toInt, z3.toInt, zw.toInt]) ⟨en_mk (by simp only [en_b, and_true]; omega) rfl, sb0, ⟨rfl, Or.inl ⟨rfl, ar, ha, rfl⟩, rfl, int_dv (z := zw.toInt) rfl (by omega), rfl, int_dv (z := z2.toInt) rfl (by omega), rfl, int_dv (z := z3.toInt) rfl (by omega), rfl, int_dv (z := 0) rfl (by omega), trivial⟩, trivial, hw4, k0, fun _ _ _ _ h => h, fun h => by cases h⟩ (fun x hx r5 lv5 st5 ws5 hx5 hb5 hl5 hs5 hlo5 hsk5 hw5 hV5 hf5 _ => ?_)
          have hx9 := List.mem_singleton.mp hx
          subst hx9
          dsimp only at hlo5 hsk5 ⊢
          obtain ⟨l50, rfl, p50⟩ := lo_ref ha hlo5
          obtain ⟨y51, l51, rfl, d51, p51⟩ := lo_int rfl p50
          obtain ⟨y52, l52, rfl, d52, p52⟩ := lo_int rfl p51
          obtain ⟨y53, l53, rfl, d53, p53⟩ := lo_int rfl p52
          obtain ⟨y54, l54, rfl, d54, p54⟩ := lo_int rfl p53
          cases lo_nil p54
          rw [vn_at hx5 (n := 4) (z := zw.toInt) rfl] at d51
          have e51 : zw = y51 := Int32.toInt_inj.mp (by omega)
          subst e51
          rw [vn_at hx5 (n := 2) (z := z2.toInt) rfl] at d52
          have e52 : z2 = y52 := Int32.toInt_inj.mp (by omega)
          subst e52
          rw [vn_at hx5 (n := 3) (z := z3.toInt) rfl] at d53
          have e53 : z3 = y53 := Int32.toInt_inj.mp (by omega)
          subst e53
          rw [vn_at hx5 (n := 0) (z := 0) rfl] at d54
          have e54 : z4 = y54 := Int32.toInt_inj.mp (by omega)
          subst e54
          obtain ⟨x50, s50, rfl, c50, g50⟩ := hsk5.cons
          obtain ⟨x51, s51, rfl, c51, g51⟩ := g50.cons
          cases g51.nil
          obtain ⟨u50, rfl, w50⟩ := dvn c50 (hx5.at (k := 0) rfl)
          have f51 := ref_of49 ha c51
          subst f51
          refine hcallI (q := (139, 0, 117, 1, 6)) (M' := tb_m117) (cl := 49) (a := ar) (As := [.int u50]) (rest := []) (rets := [33]) (P := fun w z => ai_wd tb_TY ad tys w ∧ ai_fr [] ws5 w ∧ z.toInt = mvF n a (ev_up E t 0) P) C (by decide) (tv_m149.1.1.1 (69, .invokevirtual 139, 3) (List.mem_of_getElem? (i := 39) rfl)) (tv_m149.2 _ (List.mem_of_getElem? (i := 13) rfl)) rfl rfl rfl rfl (by decide) (Nat.le_of_ble_eq_true rfl) rfl rfl rfl rfl hw5 ha (Nat.le_of_ble_eq_true rfl) ?_ ?_ ?_
          · intro pcr hp
            simp only [List.mem_cons, List.not_mem_nil, or_false] at hp
            rcases hp with rfl
            · exact tv_m117.1.1.1 (33, .ireturn, 1) (List.mem_of_getElem? (i := 22) rfl)
          · intro p2 e2 R2 s2 m2 args2 below2 meth2 c2 Q2 C2 kk2
            exact mo_all (mm_cx (by decide) C2) (Or.inr rfl) ha (by omega) hn (fun i hi => by have := hg4.1 i hi; show 0 ≤ plE P (ev_up E t 0) a (8 + i) ∧ plE P (ev_up E t 0) a (8 + i) ≤ 99; omega) hw5 ⟨n4.fr hf5 rfl, fun i hi => (hc4.1 i hi).2.2.1.fr hf5 rfl⟩ (fun w z lv2 h1 h2 h3 => kk2 33 w z lv2 (by decide) ⟨h1, h2, h3⟩)
          · intro ws8 zm hPm
            obtain ⟨hw8, hf8, ezm⟩ := hPm
            have bzm := ai_irg zm
            refine hsum (st := (72, [(0, (0, 49, 0, 0)), (1, (1, 5, 0, 0)), (2, (1, 2, 0, 0)), (3, (1, 3, 0, 0)), (4, (1, 0, 0, (t : Int)))], [(1, 4, 0, 0)], [(0, 0, false, 0, 0), (0, 2555, false, 1, 0), (-2147483648, 2147483647, false, 2, 0), (-4, 3, false, 3, 0), (-2147483648, 2147483647, false, 4, 0), (0, 1, false, 5, 0)], [], [])) (List.all_eq_true.mp um_my t (List.mem_range.mpr (by omega))) rfl C (r := [0, 0, z2.toInt, z3.toInt, zm.toInt, zw.toInt]) ⟨en_mk (by simp only [en_b, and_true]; omega) rfl, sb0, ⟨rfl, Or.inl ⟨rfl, ar, ha, rfl⟩, rfl, int_dv (z := zw.toInt) rfl (by omega), rfl, int_dv (z := z2.toInt) rfl (by omega), rfl, int_dv (z := z3.toInt) rfl (by omega), rfl, int_dv (z := 0) rfl (by omega), trivial⟩, ⟨int_dv (z := zm.toInt) rfl (by omega), trivial⟩, hw8, k0, fun _ _ _ _ h => h, fun h => by cases h⟩ (fun x hx r9 lv9 st9 ws9 hx9 hb9 hl9 hs9 hlo9 hsk9 hw9 hV9 hf9 _ => ?_)
            have m2 := nm_x hx9 (k := 2) rfl
            have m4 := nm_x hx9 (k := 4) rfl
            unfold um_mY at hx
            rcases List.mem_cons.mp hx with rfl | hx
            · skip
              dsimp only at hlo9 hsk9 ⊢
              simp (config := { decide := true }) only [bnd_b, lin_b, lin_q, Nat.reduceAdd, Nat.zero_add, Nat.reduceEqDiff, reduceIte, and_true, Int.add_zero] at hb9 hl9
              obtain ⟨l90, rfl, p90⟩ := lo_ref ha hlo9
              obtain ⟨y91, l91, rfl, d91, p91⟩ := lo_int rfl p90
              obtain ⟨y92, l92, rfl, d92, p92⟩ := lo_int rfl p91
              obtain ⟨y93, l93, rfl, d93, p93⟩ := lo_int rfl p92
              obtain ⟨y94, l94, rfl, d94, p94⟩ := lo_int rfl p93
              cases lo_nil p94
              rw [vn_at hx9 (n := 5) (z := zw.toInt) rfl] at d91
              have e91 : zw = y91 := Int32.toInt_inj.mp (by omega)
              subst e91
              rw [vn_at hx9 (n := 2) (z := z2.toInt) rfl] at d92
              rw [vn_at hx9 (n := 3) (z := z3.toInt) rfl] at d93
              rw [vn_at hx9 (n := 0) (z := 0) rfl] at d94
              cases hsk9.nil
              refine ih (t + 1) y92 y93 y94 ws9 (by omega) (by omega) (by omega) (by omega) ?_ hw9 (((f04.tr (wsub_ok (V := []) (by rfl) hf5)).tr (wsub_ok (V := []) (by rfl) hf8)).tr (wsub_ok (V := []) (by rfl) hf9))
              rw [← hR, hU]
              rw [if_neg (by omega), show y92.toInt = z2.toInt by omega, show y93.toInt = z3.toInt by omega]
            have hx0 := List.mem_singleton.mp hx
            subst hx0
            dsimp only at hlo9 hsk9 ⊢
            simp (config := { decide := true }) only [bnd_b, lin_b, lin_q, Nat.reduceAdd, Nat.zero_add, Nat.reduceEqDiff, reduceIte, and_true, Int.add_zero] at hb9 hl9
            obtain ⟨l90, rfl, p90⟩ := lo_ref ha hlo9
            obtain ⟨y91, l91, rfl, d91, p91⟩ := lo_int rfl p90
            obtain ⟨y92, l92, rfl, d92, p92⟩ := lo_int rfl p91
            obtain ⟨y93, l93, rfl, d93, p93⟩ := lo_int rfl p92
            obtain ⟨y94, l94, rfl, d94, p94⟩ := lo_int rfl p93
            cases lo_nil p94
            rw [vn_at hx9 (n := 5) (z := zw.toInt) rfl] at d91
            have e91 : zw = y91 := Int32.toInt_inj.mp (by omega)
            subst e91
            rw [vn_at hx9 (n := 4) (z := zm.toInt) rfl] at d92
            rw [vn_at hx9 (n := 0) (z := 0) rfl] at d93
            rw [vn_at hx9 (n := 0) (z := 0) rfl] at d94
            cases hsk9.nil
            refine ih (t + 1) y92 y93 y94 ws9 (by omega) (by omega) (by omega) (by omega) ?_ hw9 (((f04.tr (wsub_ok (V := []) (by rfl) hf5)).tr (wsub_ok (V := []) (by rfl) hf8)).tr (wsub_ok (V := []) (by rfl) hf9))
            rw [← hR, hU]
            rw [if_pos (by omega), show y92.toInt = mvF n a (ev_up E t 0) P by omega, show y93.toInt = (t : Int) by omega]
    · have htn' : t = n := by omega
      subst htn'
      have hR : (z2.toInt, z3.toInt) = R0 := by
        rw [← hR]
        exact (if_neg htn).symm
      refine hsum (st := (32, [(0, (0, 49, 0, 0)), (1, (1, 5, 0, 0)), (2, (1, 2, 0, 0)), (3, (1, 3, 0, 0)), (4, (1, 0, 0, (t : Int)))], [(1, 0, 0, (t : Int))], [(0, 0, false, 0, 0), (0, 2555, false, 1, 0), (-2147483648, 2147483647, false, 2, 0), (-4, 3, false, 3, 0), (0, (t : Int), false, 4, 0), (0, 1, false, 5, 0)], [(49, 1, (1, 4, 0, 0))], [])) (List.all_eq_true.mp um_mx t (List.mem_range.mpr (by omega))) rfl C (r := [0, 0, z2.toInt, z3.toInt, (t : Int), zw.toInt]) ⟨en_mk (by simp only [en_b, and_true]; omega) rfl, sb0, ⟨rfl, Or.inl ⟨rfl, ar, ha, rfl⟩, rfl, int_dv (z := zw.toInt) rfl (by omega), rfl, int_dv (z := z2.toInt) rfl (by omega), rfl, int_dv (z := z3.toInt) rfl (by omega), rfl, int_dv (z := 0) rfl (by omega), trivial⟩, ⟨int_dv (z := 0) rfl (by omega), trivial⟩, hw, kc ((hv0.fr hfr rfl).kn (n := 4) (t := (t : Int)) rfl (by omega)) (k0), fun _ _ _ _ h => h, fun h => by cases h⟩ (fun x hx r1 lv1 st1 ws1 hx1 hb1 hl1 hs1 hlo1 hsk1 hw1 hV1 hf1 _ => ?_)
      have m3 := nm_x hx1 (k := 3) rfl
      have m5 := nm_x hx1 (k := 5) rfl
      unfold um_mX at hx
      rcases List.mem_cons.mp hx with rfl | hx
      · skip
        dsimp only at hsk1 ⊢
        simp (config := { decide := true }) only [bnd_b, lin_b, lin_q, Nat.reduceAdd, Nat.zero_add, Nat.reduceEqDiff, reduceIte, and_true, Int.add_zero] at hb1 hl1
        obtain ⟨z, rfl, hz'⟩ := sk1 rfl hsk1
        rw [vn_at hx1 (n := 3) (z := z3.toInt) rfl] at hz'
        refine kk ws1 z lv1 hw1 (hfr.tr (wsub_ok (V := []) (by rfl) hf1)) ?_
        rw [← hR]
        unfold umR
        dsimp only
        rw [if_pos (by omega)]
        omega
      rcases List.mem_cons.mp hx with rfl | hx
      · skip
        dsimp only at hsk1 ⊢
        simp (config := { decide := true }) only [bnd_b, lin_b, lin_q, Nat.reduceAdd, Nat.zero_add, Nat.reduceEqDiff, reduceIte, and_true, Int.add_zero] at hb1 hl1
        obtain ⟨z, rfl, hz'⟩ := sk1 rfl hsk1
        rw [vn_at hx1 (n := 2) (z := z2.toInt) rfl] at hz'
        refine kk ws1 z lv1 hw1 (hfr.tr (wsub_ok (V := []) (by rfl) hf1)) ?_
        rw [← hR]
        unfold umR
        dsimp only
        rw [if_neg (by omega)]
        omega
      have hx9 := List.mem_singleton.mp hx
      subst hx9
      dsimp only at hsk1 ⊢
      simp (config := { decide := true }) only [bnd_b, lin_b, lin_q, Nat.reduceAdd, Nat.zero_add, Nat.reduceEqDiff, reduceIte, and_true, Int.add_zero] at hb1 hl1
      obtain ⟨z, rfl, hz'⟩ := sk1 rfl hsk1
      rw [vn_at hx1 (n := 3) (z := z3.toInt) rfl] at hz'
      refine kk ws1 z lv1 hw1 (hfr.tr (wsub_ok (V := []) (by rfl) hf1)) ?_
      rw [← hR]
      unfold umR
      dsimp only
      rw [if_pos (by omega)]
      omega
theorem um_mdl {ar n a : Nat} {E P : Nat → Int} {zw : Int32} {ws : va_W} (C : ai_cx tb_m149 10 p R s m args c D tys A b L sx cells slots) (ha : ad[49]? = some ar) (hn : n ≤ 4) (ha8 : a ≤ 8) (hg : good n E) (hP : ∀ j, j < a → P j = 4 ∨ (0 ≤ P j ∧ P j < n)) (hzw : 0 ≤ zw.toInt ∧ zw.toInt ≤ 1) (hw : ai_wd tb_TY ad tys ws) (hv0 : vi ws 49 1 n) (hv3 : vi ws 50 26 a) (hp : ∀ j, j < a → vi ws 50 (18 + j) (P j)) (hc : pev ws 0 n E)
    (kk : ∀ (ws' : va_W) (z : Int32) (lv' : List (Nat × Value)), ai_wd tb_TY ad tys ws' → ai_fr tb_WR7 ws ws' → z.toInt = umR (umF n a E P 5 0 (mvF n a E P) (-4)) zw.toInt → hG tb_m149 p l e R s m args below meth c D A cells slots Q 121 lv' [.int z] ws') : hG tb_m149 p l e R s m args below meth c D A cells slots Q 0 [(0, .ref ar), (1, .int zw)] [] ws := by
  refine hsum (st := (0, [(0, (0, 49, 0, 0)), (1, (1, 2, 0, 0))], [], [(0, 0, false, 0, 0), (0, 2555, false, 1, 0), (0, 1, false, 2, 0)], [], [])) um_m0 rfl C (r := [0, 0, zw.toInt]) ⟨en_mk (by simp only [en_b, and_true]; omega) rfl, sb0, ⟨rfl, Or.inl ⟨rfl, ar, ha, rfl⟩, rfl, int_dv (z := zw.toInt) rfl (by omega), trivial⟩, trivial, hw, k0, fun _ _ _ _ h => h, fun h => by cases h⟩ (fun x hx r1 lv1 st1 ws1 hx1 hb1 hl1 hs1 hlo1 hsk1 hw1 hV1 hf1 _ => ?_)
  have hx9 := List.mem_singleton.mp hx
  subst hx9
  dsimp only at hlo1 hsk1 ⊢
  obtain ⟨l10, rfl, p10⟩ := lo_ref ha hlo1
  obtain ⟨y11, l11, rfl, d11, p11⟩ := lo_int rfl p10
  cases lo_nil p11
  rw [vn_at hx1 (n := 2) (z := zw.toInt) rfl] at d11
  have e11 : zw = y11 := Int32.toInt_inj.mp (by omega)
  subst e11
  obtain ⟨x10, s10, rfl, c10, g10⟩ := hsk1.cons
  obtain ⟨x11, s11, rfl, c11, g11⟩ := g10.cons
  cases g11.nil
  obtain ⟨u10, rfl, w10⟩ := dvn c10 (hx1.at (k := 0) rfl)
  have f11 := ref_of49 ha c11
  subst f11
  refine hcallV (q := (184, 0, 135, 1, 6)) (M' := tb_m135) (cl := 49) (a := ar) (As := [.int u10]) (rest := []) (rets := [77]) (P := pg_P ad tys n a E P ws1) C (by decide) (tv_m149.1.1.1 (14, .invokevirtual 184, 3) (List.mem_of_getElem? (i := 10) rfl)) (tv_m149.2 _ (List.mem_of_getElem? (i := 23) rfl)) rfl rfl rfl rfl (by decide) (Nat.le_of_ble_eq_true rfl) rfl rfl rfl rfl hw1 ha (Nat.le_of_ble_eq_true rfl) ?_ ?_ ?_
  · intro pcr hp
    simp only [List.mem_cons, List.not_mem_nil, or_false] at hp
    rcases hp with rfl
    · exact tv_m135.1.1.1 (77, .return_, 1) (List.mem_of_getElem? (i := 43) rfl)
  · intro p2 e2 R2 s2 m2 args2 below2 meth2 c2 Q2 C2 kk2
    exact pg_all (pg := 0) (mm_cx (by decide) C2) (Or.inl rfl) cs_r7 (by decide +kernel) ha (by omega) hn ha8 hg hP hw1 (hv0.fr hf1 rfl) (hv3.fr hf1 rfl) (fun j hj => (hp j hj).fr hf1 (nowr_ok (c := 50) rfl _ _)) (hc.fr hn hf1 (fun _ _ => rfl)) (fun w lv2 h => kk2 77 w lv2 (by decide) h)
  · intro ws4 hpg
    obtain ⟨hw4, hf4, hc4, v17⟩ := hpg
    have hg4 := plE_g hn hg hP a (Nat.le_refl _)
    have n4 : vi ws4 49 1 n := (hv0.fr hf1 rfl).fr hf4 rfl
    have f04 : ai_fr tb_WR7 ws ws4 := (wsub_ok (V := []) (by rfl) hf1).tr (wsub_ok (V := pg_W) (by decide) hf4)
    refine hsum (st := (17, [(0, (0, 49, 0, 0)), (1, (1, 2, 0, 0))], [], [(0, 0, false, 0, 0), (0, 2555, false, 1, 0), (0, 1, false, 2, 0)], [], [])) um_m1 rfl C (r := [0, 0, zw.toInt]) ⟨en_mk (by simp only [en_b, and_true]; omega) rfl, sb0, ⟨rfl, Or.inl ⟨rfl, ar, ha, rfl⟩, rfl, int_dv (z := zw.toInt) rfl (by omega), trivial⟩, trivial, hw4, k0, fun _ _ _ _ h => h, fun h => by cases h⟩ (fun x hx r5 lv5 st5 ws5 hx5 hb5 hl5 hs5 hlo5 hsk5 hw5 hV5 hf5 _ => ?_)
    have hx9 := List.mem_singleton.mp hx
    subst hx9
    dsimp only at hlo5 hsk5 ⊢
    obtain ⟨l50, rfl, p50⟩ := lo_ref ha hlo5
    obtain ⟨y51, l51, rfl, d51, p51⟩ := lo_int rfl p50
    cases lo_nil p51
    rw [vn_at hx5 (n := 2) (z := zw.toInt) rfl] at d51
    have e51 : zw = y51 := Int32.toInt_inj.mp (by omega)
    subst e51
    obtain ⟨x50, s50, rfl, c50, g50⟩ := hsk5.cons
    obtain ⟨x51, s51, rfl, c51, g51⟩ := g50.cons
    cases g51.nil
    obtain ⟨u50, rfl, w50⟩ := dvn c50 (hx5.at (k := 0) rfl)
    have f51 := ref_of49 ha c51
    subst f51
    refine hcallI (q := (139, 0, 117, 1, 6)) (M' := tb_m117) (cl := 49) (a := ar) (As := [.int u50]) (rest := []) (rets := [33]) (P := fun w z => ai_wd tb_TY ad tys w ∧ ai_fr [] ws5 w ∧ z.toInt = mvF n a E P) C (by decide) (tv_m149.1.1.1 (20, .invokevirtual 139, 3) (List.mem_of_getElem? (i := 13) rfl)) (tv_m149.2 _ (List.mem_of_getElem? (i := 13) rfl)) rfl rfl rfl rfl (by decide) (Nat.le_of_ble_eq_true rfl) rfl rfl rfl rfl hw5 ha (Nat.le_of_ble_eq_true rfl) ?_ ?_ ?_
    · intro pcr hp
      simp only [List.mem_cons, List.not_mem_nil, or_false] at hp
      rcases hp with rfl
      · exact tv_m117.1.1.1 (33, .ireturn, 1) (List.mem_of_getElem? (i := 22) rfl)
    · intro p2 e2 R2 s2 m2 args2 below2 meth2 c2 Q2 C2 kk2
      exact mo_all (mm_cx (by decide) C2) (Or.inr rfl) ha (by omega) hn (fun i hi => by have := hg4.1 i hi; show 0 ≤ plE P (E) a (8 + i) ∧ plE P (E) a (8 + i) ≤ 99; omega) hw5 ⟨n4.fr hf5 rfl, fun i hi => (hc4.1 i hi).2.2.1.fr hf5 rfl⟩ (fun w z lv2 h1 h2 h3 => kk2 33 w z lv2 (by decide) ⟨h1, h2, h3⟩)
    · intro ws6 z6 hP6
      obtain ⟨hw6, hf6, ez6⟩ := hP6
      have bz6 := ai_irg z6
      refine hsum (st := (23, [(0, (0, 49, 0, 0)), (1, (1, 2, 0, 0))], [(1, 3, 0, 0)], [(0, 0, false, 0, 0), (0, 2555, false, 1, 0), (0, 1, false, 2, 0), (-2147483648, 2147483647, false, 3, 0)], [], [])) um_m3 rfl C (r := [0, 0, zw.toInt, z6.toInt]) ⟨en_mk (by simp only [en_b, and_true]; omega) rfl, sb0, ⟨rfl, Or.inl ⟨rfl, ar, ha, rfl⟩, rfl, int_dv (z := zw.toInt) rfl (by omega), trivial⟩, ⟨int_dv (z := z6.toInt) rfl (by omega), trivial⟩, hw6, k0, fun _ _ _ _ h => h, fun h => by cases h⟩ (fun x hx r7 lv7 st7 ws7 hx7 hb7 hl7 hs7 hlo7 hsk7 hw7 hV7 hf7 _ => ?_)
      have hx9 := List.mem_singleton.mp hx
      subst hx9
      dsimp only at hlo7 hsk7 ⊢
      obtain ⟨l70, rfl, p70⟩ := lo_ref ha hlo7
      obtain ⟨y71, l71, rfl, d71, p71⟩ := lo_int rfl p70
      obtain ⟨y72, l72, rfl, d72, p72⟩ := lo_int rfl p71
      obtain ⟨y73, l73, rfl, d73, p73⟩ := lo_int rfl p72
      obtain ⟨y74, l74, rfl, d74, p74⟩ := lo_int rfl p73
      cases lo_nil p74
      rw [vn_at hx7 (n := 2) (z := zw.toInt) rfl] at d71
      have e71 : zw = y71 := Int32.toInt_inj.mp (by omega)
      subst e71
      rw [vn_at hx7 (n := 3) (z := z6.toInt) rfl] at d72
      rw [vn_at hx7 (n := 0) (z := 0) rfl] at d73
      rw [vn_at hx7 (n := 0) (z := 0) rfl] at d74
      cases hsk7.nil
      exact um_ml (ws0 := ws) C ha hn ha8 hg hP hzw hv0 hv3 hp hc kk 5 0 y72 y73 y74 ws7 rfl (Nat.zero_le _) (by omega) (by omega) (by rw [show y72.toInt = mvF n a E P by omega, show y73.toInt = -4 by omega]) hw7 (((f04.tr (wsub_ok (V := []) (by rfl) hf5)).tr (wsub_ok (V := []) (by rfl) hf6)).tr (wsub_ok (V := []) (by rfl) hf7))
end XU1
theorem um9_n : ((ai_ex (hk []) 300 169 tb_m169 11 [1297] (719, lw_lo, [], lw_eb (-2147483648) (-1), [], [])).any fun xs => xs.all lw_un) = true := by decide +kernel
theorem um9_o : ((ai_ex (hk []) 300 169 tb_m169 11 [1297] (719, lw_lo, [], lw_eb 2 2147483647, [], [])).any fun xs => xs.all lw_un) = true := by decide +kernel
section XU2
variable {ad : List Nat} {M : ai_m} {d : Nat} {p : Program} {l : Launch} {e : Env} {R : Room} {s : State} {m : MethodId} {args : Array Value} {below : List Frame} {meth : Method} {c : Code} {D : va_G} {tys : ai_ty} {A : Nat → Prop} {b L : Nat} {sx : Nat → Int32} {cells slots : Nat} {Q : State → Prop}
set_option maxRecDepth 20000 in
theorem lw_unmask {i q0 q49 : Nat} {ws : va_W} (C : ai_cx tb_m169 11 p R s m args c D tys A b L sx cells slots) (e0 : ad[0]? = some q0) (e49 : ad[49]? = some q49) (hi : i + 5 ≤ L) (hL : L ≤ 2560) (hw : ai_wd tb_TY ad tys ws) (hI : Inv ws)
    (k : ∀ wc, ai_wd tb_TY ad tys wc → Inv wc → hG tb_m169 p l e R s m args below meth c D A cells slots Q 1297 [(0, .ref b), (1, .ref q0), (2, .ref q49), (3, .int (nI i))] [] wc) : hG tb_m169 p l e R s m args below meth c D A cells slots Q 719 [(0, .ref b), (1, .ref q0), (2, .ref q49), (3, .int (nI i))] [] ws := by
  have b0 := ai_irg (sx i)
  have b1 := ai_irg (sx (i + 1))
  have b2 := ai_irg (sx (i + 2))
  have b3 := ai_irg (sx (i + 3))
  have b4 := ai_irg (sx (i + 4))
  obtain ⟨t, g, u, q, y, n, j0, j1, E, a, P, hb, hp, hi0, hi1, hs⟩ := id hI
  obtain ⟨hn1, hn2, hn4⟩ := hb.2.2.2.2.1
  obtain ⟨hc, he, hg⟩ := hp.1
  obtain ⟨p3, p26, p8⟩ := hp.2.1
  have hP : ∀ j, j < a → P j = 4 ∨ (0 ≤ P j ∧ P j < n) := fun j hj => (hp.2.2 j hj).2.2
  obtain ⟨a1, -, -, e1, -⟩ := hw.get (c := 1) rfl
  obtain ⟨a7, -, -, e7, -⟩ := hw.get (c := 7) rfl
  by_cases h1 : (sx (i + 1)).toInt < 0
  · exact lw_no (rr := []) C e0 e49 hi hL hw hI um9_n (en_mk (by simp only [lw_r, lw_eb, List.append_nil, en_b, and_true]; omega) rfl) sb0 k0 k
  by_cases h2 : 1 < (sx (i + 1)).toInt
  · exact lw_no (rr := []) C e0 e49 hi hL hw hI um9_o (en_mk (by simp only [lw_r, lw_eb, List.append_nil, en_b, and_true]; omega) rfl) sb0 k0 k
  have hzw : 0 ≤ (sx (i + 1)).toInt ∧ (sx (i + 1)).toInt ≤ 1 := by omega
  refine law2 (P1 := fun w z1 => ai_wd tb_TY ad tys w ∧ ai_fr tb_WR7 ws w ∧ z1.toInt = umR (umF n a E P 5 0 (mvF n a E P) (-4)) (sx (i + 1)).toInt) (P2 := fun wa _ w z1 => ai_wd tb_TY ad tys w ∧ ai_fr tb_WR7 wa w ∧ z1.toInt = umR (umF n a E P 5 0 (mvF n a E P) (-4)) (sx (i + 1)).toInt) (rets1 := [97]) (rets2 := [121]) C e0 e49 hi hL hw (n := 1) (cmp := true) (by decide) lr_unmaskA lr_unmaskB lr_unmaskC (q1 := (101, 0, 74, 1, 5)) (tv_m169.1.1.1 (725, .invokevirtual 101, 3) (List.mem_of_getElem? (i := 425) rfl)) (tv_m169.2 _ (List.mem_of_getElem? (i := 42) rfl)) rfl rfl rfl rfl (by decide) (Nat.le_of_ble_eq_true rfl) rfl rfl (q2 := (104, 0, 149, 1, 6)) (tv_m169.1.1.1 (734, .invokevirtual 104, 3) (List.mem_of_getElem? (i := 432) rfl)) (tv_m169.2 _ (List.mem_of_getElem? (i := 43) rfl)) rfl rfl rfl rfl (by decide) (Nat.le_of_ble_eq_true rfl) rfl rfl ?_ ?_ ?_ (fun wa z1 h => h.1) ?_ (fun wa z1 wb z2 h1 h2 => ⟨h2.1, fun _ => Int32.toInt_inj.mp (by rw [h1.2.2, h2.2.2])⟩) (fun wa z1 wb z2 wc h1 h2 hwc hf => k wc hwc (hI.rd hwc ((h1.2.1.tr h2.2.1).tr (wsub_ok (V := []) (by rfl) hf))))
  · intro pcr hpc
    rw [List.mem_singleton.mp hpc]
    exact tv_m74.1.1.1 (97, .ireturn, 1) (List.mem_of_getElem? (i := 50) rfl)
  · intro pcr hpc
    rw [List.mem_singleton.mp hpc]
    exact tv_m149.1.1.1 (121, .ireturn, 1) (List.mem_of_getElem? (i := 65) rfl)
  · intro p e R s m args below meth c Q w hw' hf C2 kk
    exact um_cls C2 e0 e1 e7 hn4 p8 hg hP hzw hw' (hn1.fr hf rfl) (p3.fr hf rfl) (fun j hj => (hp.2.2 j hj).1.fr hf (nowr_ok (c := 6) rfl _ _)) (hc.fr hf rfl) (fun w' z lv g1 g2 g3 => kk 97 w' z lv (by decide) ⟨g1, (wsub_ok (V := []) (by rfl) hf).tr g2, g3⟩)
  · intro p e R s m args below meth c Q wa z1 w hP1 hw' hf C2 kk
    have hfa : ai_fr tb_WR7 ws w := hP1.2.1.tr (wsub_ok (V := []) (by rfl) hf)
    exact um_mdl C2 e49 hn4 p8 hg hP hzw hw' (hn2.fr hfa rfl) (p26.fr hfa rfl) (fun j hj => (hp.2.2 j hj).2.1.fr hfa (um_off (by omega))) (he.fr hn4 hfa (fun j hj => um_off (by omega))) (fun w' z lv g1 g2 g3 => kk 121 w' z lv (by decide) ⟨g1, (wsub_ok (V := []) (by rfl) hf).tr g2, g3⟩)
end XU2
