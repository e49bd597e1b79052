/-! the reference's readPlan: a round of it from literal states (m acts so far) -/
def rp_WR : List (Nat × Nat × Nat) := [(49, 5, 6), (49, 9, 15), (51, 18, 27)]
def rp_Wm (m : Nat) : List (Nat × Nat × Nat) := [(49, 5, 6), (49, 9, 15), (51, 18 + min m 7, 19 + min m 7), (51, 26, 27)]
def rp_st (m : Nat) : ai_s := (0, ms_lo, [], [(0, 0, false, 0, 0), (0, 2555, false, 1, 0), (0, 160, false, 2, 0), (0, 160, false, 3, 0), (0, 160, false, 4, 0), (-2147483648, 2147483647, false, 5, 0), (-1, 3, false, 6, 0)],
  [(49, 7, (1, 2, 0, 0)), (49, 12, (1, 3, 0, 0)), (49, 11, (1, 4, 0, 0)), (49, 14, (1, 5, 0, 0)), (49, 9, (1, 0, 0, 0)), (49, 13, (1, 0, 0, 2)), (49, 5, (1, 6, 0, 0)), (51, 26, (1, 0, 0, (m : Int)))], [(350, 2, 2, 2, 0)])
def rp_gt (x : ai_s) : Bool := av_f x 5 5 6 none 1 || av_f x 4 6 5 none 0
def rp_le (x : ai_s) : Bool := av_f x 4 5 6 none 1 || av_f x 5 6 5 none 0
def rp_hi (x : ai_s) : Bool := (s9 x 5 (1, 5, 0, 0) && (((x.2.2.2.1[5]?).any fun e => decide (e.2.1 ≤ 3)) && rp_gt x)) || (s9 x 5 (1, 6, 0, 0) && (((x.2.2.2.1[5]?).any fun e => decide (4 ≤ e.1)) || rp_le x))
def rp_tk (x : ai_s) (kb : Nat × Nat) : Bool := if kb.1 = 4 then s9 x 9 (1, 0, 0, 1) && s9 x 10 (1, kb.2, 0, 0) else s9 x 9 (1, 0, 0, 0) && (s9 x 13 (1, 0, 0, (kb.1 : Int)) && (s9 x 12 (1, kb.2, 0, 0) && (s9 x 11 (1, kb.2 + 1, 0, 0) && s9 x 14 (1, kb.2 + 2, 0, 0))))
def rp_ok (m : Nat) (x : ai_s) : Bool := x.2.2.1.isEmpty && (decide (ai_get x.2.1 0 = some (0, 49, 0, 0)) &&
  (if m = 8 then Nat.beq x.1 32 && (s9 x 9 (1, 0, 0, 5) && s9 x 10 (1, 3, 0, 0))
   else Nat.beq x.1 94 && (decide (ai_lk x.2.2.2.2.1 51 26 = some (1, 0, 0, (m : Int) + 1)) && (sy_bd x 5 0 4).any fun o => if o = true then rp_hi x && (lkq x 51 (18 + m) (1, 5, 0, 0) && (sy_tk x 2 4).any (rp_tk x)) else s9 x 9 (1, 0, 0, 3) && s9 x 10 (1, 3, 0, 0))))
noncomputable def rp_r (m : Nat) : Bool := (ai_ex (hkT (rp_Wm m)) 400 106 tb_m106 7 [32, 94] (rp_st m)).any fun xs => xs.all (rp_ok m)
theorem rp_r0 : ((List.range 9).all rp_r) = true := by decide +kernel
def rp_xb (c : Int) : ai_s := (0, ms_lo, [], [(0, 0, false, 0, 0), (0, 2555, false, 1, 0)], [(49, 9, (1, 0, 0, c))], [])
def rp_xk (k : Int) : ai_s := (0, ms_lo, [], [(0, 0, false, 0, 0), (0, 2555, false, 1, 0)], [(49, 9, (1, 0, 0, 0)), (49, 13, (1, 0, 0, k))], [])
noncomputable def rp_x (st : ai_s) : Bool := (ai_ex (hkT []) 20 106 tb_m106 7 [] st).any fun xs => xs.all fun x => x.2.2.1.isEmpty && Nat.beq x.1 97
theorem rp_b1 : rp_x (rp_xb 1) = true := by decide +kernel
theorem rp_b3 : rp_x (rp_xb 3) = true := by decide +kernel
theorem rp_b5 : rp_x (rp_xb 5) = true := by decide +kernel
theorem rp_k0 : rp_x (rp_xk 0) = true := by decide +kernel
theorem rp_k1 : rp_x (rp_xk 1) = true := by decide +kernel
theorem rp_k3 : rp_x (rp_xk 3) = true := by decide +kernel
