/-! text of the reference: its pieces -/
def rt_0 : ai_s := (0, ms_lo, [], [(0, 0, false, 0, 0), (0, 2555, false, 1, 0), (0, 160, false, 2, 0)], [(49, 7, (1, 2, 0, 0))], [(350, 2, 2, 2, 0)])
def rt_0ok (x : ai_s) : Bool := x.2.2.1.isEmpty && (Nat.beq x.1 52 && (rl_this x && (decide (ai_get x.2.1 1 = some (1, 0, 0, 0)) && ((sy_tk x 2 0).any (rp_tk x) && (s9 x 3 (1, 0, 0, 0) && (s9 x 4 (1, 0, 0, 0) && (s9 x 5 (1, 0, 0, -1) && decide (ai_lk x.2.2.2.2.1 51 26 = some (1, 0, 0, 0)))))))))
theorem rt_r0 : ((ai_ex (hkT rl_W) 3000 109 tb_m109 10 [52] rt_0).any fun xs => xs.all rt_0ok) = true := by decide +kernel
def rt_lo : List (Nat × ai_v) := [(0, (0, 49, 0, 0)), (1, (1, 2, 0, 0))]
def rt_h : ai_s := (52, rt_lo, [], [(0, 0, false, 0, 0), (0, 2555, false, 1, 0), (0, 161, false, 2, 0), (0, 3, false, 3, 0)], [(49, 9, (1, 0, 0, 0)), (49, 13, (1, 3, 0, 0))], [])
def rt_hok (x : ai_s) : Bool := rl_this x && (decide (ai_get x.2.1 1 = some (1, 2, 0, 0)) &&
  ((Nat.beq x.1 76 && (x.2.2.1.isEmpty && pm_e x 3 fun e => decide (e.2.1 ≤ 0))) ||
   (Nat.beq x.1 67 && (decide (x.2.2.1 = [(0, 49, 0, 0)]) && (x.2.2.2.1[3]?).any fun e => e.2.2.1 || decide (1 ≤ e.1)))))
theorem rt_rh : ((ai_ex (hk []) 60 109 tb_m109 10 [67, 76] rt_h).any fun xs => xs.all rt_hok) = true := by decide +kernel
def rt_b (pc : Nat) : ai_s := (pc, rt_lo, [], [(0, 0, false, 0, 0), (0, 2555, false, 1, 0), (0, 161, false, 2, 0), (1, 5, false, 3, 0)], [(49, 9, (1, 3, 0, 0))], [])
theorem rt_rb : ((ai_ex (hk []) 60 109 tb_m109 10 [76] (rt_b 52)).any fun xs => xs.all fun x => x.2.2.1.isEmpty && (Nat.beq x.1 76 && rl_this x)) = true := by decide +kernel
theorem rt_rb70 : ((ai_ex (hk []) 60 109 tb_m109 10 [76] (rt_b 70)).any fun xs => xs.all fun x => x.2.2.1.isEmpty && (Nat.beq x.1 76 && rl_this x)) = true := by decide +kernel
def rt_70 : ai_s := (70, rt_lo, [], [(0, 0, false, 0, 0), (0, 2555, false, 1, 0), (0, 161, false, 2, 0)], [], [])
theorem rt_r70 : ((ai_ex (hk []) 60 109 tb_m109 10 [73] rt_70).any fun xs => xs.all fun x => x.2.2.1.isEmpty && (Nat.beq x.1 73 && (rl_this x && decide (ai_get x.2.1 1 = some (1, 2, 0, 1))))) = true := by decide +kernel
def mt_We : List (Nat × Nat × Nat) := [(49, 3, 15), (51, 0, 27)]
def mt_W : List (Nat × Nat × Nat) := [(49, 1, 2), (49, 3, 15), (49, 19, 20), (50, 0, 27), (51, 0, 27), (56, 0, 2)]
def rt_e : ai_s := (76, ms_lo, [], [(0, 0, false, 0, 0), (0, 2555, false, 1, 0), (1, 5, false, 2, 0), (0, 160, false, 3, 0)], [(49, 9, (1, 2, 0, 0)), (49, 10, (1, 3, 0, 0))], [])
def rt_neg (x : ai_s) (nm : Nat) : Bool := match x.2.2.1 with
  | [v] => decide (v = (1, v.2.1, 0, 0)) && av_f x 0 0 nm (some v.2.1) 10
  | _ => false
theorem rt_re : ((ai_ex (hk mt_We) 200 109 tb_m109 10 [] rt_e).any fun xs => xs.all fun x => Nat.beq x.1 127 && (s9 x 7 (1, 0, 0, 0) && (s9 x 8 (1, 2, 0, 0) && rt_neg x 3))) = true := by decide +kernel
def rt_o (sb : List ai_b) : ai_s := (76, [(0, (0, 49, 0, 0)), (1, (1, 5, 0, 0))], [], [(0, 0, false, 0, 0), (0, 2555, false, 1, 0), (-1, 3, false, 2, 0), (0, 4, false, 3, 0), (0, 160, false, 4, 0), (0, 161, false, 5, 0), (0, 8, false, 6, 0)], [(49, 9, (1, 0, 0, 0)), (49, 5, (1, 2, 0, 0)), (49, 3, (1, 3, 0, 0)), (49, 12, (1, 4, 0, 0)), (51, 26, (1, 6, 0, 0))], sb)
theorem rt_r6 : ((ai_ex (hk mt_We) 3000 109 tb_m109 10 [] (rt_o [(5, 2, 3, 2, 0)])).any fun xs => xs.all fun x => s9 x 7 (1, 0, 0, 0) && (Nat.beq x.1 127 && (s9 x 8 (1, 0, 0, 6) && rt_neg x 4))) = true := by decide +kernel
def rt_ook (x : ai_s) : Bool := s9 x 7 (1, 0, 0, 0) && (Nat.beq x.1 182 && (s9 x 8 (1, 0, 0, 0) && (decide (x.2.2.1 = [(1, 5, 0, 0)]) && (s9 x 1 (1, 3, 0, 0) && (decide (ai_lk x.2.2.2.2.1 50 26 = some (1, 6, 0, 0)) && (s9 x 19 (1, 0, 0, 0) && (decide (ai_lk x.2.2.2.2.1 56 0 = some (1, 0, 0, 0)) && decide (ai_lk x.2.2.2.2.1 56 1 = some (1, 0, 0, 0)))))))))
theorem rt_ro : ((ai_ex (hk mt_W) 3000 109 tb_m109 10 [] (rt_o [(4, 2, 3, 2, 0)])).any fun xs => xs.all rt_ook) = true := by decide +kernel
