/-! one round of the law -/
def lb_lo : List (Nat × ai_v) := [(0, (4, 0, 0, 0)), (1, (0, 0, 0, 0)), (2, (0, 49, 0, 0)), (3, (1, 1, 0, 0))]
def lb_st : ai_s := (26, lb_lo, [], [(0, 0, false, 0, 0), (0, 2555, false, 1, 0), (0, 160, false, 2, 0), (-2147483648, 2147483647, false, 3, 0), (-2147483648, 2147483647, false, 4, 0), (-2147483648, 2147483647, false, 5, 0), (-2147483648, 2147483647, false, 6, 0), (-2147483648, 2147483647, false, 7, 0), (-2147483648, 2147483647, false, 8, 0), (0, 4, false, 9, 0), (0, 6, false, 10, 0), (0, 8, false, 11, 0)], [(26, 1, (1, 2, 0, 0)), (49, 7, (1, 2, 0, 0)), (0, 9, (1, 8, 0, 0)), (49, 8, (1, 8, 0, 0)), (1, 0, (1, 9, 0, 0)), (49, 1, (1, 9, 0, 0)), (34, 0, (1, 10, 0, 0)), (49, 19, (1, 10, 0, 0)), (1, 3, (1, 11, 0, 0)), (50, 26, (1, 11, 0, 0))], [(350, 2, 2, 2, 0)])
def lb_cut : List Nat := [196, 219, 242, 255, 268, 291, 324, 347, 390, 413, 436, 459, 482, 505, 528, 551, 574, 597, 630, 663, 696, 719, 742, 795, 848, 901, 924, 947, 980, 1033, 1076, 1099, 1122, 1165, 1208, 1261, 1274, 1297]
noncomputable def lb_hd : Option (List ai_s) := ai_ex tb_K4 5000 169 tb_m169 11 lb_cut lb_st
def lb_okE (x : ai_s) : Bool :=
  decide (x.1 = 1297) && x.2.2.1.isEmpty && decide (ai_get x.2.1 0 = some (4, 0, 0, 0)) && decide (ai_get x.2.1 1 = some (0, 0, 0, 0)) && decide (ai_get x.2.1 2 = some (0, 49, 0, 0)) && decide (ai_get x.2.1 3 = some (1, 1, 0, 0)) &&
  (ai_lk x.2.2.2.2.1 26 1).any fun v => decide (ai_lk x.2.2.2.2.1 49 7 = some v) && (ai_i x.2.2.2.1 v).any fun p => decide (0 ≤ p.1) && decide (p.2 ≤ 160)
def lb_ok4 (x : ai_s) : Bool := lb_okE x && (((ai_lk x.2.2.2.2.1 26 1).any fun v => decide (v = (1, v.2.1, 0, 0)) && (Nat.beq v.2.1 0 || (Nat.beq v.2.1 2 || (av_f x 5 2 v.2.1 none 0 || av_f x 4 v.2.1 2 none 1)))) && (l2 x 0 9 49 8 && ((lq x 1 0 (1, 9, 0, 0) && lq x 49 1 (1, 9, 0, 0)) && (l2 x 34 0 49 19 && l2 x 1 3 50 26))))
noncomputable def lb_case (ms : List mm_e) (j : Nat) : Bool := lb_hd.any fun xs => (xs[j]?).any fun x => (m4_x ms 5000 169 tb_m169 11 [1297] x).any fun ys => ys.all lb_ok4
theorem lb_len : (lb_hd.any fun xs => Nat.beq xs.length 38) = true := by decide +kernel
/-- an end's bounds and knowledge, by what is other than at the beginning: places kept, dropped, new -/
def mm_d {α : Type} : List (Nat × α) → Nat → List α → List α → List α
  | _, _, [], nw => nw
  | [], _, x :: l, nw => x :: mm_d [] 0 l nw
  | (i, y) :: c, n, x :: l, nw => if Nat.beq i n = true then y :: mm_d c (n + 1) l nw else x :: mm_d ((i, y) :: c) (n + 1) l nw
def mm_k {α : Type} : List Nat → Nat → List α → List α
  | _, _, [] => []
  | [], _, x :: l => x :: l
  | i :: c, n, x :: l => if Nat.beq i n = true then mm_k c (n + 1) l else x :: mm_k (i :: c) (n + 1) l
def mm_n (s : ai_s) (pc : Nat) (lo : List (Nat × ai_v)) (sk : List ai_v) (ch : List (Nat × ai_e)) (nw : List ai_e) (kf : List ai_k) (kd : List Nat) (sb : List ai_b) : ai_s := (pc, lo, sk, mm_d ch 0 s.2.2.2.1 nw, kf ++ mm_k kd 0 s.2.2.2.2.1, sb)
