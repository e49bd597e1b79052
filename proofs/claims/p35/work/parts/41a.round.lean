/-! one round of the law -/
def lb_lo : List (Nat × ai_v) := [(0, (4, 0, 0, 0)), (1, (0, 0, 0, 0)), (2, (0, 49, 0, 0)), (3, (1, 1, 0, 0))]
def lb_en : List ai_e := [(0, 0, false, 0, 0), (0, 2555, false, 1, 0), (0, 160, false, 2, 0), ((-2147483648), 2147483647, false, 3, 0), ((-2147483648), 2147483647, false, 4, 0), ((-2147483648), 2147483647, false, 5, 0), ((-2147483648), 2147483647, false, 6, 0), ((-2147483648), 2147483647, false, 7, 0), (0, 40, false, 8, 0), (0, 40, false, 9, 0), (0, 40, false, 10, 0), (0, 40, false, 11, 0), ((-2147483648), 2147483647, false, 12, 0), ((-2147483648), 2147483647, false, 13, 0), ((-2147483648), 2147483647, false, 14, 0), ((-2147483648), 2147483647, false, 15, 0), ((-2147483648), 2147483647, false, 16, 0), ((-2147483648), 2147483647, false, 17, 0), ((-2147483648), 2147483647, false, 18, 0), ((-2147483648), 2147483647, false, 19, 0)]
def lb_kn : List ai_k := [(26, 1, 1, 2, 0, 0), (49, 7, 1, 2, 0, 0), (43, 0, 1, 8, 0, 0), (58, 0, 1, 8, 0, 0), (42, 0, 1, 12, 0, 0), (57, 0, 1, 16, 0, 0), (43, 1, 1, 9, 0, 0), (58, 1, 1, 9, 0, 0), (42, 1, 1, 13, 0, 0), (57, 1, 1, 17, 0, 0), (43, 2, 1, 10, 0, 0), (58, 2, 1, 10, 0, 0), (42, 2, 1, 14, 0, 0), (57, 2, 1, 18, 0, 0), (43, 3, 1, 11, 0, 0), (58, 3, 1, 11, 0, 0), (42, 3, 1, 15, 0, 0), (57, 3, 1, 19, 0, 0)]
def lb_st : ai_s := (26, lb_lo, [], lb_en, lb_kn, [])
def lb_cut : List Nat := [196, 219, 242, 255, 268, 291, 324, 347, 390, 413, 436, 459, 482, 505, 528, 551, 574, 597, 630, 663, 696, 719, 742, 795, 848, 901, 924, 947, 980, 1033, 1076, 1099, 1122, 1165, 1208, 1261, 1274, 1297]
noncomputable def lb_hd : Option (List ai_s) := ai_ex tb_K 5000 169 tb_m169 11 lb_cut lb_st
def lb_okE (x : ai_s) : Bool :=
  decide (x.1 = 1297) && x.2.2.1.isEmpty && decide (ai_get x.2.1 0 = some (4, 0, 0, 0)) && decide (ai_get x.2.1 1 = some (0, 0, 0, 0)) && decide (ai_get x.2.1 2 = some (0, 49, 0, 0)) && decide (ai_get x.2.1 3 = some (1, 1, 0, 0)) &&
  (ai_lk x.2.2.2.2.1 26 1).any fun v => decide (ai_lk x.2.2.2.2.1 49 7 = some v) && (ai_i x.2.2.2.1 v).any fun p => decide (0 ≤ p.1) && decide (p.2 ≤ 160)
def lb_lane (x : ai_s) (k : Nat) : Bool :=
  ((ai_lk x.2.2.2.2.1 43 k).any fun v => decide (ai_lk x.2.2.2.2.1 58 k = some v) && (ai_i x.2.2.2.1 v).any fun p => decide (0 ≤ p.1) && decide (p.2 ≤ 40)) &&
  ((decide (ai_lk x.2.2.2.2.1 42 k = some (1, 12 + k, 0, 0)) && decide (ai_lk x.2.2.2.2.1 57 k = some (1, 16 + k, 0, 0))) || (ai_lk x.2.2.2.2.1 42 k).any fun v => decide (ai_lk x.2.2.2.2.1 57 k = some v) && (ai_i x.2.2.2.1 v).any fun p => decide (0 ≤ p.1) && decide (p.2 ≤ 2))
def lb_okS (x : ai_s) : Bool := lb_okE x && (lb_lane x 0 && lb_lane x 1 && lb_lane x 2 && lb_lane x 3)
/-- a state, with bounds of names told sharper -/
def lb_rf : ai_s → List (Nat × Int × Int) → Option ai_s
  | x, [] => some x
  | x, q :: t => (ai_cl x.2.2.2.1 q.1 q.2.1 q.2.2).bind fun en => lb_rf (x.1, x.2.1, x.2.2.1, en, x.2.2.2.2.1, x.2.2.2.2.2) t
def lb_R (j : Nat) : List (List (Nat × Int × Int)) := if Nat.beq j 34 = true then [[(4, (-2147483648), (-1))], [(4, 4, 2147483647)], [(4, 0, 0), (12, (-1), (-1)), (16, (-4), (-4))], [(4, 0, 0), (12, 0, 2), (16, 0, 2)], [(4, 1, 1), (13, (-1), (-1)), (17, (-4), (-4))], [(4, 1, 1), (13, 0, 2), (17, 0, 2)], [(4, 2, 2), (14, (-1), (-1)), (18, (-4), (-4))], [(4, 2, 2), (14, 0, 2), (18, 0, 2)], [(4, 3, 3), (15, (-1), (-1)), (19, (-4), (-4))], [(4, 3, 3), (15, 0, 2), (19, 0, 2)]] else [[]]
noncomputable def lb_case (ms : List mm_e) (j : Nat) (cs : List (Nat × Int × Int)) : Bool := lb_hd.any fun xs => (xs[j]?).any fun x => match lb_rf x cs with
  | none => true
  | some x1 => (mm_x ms 5000 169 tb_m169 11 [1297] x1).any fun ys => ys.all lb_okS
theorem lb_len : (lb_hd.any fun xs => Nat.beq xs.length 38) = true := by decide +kernel
/-- an end's bounds and knowledge, by what is other than at the beginning: places kept, dropped, new -/
def mm_d {α : Type} : List (Nat × α) → Nat → List α → List α → List α
  | _, _, [], nw => nw
  | [], _, x :: l, nw => x :: mm_d [] 0 l nw
  | (i, y) :: c, n, x :: l, nw => if Nat.beq i n = true then y :: mm_d c (n + 1) l nw else x :: mm_d ((i, y) :: c) (n + 1) l nw
def mm_k {α : Type} : List Nat → Nat → List α → List α
  | _, _, [] => []
  | [], _, x :: l => x :: l
  | i :: c, n, x :: l => if Nat.beq i n = true then mm_k c (n + 1) l else x :: mm_k (i :: c) (n + 1) l
def mm_n (s : ai_s) (pc : Nat) (lo : List (Nat × ai_v)) (sk : List ai_v) (ch : List (Nat × ai_e)) (nw : List ai_e) (kf : List ai_k) (kd : List Nat) (sb : List ai_b) : ai_s := (pc, lo, sk, mm_d ch 0 s.2.2.2.1 nw, kf ++ mm_k kd 0 s.2.2.2.2.1, sb)
