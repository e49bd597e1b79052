/-! readLine of the reference, walked from its literal states -/
def rl_e : List ai_e := [(0, 0, false, 0, 0), (0, 2555, false, 1, 0), (0, 160, false, 2, 0), (0, 160, false, 3, 0), (0, 160, false, 4, 0)]
def rl_k (k0 : Int) : List ai_k := [(49, 7, (1, 2, 0, 0)), (49, 12, (1, 3, 0, 0)), (49, 11, (1, 4, 0, 0)), (49, 13, (1, 0, 0, k0)), (49, 9, (1, 0, 0, 0))]
def rl_err (x : ai_s) (pcs : List Nat) (c nm : Nat) : Bool := pcs.any (fun q => Nat.beq x.1 q) && (x.2.2.1.isEmpty && (s9 x 9 (1, 0, 0, (c : Int)) && s9 x 10 (1, nm, 0, 0)))
def rl_this (x : ai_s) : Bool := decide (ai_get x.2.1 0 = some (0, 49, 0, 0))
def rl_WA : List (Nat × Nat × Nat) := [(49, 4, 5), (49, 9, 15)]
def rl_WE : List (Nat × Nat × Nat) := [(49, 9, 11)]
noncomputable def rl_Nr (k0 : Nat) : Bool := (ai_ex (hkT rl_WE) 300 108 tb_m108 9 [87] (0, ms_lo, [], rl_e, rl_k (k0 : Int), cl_f)).any fun xs => xs.all fun x => rl_err x [22] 2 3
theorem rl_N2 : rl_Nr 2 = true := by decide +kernel
theorem rl_N3 : rl_Nr 3 = true := by decide +kernel
def rl_7 : ai_s := (0, ms_lo, [], rl_e, rl_k 1, (317, 3, 4, 4, 0) :: cl_f)
theorem rl_7r : ((ai_ex (hkT rl_WE) 300 108 tb_m108 9 [87] rl_7).any fun xs => xs.all fun x => rl_err x [22] 2 3) = true := by decide +kernel
def rl_f (T : Nat) : ai_s := (0, ms_lo, [], rl_e ++ [(0, 15, false, 5, 0), (0, 3, false, 6, 0)], (49, 4, (1, 5, 0, (T : Int))) :: (49, 3, (1, 0, 0, 4)) :: rl_k 1, (310, 3, 4, 6, 0) :: cl_f)
noncomputable def rl_fr (T : Nat) : Bool := (ai_ex (hkT rl_WA) 300 108 tb_m108 9 [87] (rl_f T)).any fun xs => xs.all fun x => rl_err x [86] 5 3
theorem rl_fr8 : ((List.range 8).all fun j => rl_fr (16 * j)) = true := by decide +kernel
/-- at 87: the token behind the word, what is told within its 16 -/
def rl_87 (x : ai_s) (T : Nat) (w : ai_v) : Bool := (sy_tk x 2 4).any fun kb => if kb.1 = 4 then rl_err x [86] 1 kb.2 else Nat.beq x.1 87 && (x.2.2.1.isEmpty && (rp_tk x kb && (rl_this x && (decide (ai_get x.2.1 1 = some w) && (ai_lk x.2.2.2.2.1 49 4).any fun v => decide (v = (1, v.2.1, 0, v.2.2.2)) && (x.2.2.2.1[v.2.1]?).any fun e => decide ((T : Int) ≤ e.1 + v.2.2.2) && decide (e.2.1 + v.2.2.2 ≤ (T : Int) + 15)))))
def rl_T (T : Nat) : ai_s := (0, ms_lo, [], rl_e ++ [(0, 15, false, 5, 0), (0, 3, false, 6, 0), (0, 3, false, 7, 0)], (49, 4, (1, 5, 0, (T : Int))) :: (49, 3, (1, 7, 0, 0)) :: rl_k 1, (310, 3, 4, 6, 0) :: cl_f)
noncomputable def rl_Tr (T : Nat) : Bool := (ai_ex (hkT rl_WA) 300 108 tb_m108 9 [87] (rl_T T)).any fun xs => xs.all fun x => rl_87 x T (1, 6, 0, 0)
theorem rl_Tr8 : ((List.range 8).all fun j => rl_Tr (16 * j)) = true := by decide +kernel
def rl_O (w T : Nat) : ai_s := (0, ms_lo, [], rl_e ++ [(0, 15, false, 5, 0)], (49, 4, (1, 5, 0, (T : Int))) :: rl_k 1, (310 + w, 3, 4, 4, 0) :: cl_f)
noncomputable def rl_Or (w T : Nat) : Bool := (ai_ex (hkT rl_WA) 300 108 tb_m108 9 [87] (rl_O w T)).any fun xs => xs.all fun x => if T / 2 ^ w % 2 = 1 then rl_err x [86] 4 3 else rl_87 x (T + 2 ^ w) (1, 0, 0, (w : Int))
theorem rl_O4 : ((List.range 8).all fun j => rl_Or 4 (16 * j)) = true := by decide +kernel
theorem rl_O5 : ((List.range 8).all fun j => rl_Or 5 (16 * j)) = true := by decide +kernel
theorem rl_O6 : ((List.range 8).all fun j => rl_Or 6 (16 * j)) = true := by decide +kernel
/-! from 87 on -/
def rl_eB : List ai_e := rl_e ++ [(-2147483648, 2147483647, false, 5, 0), (0, 3, false, 6, 0)]
def rl_kB (k1 : Nat) : List ai_k := (49, 14, (1, 5, 0, 0)) :: rl_k (k1 : Int)
def rl_res (x : ai_s) (tests : Option Int) : sy_r → Bool
  | .inl y => s9 x 9 (1, 0, 0, (y.1 : Int)) && s9 x 10 (1, y.2, 0, 0)
  | .inr b => s9 x 9 (1, 0, 0, 0) && (s9 x 11 (1, b + 1, 0, 0) && tests.all fun t => s9 x 3 (1, 0, 0, t))
def rl_WT (t : Nat) : List (Nat × Nat × Nat) := [(49, 3, 4), (49, 9, 15), (51, t, t + 1), (51, 4 + t, 5 + t), (51, 8 + t, 9 + t), (51, 12 + t, 13 + t)]
def rl_BT (t k1 : Nat) : ai_s := (87, [(0, (0, 49, 0, 0)), (1, (1, 6, 0, 0))], [], rl_eB, (51, 8 + t, (1, 0, 0, 0)) :: (51, 12 + t, (1, 0, 0, 0)) :: (49, 3, (1, 0, 0, (t : Int))) :: rl_kB k1, [(350, 2, 2, 2, 0)])
noncomputable def rl_BTr (t k1 : Nat) : Bool := (ai_ex (hkT (rl_WT t)) 600 108 tb_m108 9 [171] (rl_BT t k1)).any fun xs => xs.all fun x => Nat.beq x.1 171 && (x.2.2.1.isEmpty && (rl_this x && (sy_t1 x 2 (k1, 3)).any fun y => rl_res x (some ((t : Int) + 1)) y && (sy_in y || sy_ev1 x 2 (k1, 3) (1, 6, 0, 0) (51, t) (51, 4 + t) (51, 8 + t) (51, 12 + t))))
theorem rl_BT0 : ((List.range 4).all fun k => rl_BTr 0 k) = true := by decide +kernel
theorem rl_BT1 : ((List.range 4).all fun k => rl_BTr 1 k) = true := by decide +kernel
theorem rl_BT2 : ((List.range 4).all fun k => rl_BTr 2 k) = true := by decide +kernel
theorem rl_BT3 : ((List.range 4).all fun k => rl_BTr 3 k) = true := by decide +kernel
def rl_WO (w : Nat) : List (Nat × Nat × Nat) := [(49, 9, 15), (51, 12 + w, 13 + w)]
def rl_BO (w k1 : Nat) : ai_s := (87, [(0, (0, 49, 0, 0)), (1, (1, 0, 0, (w : Int)))], [], rl_eB, rl_kB k1, [(350, 2, 2, 2, 0)])
noncomputable def rl_BOr (w k1 : Nat) : Bool := (ai_ex (hkT (rl_WO w)) 600 108 tb_m108 9 [171] (rl_BO w k1)).any fun xs => xs.all fun x => Nat.beq x.1 171 && (x.2.2.1.isEmpty && (rl_this x && (sy_o1 x 2 (if w = 4 then 20 else 99) (k1, 3)).any fun y => rl_res x none y && (sy_in y || lkq x 51 (12 + w) (1, 5, 0, if w = 4 then -10 else 0))))
theorem rl_BO4 : ((List.range 4).all fun k => rl_BOr 4 k) = true := by decide +kernel
theorem rl_BO5 : ((List.range 4).all fun k => rl_BOr 5 k) = true := by decide +kernel
def rl_BP : ai_s := (87, [(0, (0, 49, 0, 0)), (1, (1, 0, 0, 6))], [], [(0, 0, false, 0, 0), (0, 2555, false, 1, 0)], [], [])
theorem rl_BPr : ((ai_ex (hk []) 60 108 tb_m108 9 [148] rl_BP).any fun xs => xs.all fun x => Nat.beq x.1 148 && (decide (x.2.2.1 = [(0, 49, 0, 0)]) && rl_this x)) = true := by decide +kernel
/-! from 151 and from 171 on -/
def rl_Cb (c : Int) : ai_s := (151, ms_lo, [], [(0, 0, false, 0, 0), (0, 2555, false, 1, 0)], [(49, 9, (1, 0, 0, c))], [])
noncomputable def rl_Cbr (c : Nat) : Bool := (ai_ex (hk []) 60 108 tb_m108 9 [171] (rl_Cb (c : Int))).any fun xs => xs.all fun x => Nat.beq x.1 171 && (x.2.2.1.isEmpty && rl_this x)
theorem rl_Cb1 : rl_Cbr 1 = true := by decide +kernel
theorem rl_Cb3 : rl_Cbr 3 = true := by decide +kernel
theorem rl_Cb5 : rl_Cbr 5 = true := by decide +kernel
def rl_C (k : Nat) : ai_s := (151, ms_lo, [], [(0, 0, false, 0, 0), (0, 2555, false, 1, 0), (0, 160, false, 2, 0)], [(49, 9, (1, 0, 0, 0)), (49, 13, (1, 0, 0, (k : Int))), (49, 12, (1, 2, 0, 0))], [])
noncomputable def rl_Cr (k : Nat) : Bool := (ai_ex (hk rl_WE) 60 108 tb_m108 9 [171] (rl_C k)).any fun xs => xs.all fun x => Nat.beq x.1 171 && (x.2.2.1.isEmpty && (rl_this x && if k = 3 then s9 x 9 (1, 0, 0, 0) else s9 x 9 (1, 0, 0, 2) && s9 x 10 (1, 2, 0, 0)))
theorem rl_Cr4 : ((List.range 4).all rl_Cr) = true := by decide +kernel
def rl_Db : ai_s := (171, ms_lo, [], [(0, 0, false, 0, 0), (0, 2555, false, 1, 0), (1, 5, false, 2, 0)], [(49, 9, (1, 2, 0, 0))], [])
theorem rl_Dbr : ((ai_ex (hkT []) 60 108 tb_m108 9 [] rl_Db).any fun xs => xs.all fun x => Nat.beq x.1 175 && x.2.2.1.isEmpty) = true := by decide +kernel
def rl_D : ai_s := (171, ms_lo, [], [(0, 0, false, 0, 0), (0, 2555, false, 1, 0), (0, 160, false, 2, 0), (0, 160, false, 3, 0)], [(49, 7, (1, 2, 0, 0)), (49, 11, (1, 3, 0, 0)), (49, 9, (1, 0, 0, 0))], [(350, 2, 2, 2, 0)])
theorem rl_Dr : ((ai_ex (hkT st_WR) 60 108 tb_m108 9 [] rl_D).any fun xs => xs.all fun x => Nat.beq x.1 175 && (x.2.2.1.isEmpty && (sy_tk x 2 3).any (rp_tk x))) = true := by decide +kernel
