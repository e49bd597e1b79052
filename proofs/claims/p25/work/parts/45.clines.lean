/-! readLine of the class, walked from its literal states -/
def cl_e : List ai_e := [(0, 0, false, 0, 0), (0, 2555, false, 1, 0), (0, 160, false, 2, 0), (0, 160, false, 3, 0), (0, 160, false, 4, 0), (0, 160, false, 5, 0)]
def cl_k (k0 : Int) : List ai_k := [(26, 1, (1, 2, 0, 0)), (26, 9, (1, 3, 0, 0)), (26, 7, (1, 4, 0, 0)), (26, 8, (1, 0, 0, k0)), (26, 5, (1, 0, 0, 0)), (26, 4, (1, 5, 0, 0))]
def cl_f : List ai_b := [(350, 2, 2, 2, 0), (4, 4, 2, 4, 1)]
def c6 (x : ai_s) (i : Nat) (v : ai_v) : Bool := decide (ai_lk x.2.2.2.2.1 26 i = some v)
def cl_res (x : ai_s) (tests told : Option Int) (pl : Option (List Nat)) : sy_r → Bool
  | .inl y => (Nat.beq x.1 64 || Nat.beq x.1 85) && (c6 x 5 (1, 0, 0, (y.1 : Int)) && c6 x 6 (1, y.2, 0, 0))
  | .inr b => Nat.beq x.1 96 && (c6 x 5 (1, 0, 0, 0) && (c6 x 7 (1, b + 1, 0, 0) && (c6 x 4 (1, 5, 0, 1) && (decide (ai_get x.2.1 0 = some (0, 26, 0, 0)) && ((tests.all fun t => decide (ai_lk x.2.2.2.2.1 28 0 = some (1, 0, 0, t))) && ((told.all fun t => c6 x 3 (1, 0, 0, t)) && pl.all fun as => decide (ai_lk x.2.2.2.2.1 28 3 = some (1, 0, 0, (as.length : Int))) && (List.range as.length).all fun i => decide (ai_lk x.2.2.2.2.1 33 i = some (1, as.getD i 0, 0, 0))))))))
def cl_N (k0 : Nat) : ai_s := (0, tn_lo, [], cl_e, cl_k (k0 : Int), cl_f)
def cl_Nok (k0 : Nat) (x : ai_s) : Bool := x.2.2.1.isEmpty && cl_res x none none none (.inl (sp_ft k0, 3))
def cl_WN : List (Nat × Nat × Nat) := [(26, 5, 7)]
noncomputable def cl_Nr (k0 : Nat) : Bool := (ai_ex (hkT cl_WN) 3000 26 tb_m26 8 [96] (cl_N k0)).any fun xs => xs.all (cl_Nok k0)
theorem cl_N0 : cl_Nr 0 = true := by decide +kernel
theorem cl_N2 : cl_Nr 2 = true := by decide +kernel
theorem cl_N3 : cl_Nr 3 = true := by decide +kernel
theorem cl_N4 : cl_Nr 4 = true := by decide +kernel
def cl_7 : ai_s := (0, tn_lo, [], cl_e, cl_k 1, (317, 3, 4, 4, 0) :: cl_f)
theorem cl_7r : ((ai_ex (hkT cl_WN) 3000 26 tb_m26 8 [96] cl_7).any fun xs => xs.all fun x => x.2.2.1.isEmpty && cl_res x none none none (.inl (2, 3))) = true := by decide +kernel
def cl_WT (t : Nat) : List (Nat × Nat × Nat) := [(26, 4, 11), (28, 0, 1), (29, min t 3, min t 3 + 1), (30, min t 3, min t 3 + 1), (31, min t 3, min t 3 + 1), (32, min t 3, min t 3 + 1)]
def cl_T (t : Nat) : ai_s := (0, tn_lo, [], cl_e ++ [(0, 3, false, 6, 0)], (28, 0, (1, 0, 0, (t : Int))) :: cl_k 1, (310, 3, 4, 6, 0) :: cl_f)
/-- a fault -/
def sy_in : sy_r → Bool
  | .inl _ => true
  | .inr _ => false
def cl_Tok (t : Nat) (x : ai_s) : Bool := x.2.2.1.isEmpty && (if t = 4 then some (.inl (5, 3)) else (sy_tk x 2 4).bind (sy_t1 x 2)).any fun y => cl_res x (some ((t : Int) + 1)) none none y && (sy_in y || sy_ev x 2 4 (1, 6, 0, 0) (29, t) (30, t) (31, t) (32, t))
noncomputable def cl_Tr (t : Nat) : Bool := (ai_ex (hkT (cl_WT t)) 3000 26 tb_m26 8 [96] (cl_T t)).any fun xs => xs.all (cl_Tok t)
theorem cl_T0 : cl_Tr 0 = true := by decide +kernel
theorem cl_T1 : cl_Tr 1 = true := by decide +kernel
theorem cl_T2 : cl_Tr 2 = true := by decide +kernel
theorem cl_T3 : cl_Tr 3 = true := by decide +kernel
theorem cl_T4 : cl_Tr 4 = true := by decide +kernel
def cl_WO (w : Nat) : List (Nat × Nat × Nat) := [(26, 3, 11), (28, w - 3, w - 2)]
def cl_O (w T : Nat) : ai_s := (0, tn_lo, [], cl_e, (26, 3, (1, 0, 0, (T : Int))) :: cl_k 1, (310 + w, 3, 4, 4, 0) :: cl_f)
def cl_Ook (w T : Nat) (x : ai_s) : Bool := x.2.2.1.isEmpty && (if T / 2 ^ w % 2 = 1 then some (.inl (4, 3)) else (sy_tk x 2 4).bind (sy_o1 x 2 (if w = 4 then 20 else 99))).any fun y => cl_res x none (some ((T : Int) + ((2 ^ w : Nat) : Int))) none y && (sy_in y || sy_num x 2 4 (28, w - 3) 0)
noncomputable def cl_Or (w T : Nat) : Bool := (ai_ex (hkT (cl_WO w)) 3000 26 tb_m26 8 [96] (cl_O w T)).any fun xs => xs.all (cl_Ook w T)
theorem cl_O4 : ((List.range 8).all fun j => cl_Or 4 (16 * j)) = true := by decide +kernel
theorem cl_O5 : ((List.range 8).all fun j => cl_Or 5 (16 * j)) = true := by decide +kernel
def cl_WP : List (Nat × Nat × Nat) := [(26, 3, 11), (28, 3, 4), (33, 0, 8)]
def cl_P (T : Nat) : ai_s := (0, tn_lo, [], cl_e, (26, 3, (1, 0, 0, (T : Int))) :: (28, 3, (1, 0, 0, 0)) :: cl_k 1, (316, 3, 4, 4, 0) :: cl_f)
def cl_Pok (T : Nat) (x : ai_s) : Bool := x.2.2.1.isEmpty && (((sy_tk x 2 4).bind fun kb => sy_plan x 2 9 kb []).any fun pl => (sy_p1 pl).any (cl_res x none (some ((T : Int) + 64)) (some pl.2.1)))
noncomputable def cl_Pr (T : Nat) : Bool := (ai_ex (hkT cl_WP) 3000 26 tb_m26 8 [96] (cl_P T)).any fun xs => xs.all (cl_Pok T)
theorem cl_P0 : cl_Pr 0 = true := by decide +kernel
theorem cl_P1 : cl_Pr 16 = true := by decide +kernel
theorem cl_P2 : cl_Pr 32 = true := by decide +kernel
theorem cl_P3 : cl_Pr 48 = true := by decide +kernel
def cl_Q (T : Nat) : ai_s := (0, tn_lo, [], cl_e, (26, 3, (1, 0, 0, (T : Int))) :: cl_k 1, (316, 3, 4, 4, 0) :: cl_f)
noncomputable def cl_Qr (T : Nat) : Bool := (ai_ex (hkT cl_WN) 3000 26 tb_m26 8 [96] (cl_Q T)).any fun xs => xs.all fun x => x.2.2.1.isEmpty && cl_res x none none none (.inl (4, 3))
theorem cl_Q4 : ((List.range 4).all fun j => cl_Qr (64 + 16 * j)) = true := by decide +kernel
/-- the last step of a line that is well -/
def cl_A : ai_s := (96, tn_lo, [], [(0, 0, false, 0, 0), (0, 2555, false, 1, 0), (0, 160, false, 2, 0), (0, 160, false, 3, 0)], [(26, 1, (1, 2, 0, 0)), (26, 7, (1, 3, 0, 0))], [])
def cl_Aok (pc : Nat) (x : ai_s) : Bool := x.2.2.1.isEmpty && (sy_tk x 2 3).any fun kb => Nat.beq x.1 pc && (c6 x 8 (1, 0, 0, (kb.1 : Int)) && (c6 x 9 (1, kb.2, 0, 0) && c6 x 7 (1, kb.2 + 1, 0, 0)))
theorem cl_Ar : ((ai_ex (hkT av_WR) 100 26 tb_m26 8 [] cl_A).any fun xs => xs.all (cl_Aok 100)) = true := by decide +kernel
