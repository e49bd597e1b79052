/-! the reference's nameHere: one word after the other -/
def nh_lo (j : Nat) : List (Nat × ai_v) := [(0, (0, 49, 0, 0)), (1, (1, 0, 0, (j : Int)))]
def nh_st (j : Nat) : ai_s := (2, nh_lo j, [], mf_e ++ [(0, 160, false, 4, 0)], [(49, 7, (1, 2, 0, 0)), (49, 12, (1, 3, 0, 0)), (49, 11, (1, 4, 0, 0)), (49, 13, (1, 0, 0, 1))], [])
def nh_w (j : Nat) : List Int := sp_W.getD j []
def nh_d (x : ai_s) (h : Nat → ai_e → Bool) : Bool := x.2.2.2.2.2.any fun q => Nat.beq q.1 0 && (Nat.beq q.2.1 4 && (Nat.beq q.2.2.1 3 && (decide (q.2.2.2.2 = 0) && (x.2.2.2.1[q.2.2.2.1]?).any (h q.2.2.2.1))))
theorem nh_dok {w0 : va_W} {r : List Int} {x : ai_s} {zf ze : Int} {h : Nat → ai_e → Bool} (g1 : ai_ok r x.2.2.2.1) (g2 : ai_sb w0 r x.2.2.2.2.2) (h3 : r[3]? = some zf) (h4 : r[4]? = some ze) (hh : nh_d x h = true) : ∃ (v : Nat) (e : ai_e), h v e = true ∧ r[v]? = some (ze - zf) ∧ e.1 ≤ ze - zf ∧ ze - zf ≤ e.2.1 := by
  obtain ⟨q, hq, hh⟩ := List.any_eq_true.mp hh
  rw [Bool.and_eq_true, Bool.and_eq_true, Bool.and_eq_true, Bool.and_eq_true, ai_beq, ai_beq, ai_beq, decide_eq_true_eq] at hh
  obtain ⟨a1, a2, a3, a4, a5⟩ := hh
  obtain ⟨za, zb, zr, e1, e2, e3, e4, -⟩ := g2 q hq
  rw [a2, h4] at e1
  rw [a3, h3] at e2
  cases e1
  cases e2
  have e5 := e4 a1
  have e6 : zr = ze - zf := by omega
  subst e6
  obtain ⟨e, b1, b2, b3⟩ := ai_any g1 e3 a5
  exact ⟨_, e, b1, e3, b2, b3⟩
def av_140 (x : ai_s) (v : Nat) (c : Int) : Bool := x.2.2.2.2.2.any fun q => Nat.beq q.1 140 && (Nat.beq q.2.1 v && (x.2.2.2.1[q.2.2.1]?).any fun e => decide (e.1 + q.2.2.2.2 = c) && decide (e.2.1 + q.2.2.2.2 = c))
theorem av_140ok {w0 : va_W} {r : List Int} {x : ai_s} {v : Nat} {c z : Int} (g1 : ai_ok r x.2.2.2.1) (g2 : ai_sb w0 r x.2.2.2.2.2) (hv : r[v]? = some z) (h : av_140 x v c = true) : z ≠ c := by
  obtain ⟨q, hq, h⟩ := List.any_eq_true.mp h
  rw [Bool.and_eq_true, Bool.and_eq_true, ai_beq, ai_beq] at h
  obtain ⟨h1, h2, h3⟩ := h
  obtain ⟨ua, ub, ur, -, -, -, -, -, -, -, -, u9⟩ := g2 q hq
  obtain ⟨t1, t2, k1, k2, -, -, -, k6, -⟩ := (u9 (by omega)).2.1 (by omega)
  obtain ⟨tb, k7, k8⟩ := k6 h1
  rw [h2, hv] at k1
  cases k1
  obtain ⟨e, b1, b2, b3⟩ := ai_any g1 k7 h3
  rw [Bool.and_eq_true, decide_eq_true_eq, decide_eq_true_eq] at b1
  omega
def nh_eq (x : ai_s) (n : Int) : Bool := nh_d x fun _ e => decide (e.1 = n) && decide (e.2.1 = n)
def nh_ne (x : ai_s) (n : Int) : Bool := nh_d x fun v e => decide (e.2.1 < n) || (decide (n < e.1) || av_140 x v n)
def nh_cn (x : ai_s) (k : Nat) (c : Int) : Bool := av_f x 4 3 2 none (-(k : Int)) && mg x 3 (k : Int) fun v e => decide (e.2.1 < c) || (decide (c < e.1) || av_140 x v c)
def nh_ce (x : ai_s) (k : Nat) (c : Int) : Bool := av_f x 4 3 2 none (-(k : Int)) && mg x 3 (k : Int) fun _ e => decide (e.1 = c) && decide (e.2.1 = c)
def nh_ok (j : Nat) (x : ai_s) : Bool :=
  (Nat.beq x.1 115 && (x.2.2.1.isEmpty && (decide (ai_get x.2.1 0 = some (0, 49, 0, 0)) && (decide (ai_get x.2.1 1 = some (1, 0, 0, (j : Int) + 1)) && (nh_ne x ((nh_w j).length : Int) || (List.range (nh_w j).length).any fun k => (nh_eq x ((nh_w j).length : Int) && av_f x 5 3 2 none (-(k : Int))) || nh_cn x k ((nh_w j).getD k 0)))))) ||
  (Nat.beq x.1 111 && (decide (x.2.2.1 = [(1, 0, 0, (j : Int))]) && (nh_eq x ((nh_w j).length : Int) && (List.range (nh_w j).length).all fun k => nh_ce x k ((nh_w j).getD k 0))))
noncomputable def nh_run (j : Nat) : Bool := (ai_ex (hk []) 400 103 tb_m103 5 [115] (nh_st j)).any fun xs => xs.all (nh_ok j)
theorem nh_r0 : nh_run 0 = true := by decide +kernel
theorem nh_r1 : nh_run 1 = true := by decide +kernel
theorem nh_r2 : nh_run 2 = true := by decide +kernel
theorem nh_r3 : nh_run 3 = true := by decide +kernel
theorem nh_r4 : nh_run 4 = true := by decide +kernel
theorem nh_r5 : nh_run 5 = true := by decide +kernel
theorem nh_r6 : nh_run 6 = true := by decide +kernel
theorem nh_r (j : Nat) (hj : j < 7) : nh_run j = true := by
  match j, hj with
  | 0, _ => exact nh_r0
  | 1, _ => exact nh_r1
  | 2, _ => exact nh_r2
  | 3, _ => exact nh_r3
  | 4, _ => exact nh_r4
  | 5, _ => exact nh_r5
  | 6, _ => exact nh_r6
  | j + 7, hj => exact absurd hj (by omega)
def nh_7 : ai_s := (2, nh_lo 7, [], [(0, 0, false, 0, 0), (0, 2555, false, 1, 0)], [], [])
theorem nh_r7 : ((ai_ex (hk []) 20 103 tb_m103 5 [] nh_7).any fun xs => xs.all fun x => Nat.beq x.1 120 && decide (x.2.2.1 = [(1, 0, 0, -4)])) = true := by decide +kernel
def nh_0 : ai_s := (0, ms_lo, [], [(0, 0, false, 0, 0), (0, 2555, false, 1, 0)], [], [])
theorem nh_r00 : ((ai_ex (hk []) 20 103 tb_m103 5 [2] nh_0).any fun xs => xs.all fun x => Nat.beq x.1 2 && (x.2.2.1.isEmpty && (decide (ai_get x.2.1 0 = some (0, 49, 0, 0)) && decide (ai_get x.2.1 1 = some (1, 0, 0, 0))))) = true := by decide +kernel
