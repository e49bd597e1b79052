/-! feed, text, keep, back by hand; a round of the law with the counts tied -/
def sp_at (x : ai_s) (pc : Nat) : Bool := decide (x.1 = pc) && (x.2.2.1.isEmpty && (decide (ai_get x.2.1 0 = some (4, 0, 0, 0)) && (decide (ai_get x.2.1 1 = some (0, 0, 0, 0)) && (decide (ai_get x.2.1 2 = some (0, 49, 0, 0)) && decide (ai_get x.2.1 3 = some (1, 1, 0, 0))))))
/-- the state of a case that goes by hand: all names as at the head -/
def sp_x (x : ai_s) (pc : Nat) : Bool := sp_at x pc && (lq x 26 1 (1, 2, 0, 0) && (lq x 49 7 (1, 2, 0, 0) && (lq x 0 9 (1, 8, 0, 0) && (lq x 49 8 (1, 8, 0, 0) && (lq x 1 0 (1, 9, 0, 0) && (lq x 49 1 (1, 9, 0, 0) && (lq x 34 0 (1, 10, 0, 0) && (lq x 49 19 (1, 10, 0, 0) && (lq x 1 3 (1, 11, 0, 0) && lq x 50 26 (1, 11, 0, 0))))))))))
theorem sp_hd : (lb_hd.any fun xs => (xs[1]?).any (fun x => sp_x x 196) && ((xs[3]?).any (fun x => sp_x x 242) && ((xs[31]?).any (fun x => sp_x x 1076) && (xs[32]?).any fun x => sp_x x 1099))) = true := by decide +kernel
def fd_en (lo hi : Int) : List ai_e := [(0, 0, false, 0, 0), (0, 2555, false, 1, 0), (0, 160, false, 2, 0), (-2147483648, 2147483647, false, 3, 0), (lo, hi, false, 4, 0), (-2147483648, 2147483647, false, 5, 0), (-2147483648, 2147483647, false, 6, 0), (-2147483648, 2147483647, false, 7, 0), (-2147483648, 2147483647, false, 8, 0), (0, 4, false, 9, 0), (0, 6, false, 10, 0), (0, 8, false, 11, 0), (0, 1, false, 12, 0), (0, 1, false, 13, 0), (0, 8, false, 14, 0), (0, 8, false, 15, 0)]
def fd_lo (x : ai_s) : Bool := sp_at x 1297
def fd_B (pc : Nat) (lo hi : Int) : ai_s := (pc, lb_lo, [], fd_en lo hi, [(26, 1, (1, 2, 0, 0)), (49, 7, (1, 2, 0, 0))], [])
theorem fd_r1 : ((ai_ex (hk []) 300 169 tb_m169 11 [1297] (fd_B 196 (-2147483648) (-1))).any fun xs => xs.all fd_lo) = true := by decide +kernel
theorem fd_r2 : ((ai_ex (hk []) 300 169 tb_m169 11 [1297] (fd_B 196 128 2147483647)).any fun xs => xs.all fd_lo) = true := by decide +kernel
theorem kp_r1 : ((ai_ex (hk []) 300 169 tb_m169 11 [1297] (fd_B 1076 (-2147483648) (-1))).any fun xs => xs.all fd_lo) = true := by decide +kernel
theorem kp_r2 : ((ai_ex (hk []) 300 169 tb_m169 11 [1297] (fd_B 1076 2 2147483647)).any fun xs => xs.all fd_lo) = true := by decide +kernel
theorem bk_r1 : ((ai_ex (hk []) 300 169 tb_m169 11 [1297] (fd_B 1099 (-2147483648) (-1))).any fun xs => xs.all fd_lo) = true := by decide +kernel
theorem bk_r2 : ((ai_ex (hk []) 300 169 tb_m169 11 [1297] (fd_B 1099 2 2147483647)).any fun xs => xs.all fd_lo) = true := by decide +kernel
def fd_D (m : Nat) : ai_s := (196, lb_lo, [], fd_en 0 127, [(26, 1, (1, 0, 0, (m : Int))), (49, 7, (1, 0, 0, (m : Int)))], [])
theorem fd_r3 : ((ai_ex (hk []) 300 169 tb_m169 11 [1297] (fd_D 160)).any fun xs => xs.all fd_lo) = true := by decide +kernel
def fd_W (m : Nat) : List (Nat × Nat × Nat) := [(26, 1, 2), (27, m, m + 1), (49, 7, 8), (52, m, m + 1)]
def fd_Dok (m : Nat) (x : ai_s) : Bool := fd_lo x && (decide (ai_lk x.2.2.2.2.1 26 1 = some (1, 0, 0, (m : Int) + 1)) && (decide (ai_lk x.2.2.2.2.1 49 7 = some (1, 0, 0, (m : Int) + 1)) && (decide (ai_lk x.2.2.2.2.1 27 m = some (1, 4, 0, 0)) && decide (ai_lk x.2.2.2.2.1 52 m = some (1, 4, 0, 0)))))
noncomputable def fd_Dr (m : Nat) : Bool := (ai_ex (hk (fd_W m)) 300 169 tb_m169 11 [1297] (fd_D m)).any fun xs => xs.all (fd_Dok m)
theorem fd_r4 : ((List.range 40).all fd_Dr) = true := by decide +kernel
theorem fd_r5 : ((List.range 40).all fun m => fd_Dr (40 + m)) = true := by decide +kernel
theorem fd_r6 : ((List.range 40).all fun m => fd_Dr (80 + m)) = true := by decide +kernel
theorem fd_r7 : ((List.range 40).all fun m => fd_Dr (120 + m)) = true := by decide +kernel
theorem fd_Dall (m : Nat) (h : m < 160) : fd_Dr m = true := by
  by_cases h1 : m < 40
  · exact List.all_eq_true.mp fd_r4 m (List.mem_range.mpr h1)
  · by_cases h2 : m < 80
    · have := List.all_eq_true.mp fd_r5 (m - 40) (List.mem_range.mpr (by omega))
      rw [show 40 + (m - 40) = m by omega] at this
      exact this
    · by_cases h3 : m < 120
      · have := List.all_eq_true.mp fd_r6 (m - 80) (List.mem_range.mpr (by omega))
        rw [show 80 + (m - 80) = m by omega] at this
        exact this
      · have := List.all_eq_true.mp fd_r7 (m - 120) (List.mem_range.mpr (by omega))
        rw [show 120 + (m - 120) = m by omega] at this
        exact this
/-! text -/
def su_X (WR : List (Nat × Nat × Nat)) (mid : Nat) (st : ai_s) : Option (List ai_s) := if Nat.beq mid 48 = true then su_tx WR st else if Nat.beq mid 109 = true then su_mt WR st else none
def hkX (WR : List (Nat × Nat × Nat)) : ai_K := (tb_TY, WR, tb_MT, [], su_X WR, [])
theorem hkX_su {WR : List (Nat × Nat × Nat)} : ai_SU (hkX WR) := by
  intro mid d cu st xs M h0 hM0 w0 ad p l e R s m args below meth c D tys A b L sx cells slots Q r0 C k
  have h : (if (Nat.beq st.1 0 && Nat.ble (ai_gd mid) d) = true then su_X WR mid st else none) = some xs := h0
  have hM : tb_MT[mid]? = some M := hM0
  clear h0 hM0
  split at h
  · rename_i hc
    rw [Bool.and_eq_true, ai_beq] at hc
    have hd : ai_gd mid ≤ d := Nat.le_of_ble_eq_true hc.2
    unfold su_X at h
    split at h
    · rename_i h48
      cases ai_beq.mp h48
      cases Option.some.inj (hM.symm.trans (rfl : tb_MT[48]? = some tb_m48))
      exact su_tx_ok h hc.1 hd C k
    · split at h
      · rename_i h109
        cases ai_beq.mp h109
        cases Option.some.inj (hM.symm.trans (rfl : tb_MT[109]? = some tb_m109))
        exact su_mt_ok h hc.1 hd C k
      · cases h
  · cases h
section HNX
variable {ad : List Nat} {M : ai_m} {d : Nat} {p : Program} {l : Launch} {e : Env} {R : Room} {s : State} {m : MethodId} {args : Array Value} {below : List Frame} {meth : Method} {c : Code} {D : va_G} {tys : ai_ty} {A : Nat → Prop} {b L : Nat} {sx : Nat → Int32} {cells slots : Nat} {Q : State → Prop}
theorem hsegX {WR : List (Nat × Nat × Nat)} {n mid : Nat} {cu : List Nat} {st : ai_s} {xs : List ai_s} (h : ai_ex (hkX WR) n mid M d cu st = some xs) (hM : tb_MT[mid]? = some M) (C : ai_cx M d p R s m args c D tys A b L sx cells slots) {r : List Int} {lv : List (Nat × Value)} {sk : List Value} {ws : va_W} (g : ai_gm tb_TY WR ws ad b L sx tys M.2.2.2.2.1 r st lv sk ws)
    (k : ∀ x ∈ xs, ∀ (r' : List Int) (lv' : List (Nat × Value)) (sk' : List Value) (ws' : va_W), ai_x r r' → ai_gm tb_TY WR ws ad b L sx tys M.2.2.2.2.1 r' x lv' sk' ws' → hG M p l e R s m args below meth c D A cells slots Q x.1 lv' sk' ws') : hG M p l e R s m args below meth c D A cells slots Q st.1 lv sk ws :=
  fun H locs ls hP hD hS hl => (ai_ex_ok (K := hkX WR) hkX_su tv_MT n) mid d cu st xs M h hM C (fun x hx r' lv' sk' ws' H' locs' ls' hx' g' hP' hD' hS' hl' => k x hx r' lv' sk' ws' hx' g' H' locs' ls' hP' hD' hS' hl') r lv sk ws H locs ls ai_x.rf g hP hD hS hl
end HNX
def lt_W : List (Nat × Nat × Nat) := tx_W ++ mt_W
def lt_kn : List ai_k := [(26, 1, (1, 2, 0, 0)), (49, 7, (1, 2, 0, 0)), (0, 9, (1, 8, 0, 0)), (49, 8, (1, 8, 0, 0)), (1, 0, (1, 9, 0, 0)), (49, 1, (1, 9, 0, 0)), (34, 0, (1, 10, 0, 0)), (49, 19, (1, 10, 0, 0)), (1, 3, (1, 11, 0, 0)), (50, 26, (1, 11, 0, 0)), (25, 0, (1, 12, 0, 0)), (56, 0, (1, 12, 0, 0)), (25, 1, (1, 13, 0, 0)), (56, 1, (1, 13, 0, 0))]
def lt_st : ai_s := (242, lb_lo, [], fd_en (-2147483648) 2147483647, lt_kn, [(350, 2, 2, 2, 0)])
def lt_ok (x : ai_s) : Bool := fd_lo x && (lq x 26 1 (1, 0, 0, 0) && (lq x 49 7 (1, 0, 0, 0) && (l2 x 0 9 49 8 && (l2 x 1 0 49 1 && (l2 x 34 0 49 19 && (l2 x 1 3 50 26 &&
  ((lq x 1 0 (1, 9, 0, 0) && (lq x 25 0 (1, 12, 0, 0) && (lq x 56 0 (1, 12, 0, 0) && (lq x 25 1 (1, 13, 0, 0) && lq x 56 1 (1, 13, 0, 0))))) ||
   (lq x 25 0 (1, 0, 0, 0) && (lq x 56 0 (1, 0, 0, 0) && (lq x 25 1 (1, 0, 0, 0) && lq x 56 1 (1, 0, 0, 0)))))))))))
theorem lt_r : ((ai_ex (hkX lt_W) 300 169 tb_m169 11 [1297] lt_st).any fun xs => xs.all lt_ok) = true := by decide +kernel
/-! keep, back: k is 0 or 1 -/
def kp_W (k : Nat) : List (Nat × Nat × Nat) := [(25, k, k + 1), (56, k, k + 1), (13 + 6 * k, 0, 4), (14 + 6 * k, 0, 4), (15 + 6 * k, 0, 4), (16 + 6 * k, 0, 4), (17 + 6 * k, 0, 4), (18 + 6 * k, 0, 8), (50, 27 + 27 * k, 54 + 27 * k)]
def kp_st (k : Nat) : ai_s := (1076, lb_lo, [], fd_en (k : Int) (k : Int), [(25, k, (1, 12 + k, 0, 0)), (56, k, (1, 12 + k, 0, 0)), (1, 0, (1, 9, 0, 0)), (1, 3, (1, 11, 0, 0)), (50, 26, (1, 11, 0, 0))], [])
def kp_ok (k : Nat) (x : ai_s) : Bool := fd_lo x && (lq x 25 k (1, 0, 0, 1) && (lq x 56 k (1, 0, 0, 1) && (lq x (13 + 6 * k) 0 (1, 9, 0, 0) && (lq x (13 + 6 * k) 3 (1, 11, 0, 0) && lq x 50 (53 + 27 * k) (1, 11, 0, 0)))))
noncomputable def kp_r (k : Nat) : Bool := (ai_ex (hk (kp_W k)) 2000 169 tb_m169 11 [1297] (kp_st k)).any fun xs => xs.all (kp_ok k)
theorem kp_r3 : ((List.range 2).all kp_r) = true := by decide +kernel
def bk_st0 (k : Nat) : ai_s := (1099, lb_lo, [], fd_en (k : Int) (k : Int), [(25, k, (1, 0, 0, 0)), (56, k, (1, 0, 0, 0))], [])
theorem bk_r3 : ((List.range 2).all fun k => (ai_ex (hk []) 300 169 tb_m169 11 [1297] (bk_st0 k)).any fun xs => xs.all fd_lo) = true := by decide +kernel
def bk_W : List (Nat × Nat × Nat) := [(1, 0, 4), (2, 0, 4), (3, 0, 4), (4, 0, 4), (5, 0, 4), (6, 0, 8), (50, 0, 27)]
def bk_st1 (k : Nat) : ai_s := (1099, lb_lo, [], fd_en (k : Int) (k : Int), [(25, k, (1, 0, 0, 1)), (56, k, (1, 0, 0, 1)), (13 + 6 * k, 0, (1, 9, 0, 0)), (13 + 6 * k, 3, (1, 14 + k, 0, 0)), (50, 53 + 27 * k, (1, 14 + k, 0, 0))], [])
theorem bk_r4 : ((List.range 2).all fun k => (ai_ex (hk bk_W) 2000 169 tb_m169 11 [1297] (bk_st1 k)).any fun xs => xs.all fun x => fd_lo x && (lq x 1 0 (1, 9, 0, 0) && (lq x 1 3 (1, 14 + k, 0, 0) && lq x 50 26 (1, 14 + k, 0, 0)))) = true := by decide +kernel
