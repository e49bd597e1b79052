/-! lay of class and reference -/
theorem ly_b (v : Int32) : ((v <<< ((24 : Int32) &&& 31)) >>> ((24 : Int32) &&& 31)) = v.toInt8.toInt32 := by
  apply Int32.toBitVec_inj.mp
  have e : ((24 : Int32) &&& 31).toBitVec.smod 32 = 24#32 := by decide
  show (v.toBitVec <<< (((24 : Int32) &&& 31).toBitVec.smod 32)).sshiftRight' (((24 : Int32) &&& 31).toBitVec.smod 32) = (v.toBitVec.signExtend 8).signExtend 32
  rw [e]
  apply BitVec.eq_of_toInt_eq
  rw [BitVec.toInt_sshiftRight', BitVec.shiftLeft_eq', BitVec.toInt_shiftLeft, BitVec.toInt_signExtend_of_le (by decide), BitVec.toInt_signExtend_eq_toNat_bmod_of_le (by decide)]
  have h24 : (24#32).toNat = 24 := by decide
  rw [h24, Int.shiftRight_eq_div_pow, Nat.shiftLeft_eq, Int.bmod_def, Int.bmod_def]
  have hN := v.toBitVec.isLt
  generalize v.toBitVec.toNat = N at hN
  simp only [Nat.reducePow] at hN ⊢
  split <;> split <;> omega
theorem ly_s (v : Int32) : ((v <<< ((16 : Int32) &&& 31)) >>> ((16 : Int32) &&& 31)) = v.toInt16.toInt32 := by
  apply Int32.toBitVec_inj.mp
  have e : ((16 : Int32) &&& 31).toBitVec.smod 32 = 16#32 := by decide
  show (v.toBitVec <<< (((16 : Int32) &&& 31).toBitVec.smod 32)).sshiftRight' (((16 : Int32) &&& 31).toBitVec.smod 32) = (v.toBitVec.signExtend 16).signExtend 32
  rw [e]
  apply BitVec.eq_of_toInt_eq
  rw [BitVec.toInt_sshiftRight', BitVec.shiftLeft_eq', BitVec.toInt_shiftLeft, BitVec.toInt_signExtend_of_le (by decide), BitVec.toInt_signExtend_eq_toNat_bmod_of_le (by decide)]
  have h24 : (16#32).toNat = 16 := by decide
  rw [h24, Int.shiftRight_eq_div_pow, Nat.shiftLeft_eq, Int.bmod_def, Int.bmod_def]
  have hN := v.toBitVec.isLt
  generalize v.toBitVec.toNat = N at hN
  simp only [Nat.reducePow] at hN ⊢
  split <;> split <;> omega
/-- what a cell of a lane keeps -/
def ly_v (L : Nat) (v : Int32) : Int32 := if L = 0 then v.toInt8.toInt32 else if L = 1 then v.toInt16.toInt32 else v
section HST2
variable {ad : List Nat} {M : ai_m} {d : Nat} {p : Program} {l : Launch} {e : Env} {R : Room} {s : State} {m : MethodId} {args : Array Value} {below : List Frame} {meth : Method} {c : Code} {D : va_G} {tys : ai_ty} {A : Nat → Prop} {b L : Nat} {sx : Nat → Int32} {cells slots : Nat} {Q : State → Prop}
theorem hi2b {pc : Nat} {x : Int32} {ws : va_W} {sk : List Value} {lv : List (Nat × Value)} (C : ai_cx M d p R s m args c D tys A b L sx cells slots) (hd : decode M.2.1 pc = .ok (.i2b, 1)) (k : hG M p l e R s m args below meth c D A cells slots Q (pc + 1) lv (.int x.toInt8.toInt32 :: sk) ws) : hG M p l e R s m args below meth c D A cells slots Q pc lv (.int x :: sk) ws := by
  intro H locs ls hP hD hS hl
  exact lv_i2b C.1 C.2.1 hd rfl (k H locs ls hP hD hS hl)
theorem hi2s {pc : Nat} {x : Int32} {ws : va_W} {sk : List Value} {lv : List (Nat × Value)} (C : ai_cx M d p R s m args c D tys A b L sx cells slots) (hd : decode M.2.1 pc = .ok (.i2s, 1)) (k : hG M p l e R s m args below meth c D A cells slots Q (pc + 1) lv (.int x.toInt16.toInt32 :: sk) ws) : hG M p l e R s m args below meth c D A cells slots Q pc lv (.int x :: sk) ws := by
  intro H locs ls hP hD hS hl
  exact lv_i2s C.1 C.2.1 hd rfl (k H locs ls hP hD hS hl)
theorem hishl {pc : Nat} {x y : Int32} {ws : va_W} {sk : List Value} {lv : List (Nat × Value)} (C : ai_cx M d p R s m args c D tys A b L sx cells slots) (hd : decode M.2.1 pc = .ok (.ishl, 1)) (k : hG M p l e R s m args below meth c D A cells slots Q (pc + 1) lv (.int (x <<< (y &&& 31)) :: sk) ws) : hG M p l e R s m args below meth c D A cells slots Q pc lv (.int y :: .int x :: sk) ws := by
  intro H locs ls hP hD hS hl
  exact lv_ishl C.1 C.2.1 hd (k H locs ls hP hD hS hl)
theorem hishr {pc : Nat} {x y : Int32} {ws : va_W} {sk : List Value} {lv : List (Nat × Value)} (C : ai_cx M d p R s m args c D tys A b L sx cells slots) (hd : decode M.2.1 pc = .ok (.ishr, 1)) (k : hG M p l e R s m args below meth c D A cells slots Q (pc + 1) lv (.int (x >>> (y &&& 31)) :: sk) ws) : hG M p l e R s m args below meth c D A cells slots Q pc lv (.int y :: .int x :: sk) ws := by
  intro H locs ls hP hD hS hl
  exact lv_ishr C.1 C.2.1 hd (k H locs ls hP hD hS hl)
theorem hbip {pc : Nat} {n : Int} {v : Int32} {ws : va_W} {sk : List Value} {lv : List (Nat × Value)} (C : ai_cx M d p R s m args c D tys A b L sx cells slots) (hd : decode M.2.1 pc = .ok (.bipush n, 2)) (hv : (Int8.ofInt n).toInt32 = v) (k : hG M p l e R s m args below meth c D A cells slots Q (pc + 2) lv (.int v :: sk) ws) : hG M p l e R s m args below meth c D A cells slots Q pc lv sk ws := by
  intro H locs ls hP hD hS hl
  exact lv_bipush C.1 C.2.1 hd hv (k H locs ls hP hD hS hl)
theorem hgoto {pc tgt : Nat} {o : Int} {ws : va_W} {sk : List Value} {lv : List (Nat × Value)} (C : ai_cx M d p R s m args c D tys A b L sx cells slots) (hd : decode M.2.1 pc = .ok (.goto o, 3)) (ht : (pc : Int) + o = (tgt : Int)) (k : hG M p l e R s m args below meth c D A cells slots Q tgt lv sk ws) : hG M p l e R s m args below meth c D A cells slots Q pc lv sk ws := by
  intro H locs ls hP hD hS hl
  exact lv_goto C.1 C.2.1 hd ht (k H locs ls hP hD hS hl)
theorem hlkp {pc tgt len : Nat} {dflt off : Int} {ps : Array (Int × Int)} {x : Int32} {ws : va_W} {sk : List Value} {lv : List (Nat × Value)} (C : ai_cx M d p R s m args c D tys A b L sx cells slots) (hd : decode M.2.1 pc = .ok (.lookupswitch dflt ps, len)) (hp : (ps.toList.zip (ps.toList.drop 1)).all (fun (a, next) => a.1 < next.1) = true) (ho : Op.lookupswitch.offset ps.toList dflt x.toInt = off) (ht : (pc : Int) + off = (tgt : Int)) (k : hG M p l e R s m args below meth c D A cells slots Q tgt lv sk ws) : hG M p l e R s m args below meth c D A cells slots Q pc lv (.int x :: sk) ws := by
  intro H locs ls hP hD hS hl
  exact lv_lookup C.1 C.2.1 hd hp ho ht (k H locs ls hP hD hS hl)
end HST2
/-! put -/
def ly_lo (cl k : Nat) : List (Nat × ai_v) := [(0, (0, cl, 0, 0)), (1, (1, 0, 0, (k : Int))), (2, (1, 2, 0, 0)), (3, (1, 3, 0, 0))]
def ly_e4 : List ai_e := [(0, 0, false, 0, 0), (0, 2555, false, 1, 0), (0, 39, false, 2, 0), (-2147483648, 2147483647, false, 3, 0)]
def ly_pc (L : Nat) : Nat := if L = 0 then 32 else if L = 1 then 45 else 58
def ly_pe (L : Nat) : Nat := if L = 0 then 40 else if L = 1 then 53 else 66
noncomputable def ly_g (f : Nat → Nat → Bool) : Bool := (List.range 4).all fun k => (List.range 3).all fun L => f k L
theorem ly_at {f : Nat → Nat → Bool} (h : ly_g f = true) {k L : Nat} (hk : k < 4) (hL : L < 3) : f k L = true := List.all_eq_true.mp (List.all_eq_true.mp h k (List.mem_range.mpr hk)) L (List.mem_range.mpr hL)
theorem ly_p1 : ly_g (fun k L => (ai_ex (hk []) 60 43 tb_m43 9 [6] (0, ly_lo 41 k, [], ly_e4, [(42, k, (1, 0, 0, (L : Int)))], [])).any fun xs => xs.all fun x => ([(6, ly_lo 41 k, [(1, 0, 0, (L : Int))], [], ly_e4, [])] : List sm_t).any fun t => sm_is [] x t) = true := by decide +kernel
theorem ly_p2 : ly_g (fun k L => (ai_ex (hk []) 60 43 tb_m43 9 [ly_pe L] (ly_pc L, ly_lo 41 k, [], ly_e4, [], [])).any fun xs => xs.all fun x => ([(ly_pe L, [], [(1, 3, 0, 0), (1, 2, 0, 0), (0, 45 + k, 0, 0)], [], ly_e4, [])] : List sm_t).any fun t => sm_is [] x t) = true := by decide +kernel
section LYP
variable {ad : List Nat} {p : Program} {l : Launch} {e : Env} {R : Room} {s : State} {m : MethodId} {args : Array Value} {below : List Frame} {meth : Method} {c : Code} {D : va_G} {tys : ai_ty} {A : Nat → Prop} {b L : Nat} {sx : Nat → Int32} {cells slots : Nat} {Q : State → Prop}
theorem ly_ok4 {i v : Int32} (hi : 0 ≤ i.toInt ∧ i.toInt ≤ 39) : ai_ok [0, 0, i.toInt, v.toInt] ly_e4 := by
  have := ai_irg v
  exact en_mk (by simp only [ly_e4, en_b, and_true]; omega) rfl
theorem ly_l {a cl k : Nat} {z i v : Int32} {rr : List Int} (ha : ad[cl]? = some a) (hz : z.toInt = k) : ai_lo ad b ([0, 0, i.toInt, v.toInt] ++ rr) (ly_lo cl k) [(0, .ref a), (1, .int z), (2, .int i), (3, .int v)] := ⟨rfl, Or.inl ⟨rfl, a, ha, rfl⟩, rfl, int_dv (z := 0) rfl (by omega), rfl, int_dv (z := i.toInt) rfl (by omega), rfl, int_dv (z := v.toInt) rfl (by omega), trivial⟩
theorem ly_un {r' : List Int} {lv' : List (Nat × Value)} {a cl k : Nat} {z i v : Int32} {rr : List Int} (ha : ad[cl]? = some a) (hz : z.toInt = k) (hx' : ai_x ([0, 0, i.toInt, v.toInt] ++ rr) r') (hlo : ai_lo ad b r' (ly_lo cl k) lv') : lv' = [(0, .ref a), (1, .int z), (2, .int i), (3, .int v)] := by
  obtain ⟨lv1, rfl, pz1⟩ := lo_ref ha hlo
  obtain ⟨y1, lv2, rfl, d1, pz2⟩ := lo_int rfl pz1
  obtain ⟨y2, lv3, rfl, d2, pz3⟩ := lo_int rfl pz2
  obtain ⟨y3, lv4, rfl, d3, pz4⟩ := lo_int rfl pz3
  cases lo_nil pz4
  unfold vn at d1 d2 d3
  rw [nm_x hx' (k := 0) rfl] at d1
  rw [nm_x hx' (k := 2) rfl] at d2
  rw [nm_x hx' (k := 3) rfl] at d3
  dsimp only at d1 d2 d3
  rw [Int32.toInt_inj.mp (show y1.toInt = z.toInt by omega), Int32.toInt_inj.mp (show y2.toInt = i.toInt by omega), Int32.toInt_inj.mp (show y3.toInt = v.toInt by omega)]
def ly_P (ad : List Nat) (tys : ai_ty) (k : Nat) (i v : Int32) (L : Nat) (ws ws' : va_W) : Prop := ai_wd tb_TY ad tys ws' ∧ ai_fr [(45 + k, i.toInt.toNat, i.toInt.toNat + 1)] ws ws' ∧ vi ws' (45 + k) i.toInt.toNat (ly_v L v).toInt
theorem ly_put {a aR k La : Nat} {z i v : Int32} {ws : va_W} (C : ai_cx tb_m43 9 p R s m args c D tys A b L sx cells slots) (hw : ai_wd tb_TY ad tys ws) (ha : ad[41]? = some a) (haR : ad[45 + k]? = some aR) (hk : k < 4) (hLa : La < 3) (hz : z.toInt = k) (hi : 0 ≤ i.toInt ∧ i.toInt ≤ 39) (h42 : vi ws 42 k La)
    (kk : ∀ (pcr : Nat) (ws' : va_W) (lv' : List (Nat × Value)), pcr ∈ [67] → ly_P ad tys k i v La ws ws' → hG tb_m43 p l e R s m args below meth c D A cells slots Q pcr lv' [] ws') : hG tb_m43 p l e R s m args below meth c D A cells slots Q 0 [(0, .ref a), (1, .int z), (2, .int i), (3, .int v)] [] ws := by
  have n0 : ∀ {u v : va_W} {Wx : List (Nat × Nat × Nat)}, ai_fr [] u v → ai_fr Wx u v := fun h => fr_sub (V := []) (fun _ _ _ q hq => by cases hq) h
  refine hsum (st := (0, ly_lo 41 k, [], ly_e4, [(42, k, (1, 0, 0, (La : Int)))], [])) (ly_at ly_p1 hk hLa) rfl C (r := [0, 0, i.toInt, v.toInt]) ⟨ly_ok4 hi, sb0, ly_l (rr := []) ha hz, trivial, hw, kc (h42.kn (n := 0) (t := 0) rfl (by omega)) k0, fun _ _ _ _ h => h, fun h => by cases h⟩ (fun x hx r' lv' sk' ws1 hx' hb hl hs hlo hsk hw1 hv' hf1 _ => ?_)
  rw [List.mem_singleton.mp hx] at hlo hsk ⊢
  have e1 := ly_un (rr := []) ha hz hx' hlo
  subst e1
  obtain ⟨x1, s1, rfl, d1, g4⟩ := hsk.cons
  cases g4.nil
  obtain ⟨yL, rfl, tL⟩ := dvn d1 (hx'.at (k := 0) rfl)
  have go : ∀ ws2, ai_wd tb_TY ad tys ws2 → ai_fr [] ws ws2 → (∀ (w : va_W) (lv : List (Nat × Value)), ai_wd tb_TY ad tys w → ai_fr [] ws w → hG tb_m43 p l e R s m args below meth c D A cells slots Q (ly_pe La) lv [.int v, .int i, .ref aR] w) → hG tb_m43 p l e R s m args below meth c D A cells slots Q (ly_pc La) [(0, .ref a), (1, .int z), (2, .int i), (3, .int v)] [] ws2 := fun ws2 hw2 hf2 k2 => by
    refine hsum (st := (ly_pc La, ly_lo 41 k, [], ly_e4, [], [])) (ly_at ly_p2 hk hLa) rfl C (r := [0, 0, i.toInt, v.toInt]) ⟨ly_ok4 hi, sb0, ly_l (rr := []) ha hz, trivial, hw2, k0, fun _ _ _ _ h => h, fun h => by cases h⟩ (fun x hx r' lv' sk' ws1 hx' hb hl hs hlo hsk hw1 hv' hf1 _ => ?_)
    rw [List.mem_singleton.mp hx] at hsk ⊢
    obtain ⟨x1, s1, rfl, d1, g4⟩ := hsk.cons
    obtain ⟨x2, s2, rfl, d2, g5⟩ := g4.cons
    obtain ⟨x3, s3, rfl, d3, g6⟩ := g5.cons
    cases g6.nil
    obtain ⟨y1, rfl, t1⟩ := dvn d1 (hx'.at (k := 3) rfl)
    obtain ⟨y2, rfl, t2⟩ := dvn d2 (hx'.at (k := 2) rfl)
    have f3 := ref_of haR d3
    subst f3
    have q1 : y1 = v := Int32.toInt_inj.mp (by omega)
    have q2 : y2 = i := Int32.toInt_inj.mp (by omega)
    subst q1 q2
    exact k2 ws1 lv' hw1 (hf2.tr hf1)
  match La, hLa with
  | 0, _ =>
    refine hlkp (pc := 6) (tgt := 32) C (tv_m43.1.1.1 (6, .lookupswitch 52 #[(0, 26), (1, 39)], 26) (List.mem_of_getElem? (i := 4) rfl)) (by decide) (off := 26) (by rw [show yL.toInt = 0 by omega]; rfl) (by decide) (go ws1 hw1 hf1 (fun w lv hw2 hf2 => ?_))
    refine hi2b C (tv_m43.1.1.1 (40, .i2b, 1) (List.mem_of_getElem? (i := 11) rfl)) ?_
    refine hast (c0 := 45 + k) (n := 40) C (tv_m43.1.1.1 (41, .iastore, 1) (List.mem_of_getElem? (i := 12) rfl)) (cd_T hk) hw2 haR (by omega) (by omega) (fun ws3 hw3 hf3 v3 => ?_)
    exact hgoto (pc := 42) (tgt := 67) C (tv_m43.1.1.1 (42, .goto 25, 3) (List.mem_of_getElem? (i := 13) rfl)) (by decide) (kk 67 ws3 lv (by decide) ⟨hw3, (n0 hf2).tr hf3, v3⟩)
  | 1, _ =>
    refine hlkp (pc := 6) (tgt := 45) C (tv_m43.1.1.1 (6, .lookupswitch 52 #[(0, 26), (1, 39)], 26) (List.mem_of_getElem? (i := 4) rfl)) (by decide) (off := 39) (by rw [show yL.toInt = 1 by omega]; rfl) (by decide) (go ws1 hw1 hf1 (fun w lv hw2 hf2 => ?_))
    refine hi2s C (tv_m43.1.1.1 (53, .i2s, 1) (List.mem_of_getElem? (i := 20) rfl)) ?_
    refine hast (c0 := 45 + k) (n := 40) C (tv_m43.1.1.1 (54, .iastore, 1) (List.mem_of_getElem? (i := 21) rfl)) (cd_T hk) hw2 haR (by omega) (by omega) (fun ws3 hw3 hf3 v3 => ?_)
    exact hgoto (pc := 55) (tgt := 67) C (tv_m43.1.1.1 (55, .goto 12, 3) (List.mem_of_getElem? (i := 22) rfl)) (by decide) (kk 67 ws3 lv (by decide) ⟨hw3, (n0 hf2).tr hf3, v3⟩)
  | 2, _ =>
    refine hlkp (pc := 6) (tgt := 58) C (tv_m43.1.1.1 (6, .lookupswitch 52 #[(0, 26), (1, 39)], 26) (List.mem_of_getElem? (i := 4) rfl)) (by decide) (off := 52) (by rw [show yL.toInt = 2 by omega]; rfl) (by decide) (go ws1 hw1 hf1 (fun w lv hw2 hf2 => ?_))
    exact hast (c0 := 45 + k) (n := 40) C (tv_m43.1.1.1 (66, .iastore, 1) (List.mem_of_getElem? (i := 29) rfl)) (cd_T hk) hw2 haR (by omega) (by omega) (fun ws3 hw3 hf3 v3 => kk 67 ws3 lv (by decide) ⟨hw3, (n0 hf2).tr hf3, v3⟩)
  | La + 3, h => exact absurd h (by omega)
end LYP
/-! lay -/
def ly_e6 (i1 i2 L1 L2 : Int) : List ai_e := [(0, 0, false, 0, 0), (0, 2555, false, 1, 0), (i1, i2, false, 2, 0), (-2147483648, 2147483647, false, 3, 0), (0, 40, false, 4, 0), (L1, L2, false, 5, 0)]
def ly_kn (cl k : Nat) : List ai_k := if cl = 0 then [(42, k, (1, 5, 0, 0)), (43, k, (1, 4, 0, 0))] else [(57, k, (1, 5, 0, 0)), (58, k, (1, 4, 0, 0))]
def ly_st (cl k : Nat) (i1 i2 L1 L2 : Int) (sb : List ai_b) : ai_s := (0, ly_lo cl k, [], ly_e6 i1 i2 L1 L2, ly_kn cl k, sb)
noncomputable def ly_r (cl mid : Nat) (M : ai_m) (cut : List Nat) (pcb : Nat) (z i1 i2 L1 L2 : Int) (sb : List ai_b) : Bool := (List.range 4).all fun k => (ai_ex (hk []) 100 mid M 10 cut (ly_st cl k i1 i2 L1 L2 sb)).any fun xs => xs.all (s3_is pcb z)
theorem lyc_0 : ly_r 0 90 tb_m90 [38] 30 (-11) (-2147483648) 2147483647 (-1) (-1) [] = true := by decide +kernel
theorem lyc_1 : ly_r 0 90 tb_m90 [38] 30 (-12) (-2147483648) (-1) 0 2 [] = true := by decide +kernel
theorem lyc_2 : ly_r 0 90 tb_m90 [38] 30 (-12) 0 2147483647 0 2 [(5, 2, 4, 2, 0)] = true := by decide +kernel
theorem lym_0 : ly_r 49 165 tb_m165 [71, 91, 99] 27 (-11) (-2147483648) 2147483647 (-4) (-4) [] = true := by decide +kernel
theorem lym_1 : ly_r 49 165 tb_m165 [71, 91, 99] 48 (-12) (-2147483648) (-1) 0 2 [] = true := by decide +kernel
theorem lym_2 : ly_r 49 165 tb_m165 [71, 91, 99] 48 (-12) 0 2147483647 0 2 [(5, 2, 4, 2, 0)] = true := by decide +kernel
theorem lyc_b1 : ((ai_ex (hk []) 100 90 tb_m90 10 [38] (s3_st 0 (-2147483648) (-1) (-2147483648) 2147483647 (-2147483648) 2147483647)).any fun xs => xs.all (s3_is 8 (-1))) = true := by decide +kernel
theorem lyc_b2 : ((ai_ex (hk []) 100 90 tb_m90 10 [38] (s3_st 0 4 2147483647 (-2147483648) 2147483647 (-2147483648) 2147483647)).any fun xs => xs.all (s3_is 8 (-1))) = true := by decide +kernel
theorem lym_b1 : ((ai_ex (hk []) 100 165 tb_m165 10 [99] (s3_st 49 (-2147483648) (-1) (-2147483648) 2147483647 (-2147483648) 2147483647)).any fun xs => xs.all (s3_is 13 (-1))) = true := by decide +kernel
theorem lym_b2 : ((ai_ex (hk []) 100 165 tb_m165 10 [99] (s3_st 49 4 2147483647 (-2147483648) 2147483647 (-2147483648) 2147483647)).any fun xs => xs.all (s3_is 13 (-1))) = true := by decide +kernel
theorem lyc_s : ly_g (fun k L => (ai_ex (hk []) 100 90 tb_m90 10 [38] (ly_st 0 k 0 39 L L [(4, 2, 4, 2, 0)])).any fun xs => xs.all fun x => ([(38, [], [(1, 3, 0, 0), (1, 2, 0, 0), (1, 0, 0, (k : Int)), (0, 41, 0, 0)], [], [(0, 0, false, 0, 0), (0, 2555, false, 1, 0), (0, 39, false, 2, 0), (-2147483648, 2147483647, false, 3, 0), (1, 40, false, 4, 0), ((L : Int), (L : Int), false, 5, 0)], [(4, 2, 4, 2, 0), (4, 2, 4, 2, 0)])] : List sm_t).any fun t => sm_is [] x t) = true := by decide +kernel
theorem lyc_e : ((ai_ex (hk []) 20 90 tb_m90 10 [] (41, [], [], [(0, 0, false, 0, 0), (0, 2555, false, 1, 0)], [], [])).any fun xs => xs.all (s3_is 42 1)) = true := by decide +kernel
def lym_pe (L : Nat) : Nat := if L = 0 then 71 else if L = 1 then 91 else 99
def lym_sk (L k : Nat) : List ai_v := (if L = 0 then [(1, 0, 0, 24)] else if L = 1 then [(1, 0, 0, 16)] else []) ++ [(1, 3, 0, 0), (1, 2, 0, 40 * (k : Int)), (0, 59, 0, 0)]
theorem lym_s : ly_g (fun k L => (ai_ex (hk []) 100 165 tb_m165 10 [71, 91, 99] (ly_st 49 k 0 39 L L [(4, 2, 4, 2, 0)])).any fun xs => xs.all fun x => ([(lym_pe L, [], lym_sk L k, [], [(0, 0, false, 0, 0), (0, 2555, false, 1, 0), (0, 39, false, 2, 0), (-2147483648, 2147483647, false, 3, 0), (1, 40, false, 4, 0), ((L : Int), (L : Int), decide (L ≠ 0), 5, 0)], [(4, 2, 4, 2, 0), (4, 2, 4, 2, 0)])] : List sm_t).any fun t => sm_is [] x t) = true := by decide +kernel
theorem lym_e : ((ai_ex (hk []) 20 165 tb_m165 10 [] (100, [], [], [(0, 0, false, 0, 0), (0, 2555, false, 1, 0)], [], [])).any fun xs => xs.all (s3_is 101 1)) = true := by decide +kernel
section LYL
variable {ad : List Nat} {M : ai_m} {d : Nat} {p : Program} {l : Launch} {e : Env} {R : Room} {s : State} {m : MethodId} {args : Array Value} {below : List Frame} {meth : Method} {c : Code} {D : va_G} {tys : ai_ty} {A : Nat → Prop} {b L : Nat} {sx : Nat → Int32} {cells slots : Nat} {Q : State → Prop}
theorem ly_ok6 {i v : Int32} {N la i1 i2 L1 L2 : Int} (h1 : i1 ≤ i.toInt ∧ i.toInt ≤ i2) (h2 : 0 ≤ N ∧ N ≤ 40) (h3 : L1 ≤ la ∧ la ≤ L2) : ai_ok ([0, 0, i.toInt, v.toInt] ++ [N, la]) (ly_e6 i1 i2 L1 L2) := by
  have := ai_irg v
  exact en_mk (by simp only [ly_e6, List.cons_append, List.nil_append, en_b, and_true]; omega) rfl
/-- an answer at once -/
theorem ly_ret {mid cl a pcb k : Nat} {cut : List Nat} {z i1 i2 L1 L2 N la : Int} {sb : List ai_b} {zk i v : Int32} {ws : va_W} (hM : tb_MT[mid]? = some M) (hsc : M.2.2.2.2.1 = false) (C : ai_cx M 10 p R s m args c D tys A b L sx cells slots) (hw : ai_wd tb_TY ad tys ws) (ha : ad[cl]? = some a) (hrun : ly_r cl mid M cut pcb z i1 i2 L1 L2 sb = true) (hk : k < 4) (hz : zk.toInt = k) (h1 : i1 ≤ i.toInt ∧ i.toInt ≤ i2) (h2 : 0 ≤ N ∧ N ≤ 40) (h3 : L1 ≤ la ∧ la ≤ L2) (hsb : ai_sb ws ([0, 0, i.toInt, v.toInt] ++ [N, la]) sb) (hkn : ai_kn ad b ([0, 0, i.toInt, v.toInt] ++ [N, la]) ws (ly_kn cl k))
    (kk : ∀ (ws' : va_W) (z' : Int32) (lv' : List (Nat × Value)), ai_wd tb_TY ad tys ws' → ai_fr [] ws ws' → z'.toInt = z → hG M p l e R s m args below meth c D A cells slots Q pcb lv' [.int z'] ws') : hG M p l e R s m args below meth c D A cells slots Q 0 [(0, .ref a), (1, .int zk), (2, .int i), (3, .int v)] [] ws := by
  obtain ⟨xs, y1, y2⟩ := ai_anyE (List.all_eq_true.mp hrun k (List.mem_range.mpr hk))
  refine hseg (st := ly_st cl k i1 i2 L1 L2 sb) y1 hM C ⟨ly_ok6 h1 h2 h3, hsb, ly_l ha hz, trivial, hw, hkn, fun _ _ _ _ h => h, fun h => by rw [hsc] at h; cases h⟩ (fun x hx r' lv' sk' ws' hx' g' => ?_)
  obtain ⟨g1, g2, g3, g4, g5, g6, g7, g8⟩ := g'
  have hb := List.all_eq_true.mp y2 x hx
  unfold s3_is at hb
  rw [Bool.and_eq_true, ai_beq, decide_eq_true_eq] at hb
  rw [hb.2] at g4
  obtain ⟨i', rfl, hi'⟩ := sk1 rfl g4
  rw [hb.1]
  refine kk ws' i' lv' g5 g7 ?_
  rw [hi']
  unfold vn
  rw [nm_x hx' (k := 0) rfl]
  show 0 + z = z
  omega
theorem ly_sb {tag o : Nat} {i v : Int32} {N la : Int} {ws : va_W} (h : (tag = 4 ∧ i.toInt < N) ∨ (tag = 5 ∧ N ≤ i.toInt)) : ai_sb ws ([0, 0, i.toInt, v.toInt] ++ [N, la]) [(tag, 2, 4, 2, 0)] := fun q hq => by
  rw [List.mem_singleton.mp hq]
  refine ⟨i.toInt, N, i.toInt, rfl, rfl, rfl, fun h0 => ?_, fun h0 => ?_, fun h0 => ?_, fun h0 => ?_, fun h0 => ?_, fun h0 => ?_⟩
  all_goals dsimp only at h0 ⊢
  all_goals omega
theorem ly_kc {k : Nat} {i v : Int32} {N la : Int} {ws : va_W} (h1 : vi ws 42 k la) (h2 : vi ws 43 k N) : ai_kn ad b ([0, 0, i.toInt, v.toInt] ++ [N, la]) ws (ly_kn 0 k) := kc (h1.kn (n := 5) (t := la) rfl (by omega)) (kc (h2.kn (n := 4) (t := N) rfl (by omega)) k0)
theorem ly_km {k : Nat} {i v : Int32} {N la : Int} {ws : va_W} (h1 : vi ws 57 k la) (h2 : vi ws 58 k N) : ai_kn ad b ([0, 0, i.toInt, v.toInt] ++ [N, la]) ws (ly_kn 49 k) := kc (h1.kn (n := 5) (t := la) rfl (by omega)) (kc (h2.kn (n := 4) (t := N) rfl (by omega)) k0)
/-- an end 1 -/
theorem ly_one {mid pc pcb : Nat} {lv : List (Nat × Value)} {ws : va_W} (hM : tb_MT[mid]? = some M) (hsc : M.2.2.2.2.1 = false) (C : ai_cx M 10 p R s m args c D tys A b L sx cells slots) (hw : ai_wd tb_TY ad tys ws) (hrun : ((ai_ex (hk []) 20 mid M 10 [] (pc, [], [], [(0, 0, false, 0, 0), (0, 2555, false, 1, 0)], [], [])).any fun xs => xs.all (s3_is pcb 1)) = true)
    (kk : ∀ (ws' : va_W) (z' : Int32) (lv' : List (Nat × Value)), ai_wd tb_TY ad tys ws' → ai_fr [] ws ws' → z'.toInt = 1 → hG M p l e R s m args below meth c D A cells slots Q pcb lv' [.int z'] ws') : hG M p l e R s m args below meth c D A cells slots Q pc lv [] ws := by
  obtain ⟨xs, y1, y2⟩ := ai_anyE hrun
  have h0 : hG M p l e R s m args below meth c D A cells slots Q pc [] [] ws := by
    refine hseg (st := (pc, [], [], [(0, 0, false, 0, 0), (0, 2555, false, 1, 0)], [], [])) (r := [0, 0]) y1 hM C ⟨en_mk (by simp only [en_b, and_true]; omega) rfl, sb0, trivial, trivial, hw, k0, fun _ _ _ _ h => h, fun h => by rw [hsc] at h; cases h⟩ (fun x hx r' lv' sk' ws' hx' g' => ?_)
    obtain ⟨g1, g2, g3, g4, g5, g6, g7, g8⟩ := g'
    have hb := List.all_eq_true.mp y2 x hx
    unfold s3_is at hb
    rw [Bool.and_eq_true, ai_beq, decide_eq_true_eq] at hb
    rw [hb.2] at g4
    obtain ⟨i', rfl, hi'⟩ := sk1 rfl g4
    rw [hb.1]
    refine kk ws' i' lv' g5 g7 ?_
    rw [hi']
    unfold vn
    rw [nm_x hx' (k := 0) rfl]
    show (0 : Int) + 1 = 1
    omega
  intro H locs ls hP hD hS hl
  exact h0 H locs ls hP hD hS ⟨hl.1, hl.2.1, fun q hq => by cases hq⟩
theorem lyc_all {a a41 aR k La N : Nat} {zk i v : Int32} {ws : va_W} (C : ai_cx tb_m90 10 p R s m args c D tys A b L sx cells slots) (hw : ai_wd tb_TY ad tys ws) (ha : ad[0]? = some a) (ha41 : ad[41]? = some a41) (haR : ad[45 + k]? = some aR) (hk : k < 4) (hLa : La < 3) (hN : N ≤ 40) (hz : zk.toInt = k) (hi : 0 ≤ i.toInt ∧ i.toInt < N) (h42 : vi ws 42 k La) (h43 : vi ws 43 k N)
    (kk : ∀ (ws' : va_W) (z' : Int32) (lv' : List (Nat × Value)), ly_P ad tys k i v La ws ws' → z'.toInt = 1 → hG tb_m90 p l e R s m args below meth c D A cells slots Q 42 lv' [.int z'] ws') : hG tb_m90 p l e R s m args below meth c D A cells slots Q 0 [(0, .ref a), (1, .int zk), (2, .int i), (3, .int v)] [] ws := by
  have n0 : ∀ {u v : va_W} {Wx : List (Nat × Nat × Nat)}, ai_fr [] u v → ai_fr Wx u v := fun h => fr_sub (V := []) (fun _ _ _ q hq => by cases hq) h
  refine hsum (st := ly_st 0 k 0 39 La La [(4, 2, 4, 2, 0)]) (ly_at lyc_s hk hLa) rfl C (r := [0, 0, i.toInt, v.toInt] ++ [(N : Int), (La : Int)]) ⟨ly_ok6 (by omega) (by omega) (by omega), ly_sb (o := 0) (Or.inl ⟨rfl, hi.2⟩), ly_l ha hz, trivial, hw, ly_kc h42 h43, fun _ _ _ _ h => h, fun h => by cases h⟩ (fun x hx r' lv' sk' ws1 hx' hb hl hs hlo hsk hw1 hv' hf1 _ => ?_)
  rw [List.mem_singleton.mp hx] at hsk ⊢
  obtain ⟨x1, s1, rfl, d1, g4⟩ := hsk.cons
  obtain ⟨x2, s2, rfl, d2, g5⟩ := g4.cons
  obtain ⟨x3, s3, rfl, d3, g6⟩ := g5.cons
  obtain ⟨x4, s4, rfl, d4, g7⟩ := g6.cons
  cases g7.nil
  obtain ⟨y1, rfl, t1⟩ := dvn d1 (hx'.at (k := 3) rfl)
  obtain ⟨y2, rfl, t2⟩ := dvn d2 (hx'.at (k := 2) rfl)
  obtain ⟨y3, rfl, t3⟩ := dvn d3 (hx'.at (k := 0) rfl)
  have f4 := ref_of ha41 d4
  subst f4
  have q1 : y1 = v := Int32.toInt_inj.mp (by omega)
  have q2 : y2 = i := Int32.toInt_inj.mp (by omega)
  subst q1 q2
  refine hcallV (q := (248, 0, 43, 3, 3)) (M' := tb_m43) (cl := 41) (a := a41) (As := [.int y3, .int y2, .int y1]) (rest := []) (rets := [67]) (P := ly_P ad tys k y2 y1 La ws1) C (by decide) (tv_m90.1.1.1 (38, .invokevirtual 248, 3) (List.mem_of_getElem? (i := 22) rfl)) (tv_m90.2 _ (List.mem_of_getElem? (i := 40) rfl)) rfl rfl rfl rfl (by decide) (Nat.le_of_ble_eq_true rfl) rfl rfl rfl rfl hw1 ha41 (by decide) ?_ ?_ ?_
  · intro pcr hp
    rw [List.mem_singleton.mp hp]
    exact tv_m43.1.1.1 (67, .return_, 1) (List.mem_of_getElem? (i := 30) rfl)
  · intro p2 e2 R2 s2 m2 args2 below2 meth2 c2 Q2 C2 kk2
    exact ly_put C2 hw1 ha41 haR hk hLa (by omega) (by omega) (h42.fr hf1 rfl) (fun pcr w lv2 hp hP => kk2 pcr w lv2 hp hP)
  · intro ws2 hP
    exact ly_one rfl rfl C hP.1 lyc_e (fun ws3 z3 lv3 hw3 hf3 hz3 => kk ws3 z3 lv3 ⟨hw3, ((n0 hf1).tr hP.2.1).tr (n0 hf3), hP.2.2.fr hf3 rfl⟩ hz3)
def lym_P (ad : List Nat) (tys : ai_ty) (k : Nat) (i v : Int32) (L : Nat) (ws ws' : va_W) : Prop := ai_wd tb_TY ad tys ws' ∧ ai_fr [(59, 40 * k + i.toInt.toNat, 40 * k + i.toInt.toNat + 1)] ws ws' ∧ vi ws' 59 (40 * k + i.toInt.toNat) (ly_v L v).toInt
theorem lym_all {a aR k La N : Nat} {zk i v : Int32} {ws : va_W} (C : ai_cx tb_m165 10 p R s m args c D tys A b L sx cells slots) (hw : ai_wd tb_TY ad tys ws) (ha : ad[49]? = some a) (haR : ad[59]? = some aR) (hk : k < 4) (hLa : La < 3) (hN : N ≤ 40) (hz : zk.toInt = k) (hi : 0 ≤ i.toInt ∧ i.toInt < N) (h57 : vi ws 57 k La) (h58 : vi ws 58 k N)
    (kk : ∀ (ws' : va_W) (z' : Int32) (lv' : List (Nat × Value)), lym_P ad tys k i v La ws ws' → z'.toInt = 1 → hG tb_m165 p l e R s m args below meth c D A cells slots Q 101 lv' [.int z'] ws') : hG tb_m165 p l e R s m args below meth c D A cells slots Q 0 [(0, .ref a), (1, .int zk), (2, .int i), (3, .int v)] [] ws := by
  have n0 : ∀ {u v : va_W} {Wx : List (Nat × Nat × Nat)}, ai_fr [] u v → ai_fr Wx u v := fun h => fr_sub (V := []) (fun _ _ _ q hq => by cases hq) h
  refine hsum (st := ly_st 49 k 0 39 La La [(4, 2, 4, 2, 0)]) (ly_at lym_s hk hLa) rfl C (r := [0, 0, i.toInt, v.toInt] ++ [(N : Int), (La : Int)]) ⟨ly_ok6 (by omega) (by omega) (by omega), ly_sb (o := 0) (Or.inl ⟨rfl, hi.2⟩), ly_l ha hz, trivial, hw, ly_km h57 h58, fun _ _ _ _ h => h, fun h => by cases h⟩ (fun x hx r' lv' sk' ws1 hx' hb hl hs hlo hsk hw1 hv' hf1 _ => ?_)
  rw [List.mem_singleton.mp hx] at hsk ⊢
  have fin : ∀ (lv : List (Nat × Value)) (zx : Int32), zx.toInt = i.toInt + 40 * k → hG tb_m165 p l e R s m args below meth c D A cells slots Q 99 lv [.int (ly_v La v), .int zx, .ref aR] ws1 := fun lv zx hzx => by
    have hxx : zx.toInt.toNat = 40 * k + i.toInt.toNat := by omega
    refine hast (c0 := 59) (n := 160) C (tv_m165.1.1.1 (99, .iastore, 1) (List.mem_of_getElem? (i := 61) rfl)) rfl hw1 haR (by omega) (by omega) (fun ws3 hw3 hf3 v3 => ?_)
    rw [hxx] at hf3 v3
    exact ly_one rfl rfl C hw3 lym_e (fun ws4 z4 lv4 hw4 hf4 hz4 => kk ws4 z4 lv4 ⟨hw4, ((n0 hf1).tr hf3).tr (n0 hf4), v3.fr hf4 rfl⟩ hz4)
  match La, hLa, hsk, fin with
  | 0, _, hsk, fin =>
    obtain ⟨x0, s0, rfl, d0, g3⟩ := hsk.cons
    obtain ⟨x1, s1, rfl, d1, g4⟩ := g3.cons
    obtain ⟨x2, s2, rfl, d2, g5⟩ := g4.cons
    obtain ⟨x3, s3, rfl, d3, g6⟩ := g5.cons
    cases g6.nil
    obtain ⟨y0, rfl, t0⟩ := dvn d0 (hx'.at (k := 0) rfl)
    obtain ⟨y1, rfl, t1⟩ := dvn d1 (hx'.at (k := 3) rfl)
    obtain ⟨y2, rfl, t2⟩ := dvn d2 (hx'.at (k := 2) rfl)
    have f3 := ref_of haR d3
    subst f3
    have q1 : y1 = v := Int32.toInt_inj.mp (by omega)
    have q0 : y0 = 24 := Int32.toInt_inj.mp (by rw [t0]; decide)
    subst q1 q0
    refine hishl (pc := 71) C (tv_m165.1.1.1 (71, .ishl, 1) (List.mem_of_getElem? (i := 44) rfl)) ?_
    refine hbip (pc := 72) (v := 24) C (tv_m165.1.1.1 (72, .bipush 24, 2) (List.mem_of_getElem? (i := 45) rfl)) (by decide) ?_
    refine hishr (pc := 74) C (tv_m165.1.1.1 (74, .ishr, 1) (List.mem_of_getElem? (i := 46) rfl)) ?_
    rw [ly_b]
    exact hgoto (pc := 75) (tgt := 99) C (tv_m165.1.1.1 (75, .goto 24, 3) (List.mem_of_getElem? (i := 47) rfl)) (by decide) (fin lv' y2 (by omega))
  | 1, _, hsk, fin =>
    obtain ⟨x0, s0, rfl, d0, g3⟩ := hsk.cons
    obtain ⟨x1, s1, rfl, d1, g4⟩ := g3.cons
    obtain ⟨x2, s2, rfl, d2, g5⟩ := g4.cons
    obtain ⟨x3, s3, rfl, d3, g6⟩ := g5.cons
    cases g6.nil
    obtain ⟨y0, rfl, t0⟩ := dvn d0 (hx'.at (k := 0) rfl)
    obtain ⟨y1, rfl, t1⟩ := dvn d1 (hx'.at (k := 3) rfl)
    obtain ⟨y2, rfl, t2⟩ := dvn d2 (hx'.at (k := 2) rfl)
    have f3 := ref_of haR d3
    subst f3
    have q1 : y1 = v := Int32.toInt_inj.mp (by omega)
    have q0 : y0 = 16 := Int32.toInt_inj.mp (by rw [t0]; decide)
    subst q1 q0
    refine hishl (pc := 91) C (tv_m165.1.1.1 (91, .ishl, 1) (List.mem_of_getElem? (i := 56) rfl)) ?_
    refine hbip (pc := 92) (v := 16) C (tv_m165.1.1.1 (92, .bipush 16, 2) (List.mem_of_getElem? (i := 57) rfl)) (by decide) ?_
    refine hishr (pc := 94) C (tv_m165.1.1.1 (94, .ishr, 1) (List.mem_of_getElem? (i := 58) rfl)) ?_
    rw [ly_s]
    exact hgoto (pc := 95) (tgt := 99) C (tv_m165.1.1.1 (95, .goto 4, 3) (List.mem_of_getElem? (i := 59) rfl)) (by decide) (fin lv' y2 (by omega))
  | 2, _, hsk, fin =>
    obtain ⟨x1, s1, rfl, d1, g4⟩ := hsk.cons
    obtain ⟨x2, s2, rfl, d2, g5⟩ := g4.cons
    obtain ⟨x3, s3, rfl, d3, g6⟩ := g5.cons
    cases g6.nil
    obtain ⟨y1, rfl, t1⟩ := dvn d1 (hx'.at (k := 3) rfl)
    obtain ⟨y2, rfl, t2⟩ := dvn d2 (hx'.at (k := 2) rfl)
    have f3 := ref_of haR d3
    subst f3
    have q1 : y1 = v := Int32.toInt_inj.mp (by omega)
    subst q1
    exact fin lv' y2 (by omega)
  | La + 3, h, _, _ => exact absurd h (by omega)
end LYL
