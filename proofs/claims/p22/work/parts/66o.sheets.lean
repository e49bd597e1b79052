/-! sheet of class and reference, and in the law -/
def s3_lo (cl : Nat) : List (Nat × ai_v) := [(0, (0, cl, 0, 0)), (1, (1, 2, 0, 0)), (2, (1, 3, 0, 0)), (3, (1, 4, 0, 0))]
def s3_en (k1 k2 l1 l2 n1 n2 : Int) : List ai_e := [(0, 0, false, 0, 0), (0, 2555, false, 1, 0), (k1, k2, false, 2, 0), (l1, l2, false, 3, 0), (n1, n2, false, 4, 0)]
def s3_st (cl : Nat) (k1 k2 l1 l2 n1 n2 : Int) : ai_s := (0, s3_lo cl, [], s3_en k1 k2 l1 l2 n1 n2, [], [])
def s3_is (pc : Nat) (z : Int) (x : ai_s) : Bool := Nat.beq x.1 pc && decide (x.2.2.1 = [(1, 0, 0, z)])
theorem shc_b1 : ((ai_ex (hk []) 100 89 tb_m89 10 [38] (s3_st 0 (-2147483648) (-1) (-2147483648) 2147483647 (-2147483648) 2147483647)).any fun xs => xs.all (s3_is 23 (-1))) = true := by decide +kernel
theorem shc_b2 : ((ai_ex (hk []) 100 89 tb_m89 10 [38] (s3_st 0 4 2147483647 (-2147483648) 2147483647 (-2147483648) 2147483647)).any fun xs => xs.all (s3_is 23 (-1))) = true := by decide +kernel
theorem shc_b3 : ((ai_ex (hk []) 100 89 tb_m89 10 [38] (s3_st 0 0 3 (-2147483648) (-1) (-2147483648) 2147483647)).any fun xs => xs.all (s3_is 23 (-1))) = true := by decide +kernel
theorem shc_b4 : ((ai_ex (hk []) 100 89 tb_m89 10 [38] (s3_st 0 0 3 3 2147483647 (-2147483648) 2147483647)).any fun xs => xs.all (s3_is 23 (-1))) = true := by decide +kernel
theorem shc_b5 : ((ai_ex (hk []) 100 89 tb_m89 10 [38] (s3_st 0 0 3 0 2 41 2147483647)).any fun xs => xs.all (s3_is 23 (-1))) = true := by decide +kernel
theorem shc_n : ((ai_ex (hk []) 100 89 tb_m89 10 [38] (s3_st 0 0 3 0 2 (-2147483648) (-1))).any fun xs => xs.all (s3_is 30 (-14))) = true := by decide +kernel
theorem shm_b1 : ((ai_ex (hk []) 100 164 tb_m164 10 [39] (s3_st 49 (-2147483648) (-1) (-2147483648) 2147483647 (-2147483648) 2147483647)).any fun xs => xs.all (s3_is 31 (-1))) = true := by decide +kernel
theorem shm_b2 : ((ai_ex (hk []) 100 164 tb_m164 10 [39] (s3_st 49 4 2147483647 (-2147483648) 2147483647 (-2147483648) 2147483647)).any fun xs => xs.all (s3_is 31 (-1))) = true := by decide +kernel
theorem shm_b3 : ((ai_ex (hk []) 100 164 tb_m164 10 [39] (s3_st 49 0 3 (-2147483648) (-1) (-2147483648) 2147483647)).any fun xs => xs.all (s3_is 31 (-1))) = true := by decide +kernel
theorem shm_b4 : ((ai_ex (hk []) 100 164 tb_m164 10 [39] (s3_st 49 0 3 3 2147483647 (-2147483648) 2147483647)).any fun xs => xs.all (s3_is 31 (-1))) = true := by decide +kernel
theorem shm_b5 : ((ai_ex (hk []) 100 164 tb_m164 10 [39] (s3_st 49 0 3 0 2 41 2147483647)).any fun xs => xs.all (s3_is 31 (-1))) = true := by decide +kernel
theorem shm_n : ((ai_ex (hk []) 100 164 tb_m164 10 [39] (s3_st 49 0 3 0 2 (-2147483648) (-1))).any fun xs => xs.all (s3_is 38 (-14))) = true := by decide +kernel
theorem shc_1 : ((ai_ex (hk []) 100 89 tb_m89 10 [38] (s3_st 0 0 3 0 2 0 40)).any fun xs => xs.all fun x => ([(38, s3_lo 0, [(1, 4, 0, 0), (1, 3, 0, 0), (1, 2, 0, 0), (0, 41, 0, 0)], [], s3_en 0 3 0 2 0 40, [])] : List sm_t).any fun t => sm_is [] x t) = true := by decide +kernel
theorem shc_2 : ((ai_ex (hk []) 20 89 tb_m89 10 [] (41, s3_lo 0, [], s3_en 0 3 0 2 0 40, [], [])).any fun xs => xs.all (s3_is 42 1)) = true := by decide +kernel
theorem shm_1 : ((ai_ex (hk []) 100 164 tb_m164 10 [39] (s3_st 49 0 3 0 2 0 40)).any fun xs => xs.all fun x => ([(39, s3_lo 49, [], [], s3_en 0 3 0 2 0 40, [])] : List sm_t).any fun t => sm_is [] x t) = true := by decide +kernel
section SHS
variable {ad : List Nat} {M : ai_m} {d : Nat} {p : Program} {l : Launch} {e : Env} {R : Room} {s : State} {m : MethodId} {args : Array Value} {below : List Frame} {meth : Method} {c : Code} {D : va_G} {tys : ai_ty} {A : Nat → Prop} {b L : Nat} {sx : Nat → Int32} {cells slots : Nat} {Q : State → Prop}
theorem s3_ok {z1 z2 z3 : Int32} {k1 k2 l1 l2 n1 n2 : Int} (h1 : k1 ≤ z1.toInt ∧ z1.toInt ≤ k2) (h2 : l1 ≤ z2.toInt ∧ z2.toInt ≤ l2) (h3 : n1 ≤ z3.toInt ∧ z3.toInt ≤ n2) : ai_ok [0, 0, z1.toInt, z2.toInt, z3.toInt] (s3_en k1 k2 l1 l2 n1 n2) := en_mk (by simp only [s3_en, en_b, and_true]; omega) rfl
theorem s3_l {a cl : Nat} {z1 z2 z3 : Int32} (ha : ad[cl]? = some a) : ai_lo ad b [0, 0, z1.toInt, z2.toInt, z3.toInt] (s3_lo cl) [(0, .ref a), (1, .int z1), (2, .int z2), (3, .int z3)] := ⟨rfl, Or.inl ⟨rfl, a, ha, rfl⟩, rfl, int_dv (z := z1.toInt) rfl (by omega), rfl, int_dv (z := z2.toInt) rfl (by omega), rfl, int_dv (z := z3.toInt) rfl (by omega), trivial⟩
/-- an answer at once, nothing written -/
theorem s3_ret {mid cl a cut pcb N : Nat} {z : Int} {z1 z2 z3 : Int32} {k1 k2 l1 l2 n1 n2 : Int} {ws : va_W} (hM : tb_MT[mid]? = some M) (hsc : M.2.2.2.2.1 = false) (C : ai_cx M 10 p R s m args c D tys A b L sx cells slots) (hw : ai_wd tb_TY ad tys ws) (ha : ad[cl]? = some a) (hrun : ((ai_ex (hk []) N mid M 10 [cut] (s3_st cl k1 k2 l1 l2 n1 n2)).any fun xs => xs.all (s3_is pcb z)) = true) (h1 : k1 ≤ z1.toInt ∧ z1.toInt ≤ k2) (h2 : l1 ≤ z2.toInt ∧ z2.toInt ≤ l2) (h3 : n1 ≤ z3.toInt ∧ z3.toInt ≤ n2)
    (k : ∀ (ws' : va_W) (z' : Int32) (lv' : List (Nat × Value)), ai_wd tb_TY ad tys ws' → ai_fr [] ws ws' → z'.toInt = z → hG M p l e R s m args below meth c D A cells slots Q pcb lv' [.int z'] ws') : hG M p l e R s m args below meth c D A cells slots Q 0 [(0, .ref a), (1, .int z1), (2, .int z2), (3, .int z3)] [] ws := by
  obtain ⟨xs, y1, y2⟩ := ai_anyE hrun
  refine hseg (st := s3_st cl k1 k2 l1 l2 n1 n2) y1 hM C ⟨s3_ok h1 h2 h3, sb0, s3_l ha, trivial, hw, k0, fun _ _ _ _ h => h, fun h => by rw [hsc] at h; cases h⟩ (fun x hx r' lv' sk' ws' hx' g' => ?_)
  obtain ⟨g1, g2, g3, g4, g5, g6, g7, g8⟩ := g'
  have hb := List.all_eq_true.mp y2 x hx
  unfold s3_is at hb
  rw [Bool.and_eq_true, ai_beq, decide_eq_true_eq] at hb
  rw [hb.2] at g4
  obtain ⟨i, rfl, hi⟩ := sk1 rfl g4
  rw [hb.1]
  refine k ws' i lv' g5 g7 ?_
  rw [hi]
  unfold vn
  rw [nm_x hx' (k := 0) rfl]
  show 0 + z = z
  omega
theorem s3_un {r' : List Int} {lv' : List (Nat × Value)} {a cl : Nat} {z1 z2 z3 : Int32} (ha : ad[cl]? = some a) (hx' : ai_x [0, 0, z1.toInt, z2.toInt, z3.toInt] r') (hlo : ai_lo ad b r' (s3_lo cl) lv') : lv' = [(0, .ref a), (1, .int z1), (2, .int z2), (3, .int z3)] := by
  obtain ⟨lv1, rfl, pz1⟩ := lo_ref ha hlo
  obtain ⟨y1, lv2, rfl, d1, pz2⟩ := lo_int rfl pz1
  obtain ⟨y2, lv3, rfl, d2, pz3⟩ := lo_int rfl pz2
  obtain ⟨y3, lv4, rfl, d3, pz4⟩ := lo_int rfl pz3
  cases lo_nil pz4
  unfold vn at d1 d2 d3
  rw [nm_x hx' (k := 2) rfl] at d1
  rw [nm_x hx' (k := 3) rfl] at d2
  rw [nm_x hx' (k := 4) rfl] at d3
  dsimp only at d1 d2 d3
  rw [Int32.toInt_inj.mp (show y1.toInt = z1.toInt by omega), Int32.toInt_inj.mp (show y2.toInt = z2.toInt by omega), Int32.toInt_inj.mp (show y3.toInt = z3.toInt by omega)]
theorem shc_all {a a41 aR k N : Nat} {z1 z2 z3 : Int32} {ws : va_W} (C : ai_cx tb_m89 10 p R s m args c D tys A b L sx cells slots) (hw : ai_wd tb_TY ad tys ws) (ha : ad[0]? = some a) (ha41 : ad[41]? = some a41) (haR : ad[45 + k]? = some aR) (hk : k < 4) (hN : N ≤ 40) (ek : z1.toInt = k) (hla : 0 ≤ z2.toInt ∧ z2.toInt ≤ 2) (en : z3.toInt = N)
    (kk : ∀ (ws' : va_W) (z' : Int32) (lv' : List (Nat × Value)), sn_P ad tys k z2.toInt N ws ws' → z'.toInt = 1 → hG tb_m89 p l e R s m args below meth c D A cells slots Q 42 lv' [.int z'] ws') : hG tb_m89 p l e R s m args below meth c D A cells slots Q 0 [(0, .ref a), (1, .int z1), (2, .int z2), (3, .int z3)] [] ws := by
  refine hsum (st := s3_st 0 0 3 0 2 0 40) shc_1 rfl C ⟨s3_ok (by omega) hla (by omega), sb0, s3_l ha, trivial, hw, k0, fun _ _ _ _ h => h, fun h => by cases h⟩ (fun x hx r' lv' sk' ws1 hx' hb hl hs hlo hsk hw1 hv' hf1 _ => ?_)
  rw [List.mem_singleton.mp hx] at hlo hsk ⊢
  have e1 := s3_un ha hx' hlo
  subst e1
  obtain ⟨x1, s1, rfl, d1, g4⟩ := hsk.cons
  obtain ⟨x2, s2, rfl, d2, g5⟩ := g4.cons
  obtain ⟨x3, s3, rfl, d3, g6⟩ := g5.cons
  obtain ⟨x4, s4, rfl, d4, g7⟩ := g6.cons
  cases g7.nil
  obtain ⟨y3, rfl, t3⟩ := dvn d1 (hx'.at (k := 4) rfl)
  obtain ⟨y2, rfl, t2⟩ := dvn d2 (hx'.at (k := 3) rfl)
  obtain ⟨y1, rfl, t1⟩ := dvn d3 (hx'.at (k := 2) rfl)
  have f4 := ref_of ha41 d4
  subst f4
  refine hcallV (q := (241, 0, 40, 3, 3)) (M' := tb_m40) (cl := 41) (a := a41) (As := [.int y1, .int y2, .int y3]) (rest := []) (rets := [39]) (P := sn_P ad tys k z2.toInt N ws1) C (by decide) (tv_m89.1.1.1 (38, .invokevirtual 241, 3) (List.mem_of_getElem? (i := 22) rfl)) (tv_m89.2 _ (List.mem_of_getElem? (i := 38) rfl)) rfl rfl rfl rfl (by decide) (Nat.le_of_ble_eq_true rfl) rfl rfl rfl rfl hw1 ha41 (by decide) ?_ ?_ ?_
  · intro pcr hp
    rw [List.mem_singleton.mp hp]
    exact tv_m40.1.1.1 (39, .return_, 1) (List.mem_of_getElem? (i := 24) rfl)
  · intro p2 e2 R2 s2 m2 args2 below2 meth2 c2 Q2 C2 kk2
    exact sn_all C2 hw1 ha41 haR hk hN hla (by omega) (by omega) (by omega) (fun pcr w lv2 hp hP => kk2 pcr w lv2 hp hP)
  · intro ws2 hP
    obtain ⟨xs, u1, u2⟩ := ai_anyE shc_2
    refine hseg (st := (41, s3_lo 0, [], s3_en 0 3 0 2 0 40, [], [])) (r := [0, 0, z1.toInt, z2.toInt, z3.toInt]) u1 rfl C ⟨s3_ok (by omega) hla (by omega), sb0, s3_l ha, trivial, hP.1, k0, fun _ _ _ _ h => h, fun h => by cases h⟩ (fun x hx r3 lv3 sk3 ws3 hx3 g' => ?_)
    obtain ⟨g1, g2, g3, g4, g5, g6, g7, g8⟩ := g'
    have hb := List.all_eq_true.mp u2 x hx
    unfold s3_is at hb
    rw [Bool.and_eq_true, ai_beq, decide_eq_true_eq] at hb
    rw [hb.2] at g4
    obtain ⟨i, rfl, hi⟩ := sk1 rfl g4
    rw [hb.1]
    unfold vn at hi
    rw [nm_x hx3 (k := 0) rfl] at hi
    have n0 : ∀ {u v : va_W} {Wx : List (Nat × Nat × Nat)}, ai_fr [] u v → ai_fr Wx u v := fun h => fr_sub (V := []) (fun _ _ _ q hq => by cases hq) h
    exact kk ws3 i lv3 ⟨g5, ((n0 hf1).tr hP.2.1).tr (n0 g7), hP.2.2.1.fr g7 rfl, hP.2.2.2.1.fr g7 rfl, fun j hj => (hP.2.2.2.2 j hj).fr g7 rfl⟩ hi
/-- the reference's loop -/
theorem shm_loop {a aR k : Nat} {zk : Int32} {ws0 : va_W} (C : ai_cx tb_m164 10 p R s m args c D tys A b L sx cells slots) (ha : ad[49]? = some a) (haR : ad[59]? = some aR) (hk : k < 4) (ek : zk.toInt = k)
    (kk : ∀ (ws' : va_W) (z' : Int32) (lv' : List (Nat × Value)), ai_wd tb_TY ad tys ws' → ai_fr [(59, 40 * k, 40 * k + 40)] ws0 ws' → (∀ j, j < 40 → vi ws' 59 (40 * k + j) 0) → z'.toInt = 1 → hG tb_m164 p l e R s m args below meth c D A cells slots Q 83 lv' [.int z'] ws') :
    ∀ (f i : Nat) (zi : Int32) (ws : va_W), i + f = 40 → zi.toInt = i → ai_wd tb_TY ad tys ws → ai_fr [(59, 40 * k, 40 * k + 40)] ws0 ws → (∀ j, j < i → vi ws 59 (40 * k + j) 0) → hG tb_m164 p l e R s m args below meth c D A cells slots Q 56 [(0, .ref a), (1, .int zk), (4, .int zi)] [] ws := by
  intro f
  induction f with
  | zero =>
    intro i zi ws hif ezi hw hfr hv
    refine hild (j := 4) (x := zi) C (tv_m164.1.1.1 (56, .iload 4, 2) (List.mem_of_getElem? (i := 33) rfl)) (by simp) ?_
    refine hsum (st := (58, sm4_lo k, [(1, 2, 0, 0)], sm4_e 0 40, [], [])) (List.all_eq_true.mp sm4_2 k (List.mem_range.mpr hk)) rfl C (r := [0, 0, (i : Int)]) ⟨en_mk (by simp only [sm4_e, en_b, and_true]; omega) rfl, sb0, ⟨rfl, Or.inl ⟨rfl, a, ha, rfl⟩, rfl, int_dv (z := 0) rfl (by omega), rfl, int_dv (z := (i : Int)) rfl (by omega), trivial⟩, ⟨int_dv (z := (i : Int)) rfl (by omega), trivial⟩, hw, k0, fun _ _ _ _ h => h, fun h => by cases h⟩ (fun x hx r' lv' sk' ws' hx' hb hl hs hlo hsk hw' hv' hf _ => ?_)
    have h2 := nm_x hx' (k := 2) rfl
    rcases List.mem_cons.mp hx with rfl | hx
    · obtain ⟨z', rfl, hz'⟩ := sk1 rfl hsk
      unfold vn at hz'
      rw [nm_x hx' (k := 0) rfl] at hz'
      exact kk ws' z' lv' hw' (hfr.tr (fr_sub (V := []) (fun _ _ _ q hq => by cases hq) hf)) (fun j hj => (hv j (by omega)).fr hf rfl) hz'
    · have hx2 := List.mem_singleton.mp hx
      subst hx2
      simp (config := { decide := true }) only [sm4_e, bnd_b, lin_b, lin_q, Nat.reduceAdd, Nat.zero_add, Nat.reduceEqDiff, reduceIte, and_true, Int.add_zero] at hb hl
      exfalso
      omega
  | succ f ih =>
    intro i zi ws hif ezi hw hfr hv
    refine hild (j := 4) (x := zi) C (tv_m164.1.1.1 (56, .iload 4, 2) (List.mem_of_getElem? (i := 33) rfl)) (by simp) ?_
    refine hsum (st := (58, sm4_lo k, [(1, 2, 0, 0)], sm4_e 0 40, [], [])) (List.all_eq_true.mp sm4_2 k (List.mem_range.mpr hk)) rfl C (r := [0, 0, (i : Int)]) ⟨en_mk (by simp only [sm4_e, en_b, and_true]; omega) rfl, sb0, ⟨rfl, Or.inl ⟨rfl, a, ha, rfl⟩, rfl, int_dv (z := 0) rfl (by omega), rfl, int_dv (z := (i : Int)) rfl (by omega), trivial⟩, ⟨int_dv (z := (i : Int)) rfl (by omega), trivial⟩, hw, k0, fun _ _ _ _ h => h, fun h => by cases h⟩ (fun x hx r' lv' sk' ws' hx' hb hl hs hlo hsk hw' hv' hf _ => ?_)
    have h0 := nm_x hx' (k := 0) rfl
    have h2 := nm_x hx' (k := 2) rfl
    rcases List.mem_cons.mp hx with rfl | hx
    · simp (config := { decide := true }) only [sm4_e, bnd_b, lin_b, lin_q, Nat.reduceAdd, Nat.zero_add, Nat.reduceEqDiff, reduceIte, and_true, Int.add_zero] at hb hl
      exfalso
      omega
    · have hx2 := List.mem_singleton.mp hx
      subst hx2
      obtain ⟨lv1, rfl, pz1⟩ := lo_ref ha hlo
      obtain ⟨y1, lv2, rfl, d1, pz2⟩ := lo_int rfl pz1
      obtain ⟨y3, lv4, rfl, d3, pz4⟩ := lo_int rfl pz2
      cases lo_nil pz4
      obtain ⟨x1, s1, rfl, e1, g4⟩ := hsk.cons
      obtain ⟨x2, s2, rfl, e2, g5⟩ := g4.cons
      obtain ⟨x3, s3, rfl, e3, g6⟩ := g5.cons
      cases g6.nil
      obtain ⟨zv, rfl, hzv⟩ := int_of rfl e1
      obtain ⟨zx, rfl, hzx⟩ := int_of rfl e2
      have f3 := ref_of haR e3
      subst f3
      unfold vn at d1 d3 hzv hzx
      dsimp only at d1 d3 hzv hzx
      have hzi : zx.toInt.toNat = 40 * k + i := by omega
      refine hast (c0 := 59) (n := 160) C (tv_m164.1.1.1 (75, .iastore, 1) (List.mem_of_getElem? (i := 44) rfl)) rfl hw' haR (by omega) (by omega) (fun ws2 hw2 hf2 v2 => ?_)
      rw [hzi] at hf2 v2
      refine hsum (st := (76, sm4_lo k, [], sm4_e 0 39, [], [])) (List.all_eq_true.mp sm4_3 k (List.mem_range.mpr hk)) rfl C (r := [0, 0, (i : Int)]) ⟨en_mk (by simp only [sm4_e, en_b, and_true]; omega) rfl, sb0, ⟨rfl, Or.inl ⟨rfl, a, ha, rfl⟩, rfl, int_dv (z := 0) rfl (by omega), rfl, int_dv (z := (i : Int)) rfl (by omega), trivial⟩, trivial, hw2, k0, fun _ _ _ _ h => h, fun h => by cases h⟩ (fun x hx r3 lv5 sk5 ws3 hx3 hb3 hl3 hs3 hlo3 hsk3 hw3 hv3 hf3 _ => ?_)
      rw [List.mem_singleton.mp hx] at hlo3 hsk3 ⊢
      obtain ⟨lv1, rfl, pz1⟩ := lo_ref ha hlo3
      obtain ⟨u1, lv2, rfl, t1, pz2⟩ := lo_int rfl pz1
      obtain ⟨u3, lv4, rfl, t3, pz4⟩ := lo_int rfl pz2
      cases lo_nil pz4
      cases hsk3.nil
      unfold vn at t1 t3
      rw [nm_x hx3 (k := 0) rfl] at t1
      rw [nm_x hx3 (k := 2) rfl] at t3
      dsimp only at t1 t3
      have r1 : u1 = zk := Int32.toInt_inj.mp (by omega)
      subst r1
      refine ih (i + 1) u3 ws3 (by omega) (by omega) hw3 ((hfr.tr (fr_sub (V := []) (fun _ _ _ q hq => by cases hq) hf)).tr ((fr_sub (fun cc j h q hq => ?_) hf2).tr (fr_sub (V := []) (fun _ _ _ q hq => by cases hq) hf3))) (fun j hj => ?_)
      · have h1 := h (59, 40 * k, 40 * k + 40) (by simp)
        rw [List.mem_singleton.mp hq]
        dsimp only at h1 ⊢
        omega
      · by_cases hji : j = i
        · subst hji
          exact (v2.fr hf3 rfl).eq (by omega)
        · exact (((hv j (by omega)).fr hf rfl).fr hf2 (wr_no fun q hq => by
            rw [List.mem_singleton.mp hq]
            dsimp only
            omega)).fr hf3 rfl
def shm_P (ad : List Nat) (tys : ai_ty) (k : Nat) (la : Int) (N : Nat) (ws ws' : va_W) : Prop := ai_wd tb_TY ad tys ws' ∧ ai_fr [(57, k, k + 1), (58, k, k + 1), (59, 40 * k, 40 * k + 40)] ws ws' ∧ vi ws' 57 k la ∧ vi ws' 58 k N ∧ ∀ j, j < N → vi ws' 59 (40 * k + j) 0
theorem shm_all {a aR k N : Nat} {z1 z2 z3 : Int32} {ws : va_W} (C : ai_cx tb_m164 10 p R s m args c D tys A b L sx cells slots) (hw : ai_wd tb_TY ad tys ws) (ha : ad[49]? = some a) (haR : ad[59]? = some aR) (hk : k < 4) (hN : N ≤ 40) (ek : z1.toInt = k) (hla : 0 ≤ z2.toInt ∧ z2.toInt ≤ 2) (en : z3.toInt = N)
    (kk : ∀ (ws' : va_W) (z' : Int32) (lv' : List (Nat × Value)), shm_P ad tys k z2.toInt N ws ws' → z'.toInt = 1 → hG tb_m164 p l e R s m args below meth c D A cells slots Q 83 lv' [.int z'] ws') : hG tb_m164 p l e R s m args below meth c D A cells slots Q 0 [(0, .ref a), (1, .int z1), (2, .int z2), (3, .int z3)] [] ws := by
  refine hsum (st := s3_st 49 0 3 0 2 0 40) shm_1 rfl C ⟨s3_ok (by omega) hla (by omega), sb0, s3_l ha, trivial, hw, k0, fun _ _ _ _ h => h, fun h => by cases h⟩ (fun x hx r' lv' sk' ws1 hx' hb hl hs hlo hsk hw1 hv' hf1 _ => ?_)
  rw [List.mem_singleton.mp hx] at hlo hsk ⊢
  have e1 := s3_un ha hx' hlo
  subst e1
  cases hsk.nil
  refine hsum (List.all_eq_true.mp sm4_1 k (List.mem_range.mpr hk)) rfl C (r := [0, 0, z2.toInt, (N : Int)]) ⟨en_mk (by simp only [en_b, and_true]; omega) rfl, sb0, ⟨rfl, Or.inl ⟨rfl, a, ha, rfl⟩, rfl, int_dv (z := 0) rfl (by omega), rfl, int_dv (z := z2.toInt) rfl (by omega), rfl, int_dv (z := (N : Int)) rfl (by omega), trivial⟩, trivial, hw1, k0, fun _ _ _ _ h => h, fun h => by cases h⟩ (fun x hx r2 lv2 sk2 ws2 hx2 hb2 hl2 hs2 hlo2 hsk2 hw2 hv2 hf2 _ => ?_)
  have hx4 := List.mem_singleton.mp hx
  subst hx4
  obtain ⟨lv1, rfl, pz1⟩ := lo_ref ha hlo2
  obtain ⟨y1, lv3, rfl, d1, pz2⟩ := lo_int rfl pz1
  obtain ⟨y3, lv4, rfl, d3, pz4⟩ := lo_int rfl pz2
  cases lo_nil pz4
  cases hsk2.nil
  unfold vn at d1 d3
  rw [nm_x hx2 (k := 0) rfl] at d1 d3
  dsimp only at d1 d3
  obtain ⟨v57, v58, -⟩ := hv2
  have n59 : ∀ {cc i : Nat}, cc ≠ 59 → ai_wr [(59, 40 * k, 40 * k + 40)] cc i i = false := fun {cc i} h => wr_no fun q hq => by
    rw [List.mem_singleton.mp hq]
    dsimp only
    omega
  refine shm_loop (ws0 := ws2) C ha haR hk (by omega) (fun ws3 z' lv3 hw3 hf3 hv3 hz => kk ws3 z' lv3 ⟨hw3, ((fr_sub (V := []) (fun _ _ _ q hq => by cases hq) hf1).tr (fr_sub (fun cc j h q hq => ?_) hf2)).tr (fr_sub (fun cc j h q hq => ?_) hf3), (v57.eq (by rw [nm_x hx2 (k := 2) rfl]; dsimp only; omega)).fr hf3 (n59 (by dsimp only; omega)), (v58.eq (by rw [nm_x hx2 (k := 3) rfl]; dsimp only; omega)).fr hf3 (n59 (by dsimp only; omega)), fun j hj => hv3 j (by omega)⟩ hz) 40 0 y3 ws2 rfl (by omega) hw2 (fun _ _ _ _ h => h) (fun j hj => absurd hj (Nat.not_lt_zero _))
  · have h1 := h (57, k, k + 1) (by simp)
    have h2 := h (58, k, k + 1) (by simp)
    simp only [List.mem_cons, List.not_mem_nil, or_false] at hq
    rcases hq with rfl | rfl <;> dsimp only at h1 h2 ⊢ <;> omega
  · have h1 := h (59, 40 * k, 40 * k + 40) (by simp)
    rw [List.mem_singleton.mp hq]
    dsimp only at h1 ⊢
    omega
end SHS
