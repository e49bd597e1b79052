section
/-! keep, back: contracts, and in the law -/
def kb_e : List ai_e := [(0, 0, false, 0, 0), (0, 2555, false, 1, 0)]
def kb_lo (cl k : Nat) : List (Nat × ai_v) := [(0, (0, cl, 0, 0)), (1, (1, 0, 0, (k : Int)))]
noncomputable def kb_2 (f : Nat → Nat → Bool) : Bool := (List.range 2).all fun k => (List.range 2).all fun v => f k v
theorem kb_at {f : Nat → Nat → Bool} (h : kb_2 f = true) {k v : Nat} (hk : k < 2) (hv : v < 2) : f k v = true := List.all_eq_true.mp (List.all_eq_true.mp h k (List.mem_range.mpr hk)) v (List.mem_range.mpr hv)
/-- keep of the class -/
theorem ck_1 : kb_2 (fun k v => (ai_ex (hk []) 100 86 tb_m86 10 [35] (0, kb_lo 0 k, [], kb_e, [(25, k, (1, 0, 0, (v : Int)))], [])).any fun xs => xs.all fun x => ([(35, [(0, (0, 0, 0, 0)), (1, (1, 0, 0, (k : Int))), (2, (1, 0, 0, (v : Int)))], [(0, 1, 0, 0), (0, 13 + 6 * k, 0, 0)], [], kb_e, [])] : List sm_t).any fun t => sm_is [] x t) = true := by decide +kernel
theorem ck_2 : kb_2 (fun k v => (ai_ex (hk [(25, k, k + 1)]) 100 86 tb_m86 10 [] (38, [(0, (0, 0, 0, 0)), (1, (1, 0, 0, (k : Int))), (2, (1, 0, 0, (v : Int)))], [], kb_e, [], [])).any fun xs => xs.all fun x => ([(46, [], [(1, 0, 0, (v : Int))], [(1, 0, 0, 1)], kb_e, [])] : List sm_t).any fun t => sm_is [(25, k)] x t) = true := by decide +kernel
theorem mk_1 : kb_2 (fun k _ => (ai_ex (hk []) 100 162 tb_m162 10 [20] (0, kb_lo 49 k, [], kb_e, [], [])).any fun xs => xs.all fun x => ([(20, kb_lo 49 k, [(1, 0, 0, 27 + 27 * (k : Int)), (1, 0, 0, 0), (0, 49, 0, 0)], [], kb_e, [])] : List sm_t).any fun t => sm_is [] x t) = true := by decide +kernel
theorem mk_2 : kb_2 (fun k v => (ai_ex (hk [(56, k, k + 1)]) 100 162 tb_m162 10 [] (23, kb_lo 49 k, [], kb_e, [(56, k, (1, 0, 0, (v : Int)))], [])).any fun xs => xs.all fun x => ([(46, [], [(1, 0, 0, (v : Int))], [(1, 0, 0, 1)], kb_e, [])] : List sm_t).any fun t => sm_is [(56, k)] x t) = true := by decide +kernel
/-- back -/
theorem cb_0 : kb_2 (fun k _ => (ai_ex (hk []) 100 87 tb_m87 10 [] (0, kb_lo 0 k, [], kb_e, [(25, k, (1, 0, 0, 0))], [])).any fun xs => xs.all fun x => ([(22, [], [(1, 0, 0, -2)], [], kb_e, [])] : List sm_t).any fun t => sm_is [] x t) = true := by decide +kernel
theorem cb_1 : kb_2 (fun k _ => (ai_ex (hk []) 100 87 tb_m87 10 [32] (0, kb_lo 0 k, [], kb_e, [(25, k, (1, 0, 0, 1))], [])).any fun xs => xs.all fun x => ([(32, kb_lo 0 k, [(0, 13 + 6 * k, 0, 0), (0, 1, 0, 0)], [], kb_e, [])] : List sm_t).any fun t => sm_is [] x t) = true := by decide +kernel
theorem cb_2 : kb_2 (fun k _ => (ai_ex (hk []) 100 87 tb_m87 10 [] (35, kb_lo 0 k, [], kb_e ++ [(-2147483648, 2147483647, false, 2, 0)], [(1, 2, (1, 2, 0, 0))], [])).any fun xs => xs.all fun x => ([(42, [], [(1, 2, 0, 0)], [], kb_e ++ [(-2147483648, 2147483647, false, 2, 0)], [])] : List sm_t).any fun t => sm_is [] x t) = true := by decide +kernel
theorem mb_0 : kb_2 (fun k _ => (ai_ex (hk []) 100 163 tb_m163 10 [] (0, kb_lo 49 k, [], kb_e, [(56, k, (1, 0, 0, 0))], [])).any fun xs => xs.all fun x => ([(23, [], [(1, 0, 0, -2)], [], kb_e, [])] : List sm_t).any fun t => sm_is [] x t) = true := by decide +kernel
theorem mb_1 : kb_2 (fun k _ => (ai_ex (hk []) 100 163 tb_m163 10 [32] (0, kb_lo 49 k, [], kb_e, [(56, k, (1, 0, 0, 1))], [])).any fun xs => xs.all fun x => ([(32, kb_lo 49 k, [(1, 0, 0, 0), (1, 0, 0, 27 + 27 * (k : Int)), (0, 49, 0, 0)], [], kb_e, [])] : List sm_t).any fun t => sm_is [] x t) = true := by decide +kernel
theorem mb_2 : kb_2 (fun k _ => (ai_ex (hk []) 100 163 tb_m163 10 [] (35, kb_lo 49 k, [], kb_e ++ [(-2147483648, 2147483647, false, 2, 0)], [(50, 17, (1, 2, 0, 0))], [])).any fun xs => xs.all fun x => ([(42, [], [(1, 2, 0, 0)], [], kb_e ++ [(-2147483648, 2147483647, false, 2, 0)], [])] : List sm_t).any fun t => sm_is [] x t) = true := by decide +kernel
def kb_n (cl : Nat) (lo hi : Int) : ai_s := (0, [(0, (0, cl, 0, 0)), (1, (1, 2, 0, 0))], [], [(0, 0, false, 0, 0), (0, 2555, false, 1, 0), (lo, hi, false, 2, 0)], [], [])
theorem ck_n : (((ai_ex (hk []) 60 86 tb_m86 10 [35] (kb_n 0 (-2147483648) (-1))).any fun xs => xs.all (pl_bad 10)) && ((ai_ex (hk []) 60 86 tb_m86 10 [35] (kb_n 0 2 2147483647)).any fun xs => xs.all (pl_bad 10))) = true := by decide +kernel
theorem cb_n : (((ai_ex (hk []) 60 87 tb_m87 10 [35] (kb_n 0 (-2147483648) (-1))).any fun xs => xs.all (pl_bad 10)) && ((ai_ex (hk []) 60 87 tb_m87 10 [35] (kb_n 0 2 2147483647)).any fun xs => xs.all (pl_bad 10))) = true := by decide +kernel
theorem mk_n : (((ai_ex (hk []) 60 162 tb_m162 10 [35] (kb_n 49 (-2147483648) (-1))).any fun xs => xs.all (pl_bad 11)) && ((ai_ex (hk []) 60 162 tb_m162 10 [35] (kb_n 49 2 2147483647)).any fun xs => xs.all (pl_bad 11))) = true := by decide +kernel
theorem mb_n : (((ai_ex (hk []) 60 163 tb_m163 10 [35] (kb_n 49 (-2147483648) (-1))).any fun xs => xs.all (pl_bad 11)) && ((ai_ex (hk []) 60 163 tb_m163 10 [35] (kb_n 49 2 2147483647)).any fun xs => xs.all (pl_bad 11))) = true := by decide +kernel
section KBI
variable {ad : List Nat} {p : Program} {l : Launch} {e : Env} {R : Room} {s : State} {m : MethodId} {args : Array Value} {below : List Frame} {meth : Method} {c : Code} {D : va_G} {tys : ai_ty} {A : Nat → Prop} {b L : Nat} {sx : Nat → Int32} {cells slots : Nat} {Q : State → Prop}
theorem kb_bad {M : ai_m} {mid cl a pcb : Nat} {z : Int32} {ws : va_W} (hM : tb_MT[mid]? = some M) (hsc : M.2.2.2.2.1 = false) (C : ai_cx M 10 p R s m args c D tys A b L sx cells slots) (hw : ai_wd tb_TY ad tys ws) (ha : ad[cl]? = some a) (hrun : (((ai_ex (hk []) 60 mid M 10 [35] (kb_n cl (-2147483648) (-1))).any fun xs => xs.all (pl_bad pcb)) && ((ai_ex (hk []) 60 mid M 10 [35] (kb_n cl 2 2147483647)).any fun xs => xs.all (pl_bad pcb))) = true) (hno : ¬ (0 ≤ z.toInt ∧ z.toInt ≤ 1))
    (k : ∀ (ws' : va_W) (z' : Int32) (lv' : List (Nat × Value)), ai_wd tb_TY ad tys ws' → ai_fr [] ws ws' → z'.toInt = -1 → hG M p l e R s m args below meth c D A cells slots Q pcb lv' [.int z'] ws') : hG M p l e R s m args below meth c D A cells slots Q 0 [(0, .ref a), (1, .int z)] [] ws := by
  obtain ⟨r1, r2⟩ := band hrun
  have bz := ai_irg z
  have fin : ∀ {lo hi : Int}, ((ai_ex (hk []) 60 mid M 10 [35] (kb_n cl lo hi)).any fun xs => xs.all (pl_bad pcb)) = true → lo ≤ z.toInt → z.toInt ≤ hi → hG M p l e R s m args below meth c D A cells slots Q 0 [(0, .ref a), (1, .int z)] [] ws := fun {lo hi} hr h1 h2 => by
    obtain ⟨xs, y1, y2⟩ := ai_anyE hr
    refine hseg (st := kb_n cl lo hi) (r := [0, 0, z.toInt]) y1 hM C ⟨en_mk (by simp only [kb_n, en_b, and_true]; omega) rfl, sb0, ⟨rfl, Or.inl ⟨rfl, a, ha, rfl⟩, rfl, int_dv (z := z.toInt) rfl (by omega), trivial⟩, trivial, hw, k0, fun _ _ _ _ h => h, fun h => by rw [hsc] at h; cases h⟩ (fun x hx r' lv' sk' ws' hx' g' => ?_)
    obtain ⟨g1, g2, g3, g4, g5, g6, g7, g8⟩ := g'
    have hb := List.all_eq_true.mp y2 x hx
    unfold pl_bad at hb
    rw [Bool.and_eq_true, ai_beq, decide_eq_true_eq] at hb
    rw [hb.2] at g4
    obtain ⟨i, rfl, hi⟩ := sk1 rfl g4
    rw [hb.1]
    refine k ws' i lv' g5 g7 ?_
    rw [hi]
    unfold vn
    rw [nm_x hx' (k := 0) rfl]
    rfl
  by_cases h : z.toInt < 0
  · exact fin r1 (by omega) (by omega)
  · exact fin r2 (by omega) (by omega)
theorem kb_ok : ai_ok ([0, 0] : List Int) kb_e := en_mk (by simp only [kb_e, en_b, and_true]; omega) rfl
theorem kb_l2 {cl a k : Nat} {z : Int32} (ha : ad[cl]? = some a) (hz : z.toInt = k) : ai_lo ad b [0, 0] (kb_lo cl k) [(0, .ref a), (1, .int z)] := ⟨rfl, Or.inl ⟨rfl, a, ha, rfl⟩, rfl, int_dv (z := 0) rfl (by omega), trivial⟩
end KBI
end
section
/-- all places of an evening, from one cell to another -/
def bcV (src dst : Nat) (ws ws' : va_W) : Prop := (∀ (j : Nat) (z : Int), j < 4 → vi ws src j z → vi ws' dst j z) ∧ (∀ (q j : Nat) (z : Int), q < 4 → j < 4 → vi ws (src + (1 + q)) j z → vi ws' (dst + (1 + q)) j z) ∧ ∀ (j : Nat) (z : Int), j < 8 → vi ws (src + 5) j z → vi ws' (dst + 5) j z
def csV (fr to : Nat) (ws ws' : va_W) : Prop := ∀ (j : Nat) (z : Int), j < 27 → vi ws 50 (fr + j) z → vi ws' 50 (to + j) z
section KBK
variable {ad : List Nat} {p : Program} {l : Launch} {e : Env} {R : Room} {s : State} {m : MethodId} {args : Array Value} {below : List Frame} {meth : Method} {c : Code} {D : va_G} {tys : ai_ty} {A : Nat → Prop} {b L : Nat} {sx : Nat → Int32} {cells slots : Nat} {Q : State → Prop}
theorem kb_T {k : Nat} (hk : k < 2) : ∃ F : List ai_f, tb_TY[13 + 6 * k]? = some (0, 0, F) := match k, hk with
  | 0, _ => ⟨_, rfl⟩
  | 1, _ => ⟨_, rfl⟩
  | k + 2, h => absurd h (by omega)
theorem kb_bc {k : Nat} (hk : k < 2) : bc_r 1 (13 + 6 * k) = true ∧ bc_r (13 + 6 * k) 1 = true ∧ bc_T (13 + 6 * k) := match k, hk with
  | 0, _ => ⟨bc_r3, bc_r5, bc_T13⟩
  | 1, _ => ⟨bc_r4, bc_r6, bc_T19⟩
  | k + 2, h => absurd h (by omega)
theorem kb_cs {k : Nat} (hk : k < 2) : cs_r 0 (27 + 27 * k) = true ∧ cs_r (27 + 27 * k) 0 = true ∧ cs_pt 0 = true ∧ cs_pt (27 + 27 * k) = true := match k, hk with
  | 0, _ => ⟨cs_r3, cs_r4, by decide +kernel, by decide +kernel⟩
  | 1, _ => ⟨cs_r5, cs_r6, by decide +kernel, by decide +kernel⟩
  | k + 2, h => absurd h (by omega)
def ck_P (ad : List Nat) (tys : ai_ty) (k v : Nat) (ws ws' : va_W) (z' : Int32) : Prop := ai_wd tb_TY ad tys ws' ∧ ai_fr (bc_W (13 + 6 * k) ++ [(25, k, k + 1)]) ws ws' ∧ vi ws' 25 k 1 ∧ bcV 1 (13 + 6 * k) ws ws' ∧ z'.toInt = v
theorem ck_all {a a1 aI k v : Nat} {z : Int32} {ws : va_W} (hk : k < 2) (hv : v < 2) (hz : z.toInt = k) (C : ai_cx tb_m86 10 p R s m args c D tys A b L sx cells slots) (hw : ai_wd tb_TY ad tys ws) (ha : ad[0]? = some a) (ha1 : ad[1]? = some a1) (haI : ad[13 + 6 * k]? = some aI) (h25 : vi ws 25 k v)
    (kk : ∀ (pcr : Nat) (ws' : va_W) (z' : Int32) (lv' : List (Nat × Value)), pcr ∈ [10, 46] → ck_P ad tys k v ws ws' z' → hG tb_m86 p l e R s m args below meth c D A cells slots Q pcr lv' [.int z'] ws') : hG tb_m86 p l e R s m args below meth c D A cells slots Q 0 [(0, .ref a), (1, .int z)] [] ws := by
  obtain ⟨F, hF⟩ := kb_T hk
  refine hsum (st := (0, kb_lo 0 k, [], kb_e, [(25, k, (1, 0, 0, (v : Int)))], [])) (kb_at ck_1 hk hv) rfl C ⟨kb_ok, sb0, kb_l2 ha hz, trivial, hw, kc (h25.kn (n := 0) (t := 0) rfl (by omega)) k0, fun _ _ _ _ h => h, fun h => by cases h⟩ (fun x hx r' lv' sk' ws1 hx' hb hl hs hlo hsk hw1 hv' hf1 _ => ?_)
  rw [List.mem_singleton.mp hx] at hlo hsk ⊢
  obtain ⟨lv1, rfl, pz1⟩ := lo_ref ha hlo
  obtain ⟨y1, lv2, rfl, d1, pz2⟩ := lo_int rfl pz1
  obtain ⟨y2, lv3, rfl, d2, pz3⟩ := lo_int rfl pz2
  cases lo_nil pz3
  unfold vn at d1 d2
  rw [nm_x hx' (k := 0) rfl] at d1 d2
  dsimp only at d1 d2
  obtain ⟨x1, s1, rfl, e1, g4⟩ := hsk.cons
  obtain ⟨x2, s2, rfl, e2, g5⟩ := g4.cons
  cases g5.nil
  have f1 := ref_of ha1 e1
  have f2 := ref_of haI e2
  subst f1 f2
  refine hcallV (q := (84, 0, 1, 1, 0)) (M' := tb_m1) (cl := 13 + 6 * k) (a := aI) (t := (0, 0, F)) (As := [.ref a1]) (rest := []) (rets := [103]) (P := bc_P ad tys 1 (13 + 6 * k) ws1) C (by decide) (tv_m86.1.1.1 (35, .invokevirtual 84, 3) (List.mem_of_getElem? (i := 21) rfl)) (tv_m86.2 _ (List.mem_of_getElem? (i := 3) rfl)) rfl rfl rfl rfl (by decide) (Nat.le_of_ble_eq_true rfl) rfl hF rfl rfl hw1 haI (by decide) ?_ ?_ ?_
  · intro pcr hp
    rw [List.mem_singleton.mp hp]
    exact tv_m1.1.1.1 (103, .return_, 1) (List.mem_of_getElem? (i := 56) rfl)
  · intro p2 e2 R2 s2 m2 args2 below2 meth2 c2 Q2 C2 kk2
    exact bc_all (kb_bc hk).1 bc_T1 (mm_cx (by decide) C2) hw1 haI ha1 (fun pcr w lv2 hp hP => kk2 pcr w lv2 hp hP)
  · intro ws2 hbc
    refine hsum (st := (38, [(0, (0, 0, 0, 0)), (1, (1, 0, 0, (k : Int))), (2, (1, 0, 0, (v : Int)))], [], kb_e, [], [])) (kb_at ck_2 hk hv) rfl C ⟨kb_ok, sb0, ⟨rfl, Or.inl ⟨rfl, a, ha, rfl⟩, rfl, int_dv (z := 0) rfl (by omega), rfl, int_dv (z := 0) rfl (by omega), trivial⟩, trivial, hbc.1, k0, fun _ _ _ _ h => h, fun h => by cases h⟩ (fun x hx r2 lv4 sk4 ws3 hx2 hb2 hl2 hs2 hlo2 hsk2 hw3 hv3 hf3 _ => ?_)
    have hx4 := List.mem_singleton.mp hx
    subst hx4
    obtain ⟨zz, rfl, hzz⟩ := sk1 rfl hsk2
    unfold vn at hzz
    rw [nm_x hx2 (k := 0) rfl] at hzz
    dsimp only at hzz
    obtain ⟨w25, -⟩ := hv3
    have nw : ∀ {cc i : Nat}, cc ≠ 25 → ai_wr [(25, k, k + 1)] cc i i = false := fun {cc i} hcc => wr_no fun q hq => by
      rw [List.mem_singleton.mp hq]
      dsimp only
      omega
    refine kk 46 ws3 zz lv4 (by decide) ⟨hw3, ?_, w25.eq (by rw [nm_x hx2 (k := 0) rfl]; rfl), ⟨fun j z hj hz => ?_, fun q j z hq hj hz => ?_, fun j z hj hz => ?_⟩, by omega⟩
    · refine ((fr_sub (V := []) (fun _ _ _ q hq => by cases hq) hf1).tr (fr_sub (fun cc i h q hq => ?_) hbc.2.1)).tr (fr_sub (fun cc i h q hq => ?_) hf3)
      · have h1 := h q (List.mem_append.mpr (Or.inl hq))
        unfold bc_W at hq
        simp only [List.mem_cons, List.not_mem_nil, or_false] at hq
        rcases hq with rfl | rfl | rfl | rfl | rfl | rfl <;> dsimp only at h1 ⊢ <;> omega
      · have h1 := h q (List.mem_append.mpr (Or.inr hq))
        rw [List.mem_singleton.mp hq] at h1 ⊢
        dsimp only at h1 ⊢
        omega
    · exact (hbc.2.2.1 j z hj (hz.fr hf1 rfl)).fr hf3 (nw (by omega))
    · exact (hbc.2.2.2.1 q j z hq hj (hz.fr hf1 rfl)).fr hf3 (nw (by omega))
    · exact (hbc.2.2.2.2 j z hj (hz.fr hf1 rfl)).fr hf3 (nw (by omega))
def mk_P (ad : List Nat) (tys : ai_ty) (k v : Nat) (ws ws' : va_W) (z' : Int32) : Prop := ai_wd tb_TY ad tys ws' ∧ ai_fr [(50, 27 + 27 * k, 54 + 27 * k), (56, k, k + 1)] ws ws' ∧ vi ws' 56 k 1 ∧ csV 0 (27 + 27 * k) ws ws' ∧ z'.toInt = v
theorem mk_all {a k v : Nat} {z : Int32} {ws : va_W} (hk : k < 2) (hv : v < 2) (hz : z.toInt = k) (C : ai_cx tb_m162 10 p R s m args c D tys A b L sx cells slots) (hw : ai_wd tb_TY ad tys ws) (ha : ad[49]? = some a) (h56 : vi ws 56 k v)
    (kk : ∀ (pcr : Nat) (ws' : va_W) (z' : Int32) (lv' : List (Nat × Value)), pcr ∈ [11, 46] → mk_P ad tys k v ws ws' z' → hG tb_m162 p l e R s m args below meth c D A cells slots Q pcr lv' [.int z'] ws') : hG tb_m162 p l e R s m args below meth c D A cells slots Q 0 [(0, .ref a), (1, .int z)] [] ws := by
  refine hsum (st := (0, kb_lo 49 k, [], kb_e, [], [])) (kb_at (v := 0) mk_1 hk (by decide)) rfl C ⟨kb_ok, sb0, kb_l2 ha hz, trivial, hw, k0, fun _ _ _ _ h => h, fun h => by cases h⟩ (fun x hx r' lv' sk' ws1 hx' hb hl hs hlo hsk hw1 hv' hf1 _ => ?_)
  rw [List.mem_singleton.mp hx] at hlo hsk ⊢
  obtain ⟨lv1, rfl, pz1⟩ := lo_ref ha hlo
  obtain ⟨y1, lv2, rfl, d1, pz2⟩ := lo_int rfl pz1
  cases lo_nil pz2
  unfold vn at d1
  rw [nm_x hx' (k := 0) rfl] at d1
  dsimp only at d1
  obtain ⟨x1, s1, rfl, e1, g4⟩ := hsk.cons
  obtain ⟨x2, s2, rfl, e2, g5⟩ := g4.cons
  obtain ⟨x3, s3, rfl, e3, g6⟩ := g5.cons
  cases g6.nil
  obtain ⟨zto, rfl, hzto⟩ := dvn e1 (hx'.at (k := 0) rfl)
  obtain ⟨zfr, rfl, hzfr⟩ := dvn e2 (hx'.at (k := 0) rfl)
  have f3 := ref_of ha e3
  subst f3
  refine hcallV (q := (174, 0, 134, 2, 6)) (M' := tb_m134) (cl := 49) (a := a) (As := [.int zfr, .int zto]) (rest := []) (rets := [30]) (P := cs_P ad tys 0 (27 + 27 * k) ws1) C (by decide) (tv_m162.1.1.1 (20, .invokevirtual 174, 3) (List.mem_of_getElem? (i := 15) rfl)) (tv_m162.2 _ (List.mem_of_getElem? (i := 21) rfl)) rfl rfl rfl rfl (by decide) (Nat.le_of_ble_eq_true rfl) rfl rfl rfl rfl hw1 ha (by decide) ?_ ?_ ?_
  · intro pcr hp
    rw [List.mem_singleton.mp hp]
    exact tv_m134.1.1.1 (30, .return_, 1) (List.mem_of_getElem? (i := 19) rfl)
  · intro p2 e2 R2 s2 m2 args2 below2 meth2 c2 Q2 C2 kk2
    exact cs_all (kb_cs hk).1 (kb_cs hk).2.2.1 (by decide) (mm_cx (by decide) C2) hw1 ha (by omega) (by omega) (fun pcr w lv2 hp hP => kk2 pcr w lv2 hp hP)
  · intro ws2 hcs
    have h56' : vi ws2 56 k v := (h56.fr hf1 rfl).fr hcs.2.1 rfl
    refine hsum (st := (23, kb_lo 49 k, [], kb_e, [(56, k, (1, 0, 0, (v : Int)))], [])) (kb_at mk_2 hk hv) rfl C ⟨kb_ok, sb0, kb_l2 ha (by omega), trivial, hcs.1, kc (h56'.kn (n := 0) (t := 0) rfl (by omega)) k0, fun _ _ _ _ h => h, fun h => by cases h⟩ (fun x hx r2 lv4 sk4 ws3 hx2 hb2 hl2 hs2 hlo2 hsk2 hw3 hv3 hf3 _ => ?_)
    have hx4 := List.mem_singleton.mp hx
    subst hx4
    obtain ⟨zz, rfl, hzz⟩ := sk1 rfl hsk2
    unfold vn at hzz
    rw [nm_x hx2 (k := 0) rfl] at hzz
    dsimp only at hzz
    obtain ⟨w56, -⟩ := hv3
    refine kk 46 ws3 zz lv4 (by decide) ⟨hw3, ?_, w56.eq (by rw [nm_x hx2 (k := 0) rfl]; rfl), fun j z hj hz => (hcs.2.2 j z hj (hz.fr hf1 rfl)).fr hf3 rfl, by omega⟩
    refine ((fr_sub (V := []) (fun _ _ _ q hq => by cases hq) hf1).tr (fr_sub (fun cc i h q hq => ?_) hcs.2.1)).tr (fr_sub (fun cc i h q hq => ?_) hf3)
    · have h1 := h (50, 27 + 27 * k, 54 + 27 * k) (by simp)
      rw [List.mem_singleton.mp hq]
      dsimp only at h1 ⊢
      omega
    · have h1 := h (56, k, k + 1) (by simp)
      rw [List.mem_singleton.mp hq]
      dsimp only at h1 ⊢
      omega
end KBK
end
section
/-! keep, back, in the law -/
section KBL
variable {ad : List Nat} {p : Program} {l : Launch} {e : Env} {R : Room} {s : State} {m : MethodId} {args : Array Value} {below : List Frame} {meth : Method} {c : Code} {D : va_G} {tys : ai_ty} {A : Nat → Prop} {b L : Nat} {sx : Nat → Int32} {cells slots : Nat} {Q : State → Prop}
def cb_P (ad : List Nat) (tys : ai_ty) (k v : Nat) (ws ws' : va_W) (z' : Int32) : Prop := ai_wd tb_TY ad tys ws' ∧ (v = 0 → ai_fr [] ws ws' ∧ z'.toInt = -2) ∧ (v = 1 → ai_fr (bc_W 1) ws ws' ∧ bcV (13 + 6 * k) 1 ws ws' ∧ ∀ z, vi ws' 1 2 z → z'.toInt = z)
theorem cb_all {a a1 aI k v : Nat} {z : Int32} {ws : va_W} (hk : k < 2) (hv : v < 2) (hz : z.toInt = k) (C : ai_cx tb_m87 10 p R s m args c D tys A b L sx cells slots) (hw : ai_wd tb_TY ad tys ws) (ha : ad[0]? = some a) (ha1 : ad[1]? = some a1) (haI : ad[13 + 6 * k]? = some aI) (h25 : vi ws 25 k v)
    (kk : ∀ (pcr : Nat) (ws' : va_W) (z' : Int32) (lv' : List (Nat × Value)), pcr ∈ [10, 22, 42] → cb_P ad tys k v ws ws' z' → hG tb_m87 p l e R s m args below meth c D A cells slots Q pcr lv' [.int z'] ws') : hG tb_m87 p l e R s m args below meth c D A cells slots Q 0 [(0, .ref a), (1, .int z)] [] ws := by
  obtain rfl | rfl : v = 0 ∨ v = 1 := by omega
  · refine hsum (st := (0, kb_lo 0 k, [], kb_e, [(25, k, (1, 0, 0, 0))], [])) (kb_at (v := 0) cb_0 hk (by decide)) rfl C ⟨kb_ok, sb0, kb_l2 ha hz, trivial, hw, kc (h25.kn (n := 0) (t := 0) rfl (by omega)) k0, fun _ _ _ _ h => h, fun h => by cases h⟩ (fun x hx r' lv' sk' ws1 hx' hb hl hs hlo hsk hw1 hv' hf1 _ => ?_)
    have hx4 := List.mem_singleton.mp hx
    subst hx4
    obtain ⟨zz, rfl, hzz⟩ := sk1 rfl hsk
    unfold vn at hzz
    rw [nm_x hx' (k := 0) rfl] at hzz
    dsimp only at hzz
    exact kk 22 ws1 zz lv' (by decide) ⟨hw1, fun _ => ⟨hf1, by omega⟩, fun h => absurd h (by decide)⟩
  · refine hsum (st := (0, kb_lo 0 k, [], kb_e, [(25, k, (1, 0, 0, 1))], [])) (kb_at (v := 0) cb_1 hk (by decide)) rfl C ⟨kb_ok, sb0, kb_l2 ha hz, trivial, hw, kc (h25.kn (n := 0) (t := 0) rfl (by omega)) k0, fun _ _ _ _ h => h, fun h => by cases h⟩ (fun x hx r' lv' sk' ws1 hx' hb hl hs hlo hsk hw1 hv' hf1 _ => ?_)
    rw [List.mem_singleton.mp hx] at hlo hsk ⊢
    obtain ⟨lv1, rfl, pz1⟩ := lo_ref ha hlo
    obtain ⟨y1, lv2, rfl, d1, pz2⟩ := lo_int rfl pz1
    cases lo_nil pz2
    unfold vn at d1
    rw [nm_x hx' (k := 0) rfl] at d1
    dsimp only at d1
    obtain ⟨x1, s1, rfl, e1, g4⟩ := hsk.cons
    obtain ⟨x2, s2, rfl, e2, g5⟩ := g4.cons
    cases g5.nil
    have f1 := ref_of haI e1
    have f2 := ref_of ha1 e2
    subst f1 f2
    refine hcallV (q := (84, 0, 1, 1, 0)) (M' := tb_m1) (cl := 1) (a := a1) (As := [.ref aI]) (rest := []) (rets := [103]) (P := bc_P ad tys (13 + 6 * k) 1 ws1) C (by decide) (tv_m87.1.1.1 (32, .invokevirtual 84, 3) (List.mem_of_getElem? (i := 19) rfl)) (tv_m87.2 _ (List.mem_of_getElem? (i := 3) rfl)) rfl rfl rfl rfl (by decide) (Nat.le_of_ble_eq_true rfl) rfl rfl rfl rfl hw1 ha1 (by decide) ?_ ?_ ?_
    · intro pcr hp
      rw [List.mem_singleton.mp hp]
      exact tv_m1.1.1.1 (103, .return_, 1) (List.mem_of_getElem? (i := 56) rfl)
    · intro p2 e2 R2 s2 m2 args2 below2 meth2 c2 Q2 C2 kk2
      exact bc_all (kb_bc hk).2.1 (kb_bc hk).2.2 (mm_cx (by decide) C2) hw1 ha1 haI (fun pcr w lv2 hp hP => kk2 pcr w lv2 hp hP)
    · intro ws2 hbc
      obtain ⟨zl, hzl, bl⟩ := vi_ex hbc.1 (k := 1) (i := 2) rfl rfl
      refine hsum (st := (35, kb_lo 0 k, [], kb_e ++ [(-2147483648, 2147483647, false, 2, 0)], [(1, 2, (1, 2, 0, 0))], [])) (kb_at (v := 0) cb_2 hk (by decide)) rfl C (r := [0, 0, zl]) (lv := [(0, .ref a), (1, .int y1)]) ⟨en_mk (by simp only [kb_e, List.cons_append, List.nil_append, en_b, and_true]; omega) rfl, sb0, ?_, trivial, hbc.1, kc (hzl.kn (n := 2) (t := zl) rfl (by omega)) k0, fun _ _ _ _ h => h, fun h => by cases h⟩ (fun x hx r2 lv4 sk4 ws3 hx2 hb2 hl2 hs2 hlo2 hsk2 hw3 hv3 hf3 _ => ?_)
      · exact ⟨rfl, Or.inl ⟨rfl, a, ha, rfl⟩, rfl, int_dv (z := 0) rfl (by omega), trivial⟩
      · have hx4 := List.mem_singleton.mp hx
        subst hx4
        obtain ⟨zz, rfl, hzz⟩ := sk1 rfl hsk2
        unfold vn at hzz
        rw [nm_x hx2 (k := 2) rfl] at hzz
        dsimp only at hzz
        refine kk 42 ws3 zz lv4 (by decide) ⟨hw3, fun h => absurd h (by decide), fun _ => ⟨((wsub_ok (V := []) rfl hf1).tr hbc.2.1).tr (wsub_ok (V := []) rfl hf3), ⟨fun j z hj hz => (hbc.2.2.1 j z hj (hz.fr hf1 rfl)).fr hf3 rfl, fun q j z hq hj hz => (hbc.2.2.2.1 q j z hq hj (hz.fr hf1 rfl)).fr hf3 rfl, fun j z hj hz => (hbc.2.2.2.2 j z hj (hz.fr hf1 rfl)).fr hf3 rfl⟩, fun z hz2 => ?_⟩⟩
        have := (hzl.fr hf3 rfl).fun hz2
        omega
def mb_P (ad : List Nat) (tys : ai_ty) (k v : Nat) (ws ws' : va_W) (z' : Int32) : Prop := ai_wd tb_TY ad tys ws' ∧ (v = 0 → ai_fr [] ws ws' ∧ z'.toInt = -2) ∧ (v = 1 → ai_fr [(50, 0, 27)] ws ws' ∧ csV (27 + 27 * k) 0 ws ws' ∧ ∀ z, vi ws' 50 17 z → z'.toInt = z)
theorem mb_all {a k v : Nat} {z : Int32} {ws : va_W} (hk : k < 2) (hv : v < 2) (hz : z.toInt = k) (C : ai_cx tb_m163 10 p R s m args c D tys A b L sx cells slots) (hw : ai_wd tb_TY ad tys ws) (ha : ad[49]? = some a) (h56 : vi ws 56 k v)
    (kk : ∀ (pcr : Nat) (ws' : va_W) (z' : Int32) (lv' : List (Nat × Value)), pcr ∈ [11, 23, 42] → mb_P ad tys k v ws ws' z' → hG tb_m163 p l e R s m args below meth c D A cells slots Q pcr lv' [.int z'] ws') : hG tb_m163 p l e R s m args below meth c D A cells slots Q 0 [(0, .ref a), (1, .int z)] [] ws := by
  obtain rfl | rfl : v = 0 ∨ v = 1 := by omega
  · refine hsum (st := (0, kb_lo 49 k, [], kb_e, [(56, k, (1, 0, 0, 0))], [])) (kb_at (v := 0) mb_0 hk (by decide)) rfl C ⟨kb_ok, sb0, kb_l2 ha hz, trivial, hw, kc (h56.kn (n := 0) (t := 0) rfl (by omega)) k0, fun _ _ _ _ h => h, fun h => by cases h⟩ (fun x hx r' lv' sk' ws1 hx' hb hl hs hlo hsk hw1 hv' hf1 _ => ?_)
    have hx4 := List.mem_singleton.mp hx
    subst hx4
    obtain ⟨zz, rfl, hzz⟩ := sk1 rfl hsk
    unfold vn at hzz
    rw [nm_x hx' (k := 0) rfl] at hzz
    dsimp only at hzz
    exact kk 23 ws1 zz lv' (by decide) ⟨hw1, fun _ => ⟨hf1, by omega⟩, fun h => absurd h (by decide)⟩
  · refine hsum (st := (0, kb_lo 49 k, [], kb_e, [(56, k, (1, 0, 0, 1))], [])) (kb_at (v := 0) mb_1 hk (by decide)) rfl C ⟨kb_ok, sb0, kb_l2 ha hz, trivial, hw, kc (h56.kn (n := 0) (t := 0) rfl (by omega)) k0, fun _ _ _ _ h => h, fun h => by cases h⟩ (fun x hx r' lv' sk' ws1 hx' hb hl hs hlo hsk hw1 hv' hf1 _ => ?_)
    rw [List.mem_singleton.mp hx] at hlo hsk ⊢
    obtain ⟨lv1, rfl, pz1⟩ := lo_ref ha hlo
    obtain ⟨y1, lv2, rfl, d1, pz2⟩ := lo_int rfl pz1
    cases lo_nil pz2
    unfold vn at d1
    rw [nm_x hx' (k := 0) rfl] at d1
    dsimp only at d1
    obtain ⟨x1, s1, rfl, e1, g4⟩ := hsk.cons
    obtain ⟨x2, s2, rfl, e2, g5⟩ := g4.cons
    obtain ⟨x3, s3, rfl, e3, g6⟩ := g5.cons
    cases g6.nil
    obtain ⟨zto, rfl, hzto⟩ := dvn e1 (hx'.at (k := 0) rfl)
    obtain ⟨zfr, rfl, hzfr⟩ := dvn e2 (hx'.at (k := 0) rfl)
    have f3 := ref_of ha e3
    subst f3
    refine hcallV (q := (174, 0, 134, 2, 6)) (M' := tb_m134) (cl := 49) (a := a) (As := [.int zfr, .int zto]) (rest := []) (rets := [30]) (P := cs_P ad tys (27 + 27 * k) 0 ws1) C (by decide) (tv_m163.1.1.1 (32, .invokevirtual 174, 3) (List.mem_of_getElem? (i := 22) rfl)) (tv_m163.2 _ (List.mem_of_getElem? (i := 21) rfl)) rfl rfl rfl rfl (by decide) (Nat.le_of_ble_eq_true rfl) rfl rfl rfl rfl hw1 ha (by decide) ?_ ?_ ?_
    · intro pcr hp
      rw [List.mem_singleton.mp hp]
      exact tv_m134.1.1.1 (30, .return_, 1) (List.mem_of_getElem? (i := 19) rfl)
    · intro p2 e2 R2 s2 m2 args2 below2 meth2 c2 Q2 C2 kk2
      exact cs_all (kb_cs hk).2.1 (kb_cs hk).2.2.2 (by omega) (mm_cx (by decide) C2) hw1 ha (by omega) (by omega) (fun pcr w lv2 hp hP => kk2 pcr w lv2 hp hP)
    · intro ws2 hcs
      obtain ⟨K, hK⟩ := vi_rowsP (k := 50) hcs.1 rfl
      have bl : -2147483648 ≤ K 17 ∧ K 17 ≤ 2147483647 := (hK 17 (by decide)).2 _ rfl
      refine hsum (st := (35, kb_lo 49 k, [], kb_e ++ [(-2147483648, 2147483647, false, 2, 0)], [(50, 17, (1, 2, 0, 0))], [])) (kb_at (v := 0) mb_2 hk (by decide)) rfl C (r := [0, 0, K 17]) (lv := [(0, .ref a), (1, .int y1)]) ⟨en_mk (by simp only [kb_e, List.cons_append, List.nil_append, en_b, and_true]; omega) rfl, sb0, ⟨rfl, Or.inl ⟨rfl, a, ha, rfl⟩, rfl, int_dv (z := 0) rfl (by omega), trivial⟩, trivial, hcs.1, kc ((hK 17 (by decide)).1.kn (n := 2) (t := K 17) rfl (by omega)) k0, fun _ _ _ _ h => h, fun h => by cases h⟩ (fun x hx r2 lv4 sk4 ws3 hx2 hb2 hl2 hs2 hlo2 hsk2 hw3 hv3 hf3 _ => ?_)
      have hx4 := List.mem_singleton.mp hx
      subst hx4
      obtain ⟨zz, rfl, hzz⟩ := sk1 rfl hsk2
      unfold vn at hzz
      rw [nm_x hx2 (k := 2) rfl] at hzz
      dsimp only at hzz
      refine kk 42 ws3 zz lv4 (by decide) ⟨hw3, fun h => absurd h (by decide), fun _ => ⟨((wsub_ok (V := []) rfl hf1).tr hcs.2.1).tr (wsub_ok (V := []) rfl hf3), fun j z hj hz => (hcs.2.2 j z hj (hz.fr hf1 rfl)).fr hf3 rfl, fun z hz2 => ?_⟩⟩
      have := ((hK 17 (by decide)).1.fr hf3 rfl).fun hz2
      omega
end KBL
end
section
/-! keep, back, in the law -/
section KBW
variable {ad : List Nat} {p : Program} {l : Launch} {e : Env} {R : Room} {s : State} {m : MethodId} {args : Array Value} {below : List Frame} {meth : Method} {c : Code} {D : va_G} {tys : ai_ty} {A : Nat → Prop} {b L : Nat} {sx : Nat → Int32} {cells slots : Nat} {Q : State → Prop}
theorem vi_bl {ws : va_W} {k i : Nat} {z : Int} (hw : ai_wd tb_TY ad tys ws) (h : vi ws k i z) (hT : tb_TY[k]? = some (2, 2, [(1, 0, 0, 1)])) (hi : i < 2) : 0 ≤ z ∧ z ≤ 1 := by
  obtain ⟨a, e, h1, h2, h3⟩ := hw.get hT
  obtain ⟨j, j1, j2⟩ := h
  rcases h3 with ⟨z, -⟩ | ⟨-, cA, f, rfl, -, h5⟩ | ⟨z, -⟩ | ⟨z, -⟩
  · exact absurd (id z : (2 : Nat) = 0) (by decide)
  · obtain ⟨b1, b2⟩ := h5 i (1, 0, 0, 1) hi (by unfold ai_pt; show [((1 : Nat), (0 : Nat), (0 : Int), (1 : Int))][i % 1]? = _; rw [Nat.mod_one]; rfl)
    have := j1.fun ⟨a, _, h1, Or.inr (Or.inl ⟨cA, 2, f, rfl, hi, rfl⟩)⟩
    cases this
    have b1 : 0 ≤ (f i).toInt := b1
    have b2 : (f i).toInt ≤ 1 := b2
    omega
  · exact absurd (id z : (2 : Nat) = 3) (by decide)
  · exact absurd (id z : (2 : Nat) = 4) (by decide)
theorem csV_at {pg j : Nat} {wa wb : va_W} {z : Int} (h : csV 0 pg wa wb) (hj : j < 27) (hv : vi wa 50 j z) : vi wb 50 (j + pg) z := by
  have := h j z hj (by rw [Nat.zero_add]; exact hv)
  rw [Nat.add_comm]
  exact this
theorem csV_to {pg j : Nat} {wa wb : va_W} {z : Int} (h : csV pg 0 wa wb) (hj : j < 27) (hv : vi wa 50 (j + pg) z) : vi wb 50 j z := by
  have := h j z hj (by rw [Nat.add_comm]; exact hv)
  rw [Nat.zero_add] at this
  exact this
theorem cev_V {src dst n : Nat} {ws ws' : va_W} {E : Nat → Int} (hn : n ≤ 4) (h : bcV src dst ws ws') (hc : cev ws src n E) : cev ws' dst n E := by
  obtain ⟨h1, h2, -⟩ := h
  refine ⟨fun i hi => ?_, h1 1 _ (by decide) hc.2.1, h1 2 _ (by decide) hc.2.2⟩
  obtain ⟨a1, a2, a3, a4⟩ := hc.1 i hi
  exact ⟨h2 0 i _ (by decide) (by omega) a1, h2 1 i _ (by decide) (by omega) a2, h2 2 i _ (by decide) (by omega) a3, h2 3 i _ (by decide) (by omega) a4⟩
/-- what is kept -/
theorem keep_im {k n a : Nat} {E P : Nat → Int} {ws wa wb wc : va_W} (hk : k < 2) (hn : n ≤ 4) (hp : pgI ws 1 0 n E a P) (hn1 : vi ws 1 0 n) (hV : bcV 1 (13 + 6 * k) ws wa) (fa : ai_fr (bc_W (13 + 6 * k) ++ [(25, k, k + 1)]) ws wa) (hM : csV 0 (27 + 27 * k) wa wb) (fb : ai_fr [(50, 27 + 27 * k, 54 + 27 * k), (56, k, k + 1)] wa wb) (hf : ai_fr [] wb wc) : vi wc (13 + 6 * k) 0 n ∧ pgI wc (13 + 6 * k) (27 + 27 * k) n E a P := by
  obtain ⟨⟨hc, he, hg⟩, ⟨p3, p26, p8⟩, hpl⟩ := hp
  have n50 : ∀ {i : Nat}, ai_wr (bc_W (13 + 6 * k) ++ [(25, k, k + 1)]) 50 i i = false := fun {i} => wr_no fun q hq => by
    unfold bc_W at hq
    simp only [List.cons_append, List.nil_append, List.mem_cons, List.not_mem_nil, or_false] at hq
    rcases hq with rfl | rfl | rfl | rfl | rfl | rfl | rfl <;> dsimp only <;> omega
  have nb : ∀ {cc i : Nat}, cc ≠ 50 → cc ≠ 56 → ai_wr [(50, 27 + 27 * k, 54 + 27 * k), (56, k, k + 1)] cc i i = false := fun {cc i} h1 h2 => wr_no fun q hq => by
    simp only [List.mem_cons, List.not_mem_nil, or_false] at hq
    rcases hq with rfl | rfl <;> dsimp only <;> omega
  have up : ∀ {j : Nat} {z : Int}, j < 27 → vi ws 50 j z → vi wc 50 (j + (27 + 27 * k)) z := fun {j z} hj hz => (csV_at hM hj (hz.fr fa n50)).fr hf rfl
  have cu : ∀ {cc i : Nat} {z : Int}, cc ≠ 50 → cc ≠ 56 → vi wa cc i z → vi wc cc i z := fun {cc i z} h1 h2 hz => (hz.fr fb (nb h1 h2)).fr hf rfl
  have hca := cev_V hn hV hc
  refine ⟨cu (by omega) (by omega) (hV.1 0 _ (by decide) hn1), ⟨⟨fun i hi => ?_, cu (by omega) (by omega) hca.2.1, cu (by omega) (by omega) hca.2.2⟩, ⟨fun i hi => ?_, up (by decide) he.2.1, up (by decide) he.2.2⟩, hg⟩, ⟨cu (by omega) (by omega) (hV.1 3 _ (by decide) p3), up (by decide) p26, p8⟩, fun j hj => ?_⟩
  · obtain ⟨x1, x2, x3, x4⟩ := hca.1 i hi
    exact ⟨cu (by omega) (by omega) x1, cu (by omega) (by omega) x2, cu (by omega) (by omega) x3, cu (by omega) (by omega) x4⟩
  · obtain ⟨x1, x2, x3, x4⟩ := he.1 i hi
    exact ⟨up (by omega) x1, up (j := 4 + i) (by omega) x2, up (j := 8 + i) (by omega) x3, up (j := 12 + i) (by omega) x4⟩
  · obtain ⟨x1, x2, x3⟩ := hpl j hj
    exact ⟨cu (by omega) (by omega) (hV.2.2 j _ (by omega) x1), up (j := 18 + j) (by omega) x2, x3⟩
/-- .. and comes back -/
theorem back_im {k n a : Nat} {E P : Nat → Int} {ws wa wb wc : va_W} (hk : k < 2) (hn : n ≤ 4) (hp : pgI ws (13 + 6 * k) (27 + 27 * k) n E a P) (hn1 : vi ws (13 + 6 * k) 0 n) (hV : bcV (13 + 6 * k) 1 ws wa) (fa : ai_fr (bc_W 1) ws wa) (hM : csV (27 + 27 * k) 0 wa wb) (fb : ai_fr [(50, 0, 27)] wa wb) (hf : ai_fr [] wb wc) : vi wc 1 0 n ∧ pgI wc 1 0 n E a P := by
  obtain ⟨⟨hc, he, hg⟩, ⟨p3, p26, p8⟩, hpl⟩ := hp
  have up : ∀ {j : Nat} {z : Int}, j < 27 → vi ws 50 (j + (27 + 27 * k)) z → vi wc 50 j z := fun {j z} hj hz => (csV_to hM hj (hz.fr fa rfl)).fr hf rfl
  have cu : ∀ {cc i : Nat} {z : Int}, cc ≠ 50 → vi wa cc i z → vi wc cc i z := fun {cc i z} h1 hz => (hz.fr fb (wr_no fun q hq => by
    rw [List.mem_singleton.mp hq]
    dsimp only
    omega)).fr hf rfl
  have hca := cev_V hn hV hc
  refine ⟨cu (by omega) (hV.1 0 _ (by decide) hn1), ⟨⟨fun i hi => ?_, cu (by omega) hca.2.1, cu (by omega) hca.2.2⟩, ⟨fun i hi => ?_, up (by decide) he.2.1, up (by decide) he.2.2⟩, hg⟩, ⟨cu (by omega) (hV.1 3 _ (by decide) p3), up (by decide) p26, p8⟩, fun j hj => ?_⟩
  · obtain ⟨x1, x2, x3, x4⟩ := hca.1 i hi
    exact ⟨cu (by omega) x1, cu (by omega) x2, cu (by omega) x3, cu (by omega) x4⟩
  · obtain ⟨x1, x2, x3, x4⟩ := he.1 i hi
    exact ⟨up (by omega) x1, up (j := 4 + i) (by omega) x2, up (j := 8 + i) (by omega) x3, up (j := 12 + i) (by omega) x4⟩
  · obtain ⟨x1, x2, x3⟩ := hpl j hj
    exact ⟨cu (by omega) (hV.2.2 j _ (by omega) x1), up (j := 18 + j) (by omega) x2, x3⟩
set_option maxRecDepth 20000 in
set_option maxHeartbeats 1000000 in
theorem lw_keep {i q0 q49 : Nat} {ws : va_W} (C : ai_cx tb_m169 11 p R s m args c D tys A b L sx cells slots) (e0 : ad[0]? = some q0) (e49 : ad[49]? = some q49) (hi : i + 5 ≤ L) (hL : L ≤ 2560) (hw : ai_wd tb_TY ad tys ws) (hI : Inv ws)
    (k : ∀ wc, ai_wd tb_TY ad tys wc → Inv wc → hG tb_m169 p l e R s m args below meth c D A cells slots Q 1298 [(0, .ref b), (1, .ref q0), (2, .ref q49), (3, .int (nI i))] [] wc) : hG tb_m169 p l e R s m args below meth c D A cells slots Q 1077 [(0, .ref b), (1, .ref q0), (2, .ref q49), (3, .int (nI i))] [] ws := by
  have r1 : ∀ pcr ∈ [10, 46], decode tb_m86.2.1 pcr = .ok (.ireturn, 1) := by
    intro pcr hpc
    simp only [List.mem_cons, List.not_mem_nil, or_false] at hpc
    rcases hpc with rfl | rfl
    · exact tv_m86.1.1.1 (10, .ireturn, 1) (List.mem_of_getElem? (i := 6) rfl)
    · exact tv_m86.1.1.1 (46, .ireturn, 1) (List.mem_of_getElem? (i := 28) rfl)
  have r2 : ∀ pcr ∈ [11, 46], decode tb_m162.2.1 pcr = .ok (.ireturn, 1) := by
    intro pcr hpc
    simp only [List.mem_cons, List.not_mem_nil, or_false] at hpc
    rcases hpc with rfl | rfl
    · exact tv_m162.1.1.1 (11, .ireturn, 1) (List.mem_of_getElem? (i := 7) rfl)
    · exact tv_m162.1.1.1 (46, .ireturn, 1) (List.mem_of_getElem? (i := 31) rfl)
  by_cases hin : ¬ (0 ≤ (sx (i + 1)).toInt ∧ (sx (i + 1)).toInt ≤ 1)
  · refine law2 (P1 := fun w z => ai_wd tb_TY ad tys w ∧ ai_fr [] ws w ∧ z.toInt = -1) (P2 := fun wa _ w z => ai_wd tb_TY ad tys w ∧ ai_fr [] wa w ∧ z.toInt = -1) (rets1 := [10, 46]) (rets2 := [11, 46]) C e0 e49 hi hL hw (n := 1) (cmp := false) (by decide) lr_keepA lr_keepB lr_keepC (q1 := (139, 0, 86, 1, 5)) (tv_m169.1.1.1 (1083, .invokevirtual 139, 3) (List.mem_of_getElem? (i := 729) rfl)) (tv_m169.2 _ (List.mem_of_getElem? (i := 60) rfl)) rfl rfl rfl rfl (by decide) (Nat.le_of_ble_eq_true rfl) rfl rfl (q2 := (142, 0, 162, 1, 6)) (tv_m169.1.1.1 (1093, .invokevirtual 142, 3) (List.mem_of_getElem? (i := 737) rfl)) (tv_m169.2 _ (List.mem_of_getElem? (i := 61) rfl)) rfl rfl rfl rfl (by decide) (Nat.le_of_ble_eq_true rfl) rfl rfl r1 r2 ?_ (fun wa z1 h => h.1) ?_ (fun wa z1 wb z2 h1 h2 => ⟨h2.1, fun _ => Int32.toInt_inj.mp (by rw [h1.2.2, h2.2.2])⟩) (fun wa z1 wb z2 wc h1 h2 hwc hf => k wc hwc (hI.fr0 hwc ((h1.2.1.tr h2.2.1).tr hf)))
    · intro p e R s m args below meth c Q w hw' hf C2 kk
      exact kb_bad rfl rfl C2 hw' e0 ck_n hin (fun w' z lv h1 h2 h3 => kk 10 w' z lv (by decide) ⟨h1, hf.tr h2, h3⟩)
    · intro p e R s m args below meth c Q wa z1 w hP1 hw' hf C2 kk
      exact kb_bad rfl rfl C2 hw' e49 mk_n hin (fun w' z lv h1 h2 h3 => kk 11 w' z lv (by decide) ⟨h1, hf.tr h2, h3⟩)
  obtain ⟨kn, hkn⟩ : ∃ kn : Nat, (sx (i + 1)).toInt = (kn : Int) := ⟨(sx (i + 1)).toInt.toNat, by omega⟩
  have hk2 : kn < 2 := by omega
  have hI' := hI
  obtain ⟨t, g, u, q, y, n, j0, j1, E, a, P, hb, hp, hi0, hi1, hs⟩ := hI'
  obtain ⟨hn1, hn2, hn4⟩ := hb.2.2.2.2.1
  obtain ⟨⟨f1, f2⟩, f3, f4⟩ := hb.2.2.2.2.2
  have bj0 := vi_bl hw f1 rfl (by decide)
  have bj1 := vi_bl hw f3 rfl (by decide)
  obtain ⟨v, hv2, h25, h56⟩ : ∃ v : Nat, v < 2 ∧ vi ws 25 kn v ∧ vi ws 56 kn v := by
    obtain rfl | rfl : kn = 0 ∨ kn = 1 := by omega
    · exact ⟨j0.toNat, by omega, f1.eq (by omega), f2.eq (by omega)⟩
    · exact ⟨j1.toNat, by omega, f3.eq (by omega), f4.eq (by omega)⟩
  obtain ⟨F, hF⟩ := kb_T hk2
  obtain ⟨a1, -, -, e1, -⟩ := hw.get (c := 1) rfl
  obtain ⟨aI, -, -, eI, -⟩ := hw.get hF
  refine law2 (P1 := fun w z => ck_P ad tys kn v ws w z) (P2 := fun wa _ w z => mk_P ad tys kn v wa w z) (rets1 := [10, 46]) (rets2 := [11, 46]) C e0 e49 hi hL hw (n := 1) (cmp := false) (by decide) lr_keepA lr_keepB lr_keepC (q1 := (139, 0, 86, 1, 5)) (tv_m169.1.1.1 (1083, .invokevirtual 139, 3) (List.mem_of_getElem? (i := 729) rfl)) (tv_m169.2 _ (List.mem_of_getElem? (i := 60) rfl)) rfl rfl rfl rfl (by decide) (Nat.le_of_ble_eq_true rfl) rfl rfl (q2 := (142, 0, 162, 1, 6)) (tv_m169.1.1.1 (1093, .invokevirtual 142, 3) (List.mem_of_getElem? (i := 737) rfl)) (tv_m169.2 _ (List.mem_of_getElem? (i := 61) rfl)) rfl rfl rfl rfl (by decide) (Nat.le_of_ble_eq_true rfl) rfl rfl r1 r2 ?_ (fun wa z1 h => h.1) ?_ (fun wa z1 wb z2 h1 h2 => ⟨h2.1, fun _ => Int32.toInt_inj.mp (by rw [h1.2.2.2.2, h2.2.2.2.2])⟩) ?_
  · intro p e R s m args below meth c Q w hw' hf C2 kk
    refine ck_all hk2 hv2 hkn C2 hw' e0 e1 eI (h25.fr hf rfl) (fun pcr w' z lv hpr hP => kk pcr w' z lv hpr ⟨hP.1, (fr_sub (V := []) (fun _ _ _ q hq => by cases hq) hf).tr hP.2.1, hP.2.2.1, ⟨fun j z hj hz => hP.2.2.2.1.1 j z hj (hz.fr hf rfl), fun q j z hq hj hz => hP.2.2.2.1.2.1 q j z hq hj (hz.fr hf rfl), fun j z hj hz => hP.2.2.2.1.2.2 j z hj (hz.fr hf rfl)⟩, hP.2.2.2.2⟩)
  · intro p e R s m args below meth c Q wa z1 w hP1 hw' hf C2 kk
    have h56a : vi wa 56 kn v := h56.fr hP1.2.1 (wr_no fun q hq => by
      unfold bc_W at hq
      simp only [List.cons_append, List.nil_append, List.mem_cons, List.not_mem_nil, or_false] at hq
      rcases hq with rfl | rfl | rfl | rfl | rfl | rfl | rfl <;> dsimp only <;> omega)
    exact mk_all hk2 hv2 hkn C2 hw' e49 (h56a.fr hf rfl) (fun pcr w' z lv hpr hP => kk pcr w' z lv hpr ⟨hP.1, (fr_sub (V := []) (fun _ _ _ q hq => by cases hq) hf).tr hP.2.1, hP.2.2.1, fun j z hj hz => hP.2.2.2.1 j z hj (hz.fr hf rfl), hP.2.2.2.2⟩)
  · intro wa z1 wb z2 wc h1 h2 hwc hf
    refine k wc hwc ?_
    obtain ⟨-, fa, v25, hV, -⟩ := h1
    obtain ⟨-, fb, v56, hM, -⟩ := h2
    obtain ⟨im1, im2⟩ := keep_im hk2 hn4 hp hn1 hV fa hM fb hf
    obtain ⟨⟨⟨b1, b2⟩, b3, b4⟩, ⟨b5, b6⟩, ⟨b7, b8⟩, ⟨b9, b10⟩, -⟩ := hb
    obtain rfl | rfl : kn = 0 ∨ kn = 1 := by omega
    · have fbc : ai_fr [(50, 27, 54), (56, 0, 1)] wa wc := fb.tr (wsub_ok (V := []) rfl hf)
      have fx : ai_fr (bc_W 13 ++ [(25, 0, 1), (50, 27, 54), (56, 0, 1)]) ws wc := (wsub_ok (V := bc_W 13 ++ [(25, 0, 1)]) (by decide) fa).tr (wsub_ok (V := [(50, 27, 54), (56, 0, 1)]) (by decide) fbc)
      exact ⟨t, g, u, q, y, n, 1, j1, E, a, P, ⟨⟨⟨b1.fr fx (by decide), b2.fr fx (by decide)⟩, b3, b4.fr b3 hwc fx (by decide) (by decide)⟩, ⟨b5.fr fx (by decide), b6.fr fx (by decide)⟩, ⟨b7.fr fx (by decide), b8.fr fx (by decide)⟩, ⟨b9.fr fx (by decide), b10.fr fx (by decide)⟩, ⟨hn1.fr fx (by decide), hn2.fr fx (by decide), hn4⟩, ⟨v25.fr fbc (by decide), v56.fr hf rfl⟩, f3.fr fx (by decide), f4.fr fx (by decide)⟩, hp.fr hn4 fx (by decide) (by decide), fun _ => ⟨E, a, P, im1, im2⟩, fun h => (hi1 h).fr hn4 fx (by decide) (by decide), hs.fr fx (by decide) (by decide)⟩
    · have fbc : ai_fr [(50, 54, 81), (56, 1, 2)] wa wc := fb.tr (wsub_ok (V := []) rfl hf)
      have fx : ai_fr (bc_W 19 ++ [(25, 1, 2), (50, 54, 81), (56, 1, 2)]) ws wc := (wsub_ok (V := bc_W 19 ++ [(25, 1, 2)]) (by decide) fa).tr (wsub_ok (V := [(50, 54, 81), (56, 1, 2)]) (by decide) fbc)
      exact ⟨t, g, u, q, y, n, j0, 1, E, a, P, ⟨⟨⟨b1.fr fx (by decide), b2.fr fx (by decide)⟩, b3, b4.fr b3 hwc fx (by decide) (by decide)⟩, ⟨b5.fr fx (by decide), b6.fr fx (by decide)⟩, ⟨b7.fr fx (by decide), b8.fr fx (by decide)⟩, ⟨b9.fr fx (by decide), b10.fr fx (by decide)⟩, ⟨hn1.fr fx (by decide), hn2.fr fx (by decide), hn4⟩, ⟨f1.fr fx (by decide), f2.fr fx (by decide)⟩, v25.fr fbc (by decide), v56.fr hf rfl⟩, hp.fr hn4 fx (by decide) (by decide), fun h => (hi0 h).fr hn4 fx (by decide) (by decide), fun _ => ⟨E, a, P, im1, im2⟩, hs.fr fx (by decide) (by decide)⟩
set_option maxRecDepth 20000 in
set_option maxHeartbeats 1000000 in
theorem lw_back {i q0 q49 : Nat} {ws : va_W} (C : ai_cx tb_m169 11 p R s m args c D tys A b L sx cells slots) (e0 : ad[0]? = some q0) (e49 : ad[49]? = some q49) (hi : i + 5 ≤ L) (hL : L ≤ 2560) (hw : ai_wd tb_TY ad tys ws) (hI : Inv ws)
    (k : ∀ wc, ai_wd tb_TY ad tys wc → Inv wc → hG tb_m169 p l e R s m args below meth c D A cells slots Q 1298 [(0, .ref b), (1, .ref q0), (2, .ref q49), (3, .int (nI i))] [] wc) : hG tb_m169 p l e R s m args below meth c D A cells slots Q 1100 [(0, .ref b), (1, .ref q0), (2, .ref q49), (3, .int (nI i))] [] ws := by
  have r1 : ∀ pcr ∈ [10, 22, 42], decode tb_m87.2.1 pcr = .ok (.ireturn, 1) := by
    intro pcr hpc
    simp only [List.mem_cons, List.not_mem_nil, or_false] at hpc
    rcases hpc with rfl | rfl | rfl
    · exact tv_m87.1.1.1 (10, .ireturn, 1) (List.mem_of_getElem? (i := 6) rfl)
    · exact tv_m87.1.1.1 (22, .ireturn, 1) (List.mem_of_getElem? (i := 13) rfl)
    · exact tv_m87.1.1.1 (42, .ireturn, 1) (List.mem_of_getElem? (i := 23) rfl)
  have r2 : ∀ pcr ∈ [11, 23, 42], decode tb_m163.2.1 pcr = .ok (.ireturn, 1) := by
    intro pcr hpc
    simp only [List.mem_cons, List.not_mem_nil, or_false] at hpc
    rcases hpc with rfl | rfl | rfl
    · exact tv_m163.1.1.1 (11, .ireturn, 1) (List.mem_of_getElem? (i := 7) rfl)
    · exact tv_m163.1.1.1 (23, .ireturn, 1) (List.mem_of_getElem? (i := 14) rfl)
    · exact tv_m163.1.1.1 (42, .ireturn, 1) (List.mem_of_getElem? (i := 27) rfl)
  by_cases hin : ¬ (0 ≤ (sx (i + 1)).toInt ∧ (sx (i + 1)).toInt ≤ 1)
  · refine law2 (P1 := fun w z => ai_wd tb_TY ad tys w ∧ ai_fr [] ws w ∧ z.toInt = -1) (P2 := fun wa _ w z => ai_wd tb_TY ad tys w ∧ ai_fr [] wa w ∧ z.toInt = -1) (rets1 := [10, 22, 42]) (rets2 := [11, 23, 42]) C e0 e49 hi hL hw (n := 1) (cmp := false) (by decide) lr_backA lr_backB lr_backC (q1 := (143, 0, 87, 1, 5)) (tv_m169.1.1.1 (1106, .invokevirtual 143, 3) (List.mem_of_getElem? (i := 746) rfl)) (tv_m169.2 _ (List.mem_of_getElem? (i := 62) rfl)) rfl rfl rfl rfl (by decide) (Nat.le_of_ble_eq_true rfl) rfl rfl (q2 := (146, 0, 163, 1, 6)) (tv_m169.1.1.1 (1116, .invokevirtual 146, 3) (List.mem_of_getElem? (i := 754) rfl)) (tv_m169.2 _ (List.mem_of_getElem? (i := 63) rfl)) rfl rfl rfl rfl (by decide) (Nat.le_of_ble_eq_true rfl) rfl rfl r1 r2 ?_ (fun wa z1 h => h.1) ?_ (fun wa z1 wb z2 h1 h2 => ⟨h2.1, fun _ => Int32.toInt_inj.mp (by rw [h1.2.2, h2.2.2])⟩) (fun wa z1 wb z2 wc h1 h2 hwc hf => k wc hwc (hI.fr0 hwc ((h1.2.1.tr h2.2.1).tr hf)))
    · intro p e R s m args below meth c Q w hw' hf C2 kk
      exact kb_bad rfl rfl C2 hw' e0 cb_n hin (fun w' z lv h1 h2 h3 => kk 10 w' z lv (by decide) ⟨h1, hf.tr h2, h3⟩)
    · intro p e R s m args below meth c Q wa z1 w hP1 hw' hf C2 kk
      exact kb_bad rfl rfl C2 hw' e49 mb_n hin (fun w' z lv h1 h2 h3 => kk 11 w' z lv (by decide) ⟨h1, hf.tr h2, h3⟩)
  obtain ⟨kn, hkn⟩ : ∃ kn : Nat, (sx (i + 1)).toInt = (kn : Int) := ⟨(sx (i + 1)).toInt.toNat, by omega⟩
  have hk2 : kn < 2 := by omega
  have hI' := hI
  obtain ⟨t, g, u, q, y, n, j0, j1, E, a, P, hb, hp, hi0, hi1, hs⟩ := hI'
  obtain ⟨hn1, hn2, hn4⟩ := hb.2.2.2.2.1
  obtain ⟨⟨f1, f2⟩, f3, f4⟩ := hb.2.2.2.2.2
  have bj0 := vi_bl hw f1 rfl (by decide)
  have bj1 := vi_bl hw f3 rfl (by decide)
  obtain ⟨v, hv2, h25, h56⟩ : ∃ v : Nat, v < 2 ∧ vi ws 25 kn v ∧ vi ws 56 kn v := by
    obtain rfl | rfl : kn = 0 ∨ kn = 1 := by omega
    · exact ⟨j0.toNat, by omega, f1.eq (by omega), f2.eq (by omega)⟩
    · exact ⟨j1.toNat, by omega, f3.eq (by omega), f4.eq (by omega)⟩
  obtain ⟨F, hF⟩ := kb_T hk2
  obtain ⟨a1, -, -, e1, -⟩ := hw.get (c := 1) rfl
  obtain ⟨aI, -, -, eI, -⟩ := hw.get hF
  refine law2 (P1 := fun w z => cb_P ad tys kn v ws w z) (P2 := fun wa _ w z => mb_P ad tys kn v wa w z) (rets1 := [10, 22, 42]) (rets2 := [11, 23, 42]) C e0 e49 hi hL hw (n := 1) (cmp := false) (by decide) lr_backA lr_backB lr_backC (q1 := (143, 0, 87, 1, 5)) (tv_m169.1.1.1 (1106, .invokevirtual 143, 3) (List.mem_of_getElem? (i := 746) rfl)) (tv_m169.2 _ (List.mem_of_getElem? (i := 62) rfl)) rfl rfl rfl rfl (by decide) (Nat.le_of_ble_eq_true rfl) rfl rfl (q2 := (146, 0, 163, 1, 6)) (tv_m169.1.1.1 (1116, .invokevirtual 146, 3) (List.mem_of_getElem? (i := 754) rfl)) (tv_m169.2 _ (List.mem_of_getElem? (i := 63) rfl)) rfl rfl rfl rfl (by decide) (Nat.le_of_ble_eq_true rfl) rfl rfl r1 r2 ?_ (fun wa z1 h => h.1) ?_ ?_ ?_
  · intro p e R s m args below meth c Q w hw' hf C2 kk
    refine cb_all hk2 hv2 hkn C2 hw' e0 e1 eI (h25.fr hf rfl) (fun pcr w' z lv hpr hP => kk pcr w' z lv hpr ⟨hP.1, fun h => ⟨hf.tr (hP.2.1 h).1, (hP.2.1 h).2⟩, fun h => ⟨(wsub_ok (V := []) rfl hf).tr (hP.2.2 h).1, ⟨fun j z hj hz => (hP.2.2 h).2.1.1 j z hj (hz.fr hf rfl), fun q j z hq hj hz => (hP.2.2 h).2.1.2.1 q j z hq hj (hz.fr hf rfl), fun j z hj hz => (hP.2.2 h).2.1.2.2 j z hj (hz.fr hf rfl)⟩, (hP.2.2 h).2.2⟩⟩)
  · intro p e R s m args below meth c Q wa z1 w hP1 hw' hf C2 kk
    have h56a : vi wa 56 kn v := by
      obtain rfl | rfl : v = 0 ∨ v = 1 := by omega
      · exact h56.fr (hP1.2.1 rfl).1 rfl
      · exact h56.fr (hP1.2.2 rfl).1 rfl
    exact mb_all hk2 hv2 hkn C2 hw' e49 (h56a.fr hf rfl) (fun pcr w' z lv hpr hP => kk pcr w' z lv hpr ⟨hP.1, fun h => ⟨hf.tr (hP.2.1 h).1, (hP.2.1 h).2⟩, fun h => ⟨(wsub_ok (V := []) rfl hf).tr (hP.2.2 h).1, fun j z hj hz => (hP.2.2 h).2.1 j z hj (hz.fr hf rfl), (hP.2.2 h).2.2⟩⟩)
  · intro wa z1 wb z2 h1 h2
    refine ⟨h2.1, fun _ => Int32.toInt_inj.mp ?_⟩
    obtain rfl | rfl : v = 0 ∨ v = 1 := by omega
    · rw [(h1.2.1 rfl).2, (h2.2.1 rfl).2]
    · obtain ⟨fa, hV, hz1⟩ := h1.2.2 rfl
      obtain ⟨fb, hM, hz2⟩ := h2.2.2 rfl
      obtain ⟨E', a', P', x0, hpI⟩ : imI ws kn n := by
        obtain rfl | rfl : kn = 0 ∨ kn = 1 := by omega
        · exact hi0 (f1.fun h25)
        · exact hi1 (f3.fun h25)
      obtain ⟨⟨hc, he, hg⟩, -⟩ := hpI
      rw [hz1 _ (hV.1 2 _ (by decide) hc.2.2), hz2 _ (csV_to hM (by decide) (he.2.2.fr fa rfl))]
  · intro wa z1 wb z2 wc h1 h2 hwc hf
    refine k wc hwc ?_
    obtain rfl | rfl : v = 0 ∨ v = 1 := by omega
    · exact hI.fr0 hwc (((h1.2.1 rfl).1.tr (h2.2.1 rfl).1).tr hf)
    · obtain ⟨fa, hV, -⟩ := h1.2.2 rfl
      obtain ⟨fb, hM, -⟩ := h2.2.2 rfl
      obtain ⟨E', a', P', x0, hpI⟩ : imI ws kn n := by
        obtain rfl | rfl : kn = 0 ∨ kn = 1 := by omega
        · exact hi0 (f1.fun h25)
        · exact hi1 (f3.fun h25)
      obtain ⟨im1, im2⟩ := back_im hk2 hn4 hpI x0 hV fa hM fb hf
      have fx : ai_fr (bc_W 1 ++ [(50, 0, 27)]) ws wc := ((wsub_ok (V := bc_W 1) (by decide) fa).tr (wsub_ok (V := [(50, 0, 27)]) (by decide) fb)).tr (wsub_ok (V := []) rfl hf)
      exact Inv.gen (y' := y) hb hi0 hi1 hs hwc fx (by decide) ⟨hb.2.2.2.1.1.fr fx (by decide), hb.2.2.2.1.2.fr fx (by decide)⟩ im1 im2
end KBW
end
section
/-! an int stored by hand, a local loaded by hand; renew of the class -/
section HST
variable {ad : List Nat} {M : ai_m} {d : Nat} {p : Program} {l : Launch} {e : Env} {R : Room} {s : State} {m : MethodId} {args : Array Value} {below : List Frame} {meth : Method} {c : Code} {D : va_G} {tys : ai_ty} {A : Nat → Prop} {b L : Nat} {sx : Nat → Int32} {cells slots : Nat} {Q : State → Prop}
theorem hast {pc c0 n a : Nat} {ws : va_W} {v i : Int32} {rest : List Value} {lv : List (Nat × Value)} (C : ai_cx M d p R s m args c D tys A b L sx cells slots) (hd : decode M.2.1 pc = .ok (.iastore, 1)) (hT : tb_TY[c0]? = some (1, n, [(1, 0, -2147483648, 2147483647)])) (hw : ai_wd tb_TY ad tys ws) (ha : ad[c0]? = some a) (h0 : 0 ≤ i.toInt) (hn : i.toInt < n)
    (k : ∀ ws', ai_wd tb_TY ad tys ws' → ai_fr [(c0, i.toInt.toNat, i.toInt.toNat + 1)] ws ws' → vi ws' c0 i.toInt.toNat v.toInt → hG M p l e R s m args below meth c D A cells slots Q (pc + 1) lv rest ws') : hG M p l e R s m args below meth c D A cells slots Q pc lv (.int v :: .int i :: .ref a :: rest) ws := by
  intro H locs ls hP hD hS hl
  obtain ⟨a', e', w1, w2, w3⟩ := hw.get hT
  cases Option.some.inj (ha.symm.trans w2)
  rcases w3 with ⟨z, -⟩ | ⟨-, cA, f, rfl, ⟨t0, ht0⟩, h5⟩ | ⟨z, -⟩ | ⟨z, -⟩
  · exact absurd (id z : (1 : Nat) = 0) (by decide)
  · have hin : vp_in i n := vp_in_iff.mpr ⟨h0, hn⟩
    have ei : i.toNatClampNeg = i.toInt.toNat := by
      have e : (i.toNatClampNeg : Int) = i.toInt := by
        rw [Int32.toNatClampNeg]
        omega
      omega
    have hw' : ai_wd tb_TY ad tys (ws.set c0 (a, .inl (cA, n, .inl (upd f i.toNatClampNeg v)))) := hw.set hT w1 (Or.inr (Or.inl ⟨Or.inl rfl, cA, _, rfl, ⟨t0, ht0⟩, fun j q hj hq => by
      have hq2 : q = (1, 0, -2147483648, 2147483647) := by
        unfold ai_pt at hq
        have hq : [((1 : Nat), (0 : Nat), (-2147483648 : Int), (2147483647 : Int))][j % 1]? = some q := hq
        rw [Nat.mod_one] at hq
        cases hq
        rfl
      rw [hq2]
      exact ai_irg _⟩))
    refine va_iast C.1 C.2.1 C.2.2.2.2.2.2.1 hP hD hS c0 t0 w1 ht0 hin hd (fun H1 locs1 hP1 hD1 hS1 => k _ hw' (fun c' i' x hwr hsl => ai_sl.setA (j := 0) w1 hsl (fun hc hi' => ?_)) ⟨v, ⟨a, _, List.getElem?_set_self (List.getElem?_eq_some_iff.mp w1).1, Or.inr (Or.inl ⟨cA, n, _, rfl, by omega, ?_⟩)⟩, rfl⟩ H1 locs1 ls hP1 hD1 hS1 hl)
    · subst hc
      refine pk_un (fun hh => ?_)
      have : ai_wr [(c', i.toInt.toNat, i.toInt.toNat + 1)] c' i' i' = true := by
        unfold ai_wr
        refine List.any_eq_true.mpr ⟨_, List.mem_singleton.mpr rfl, ?_⟩
        simp only [Bool.and_eq_true, Bool.or_eq_true, decide_eq_true_eq]
        exact ⟨⟨Or.inl trivial, by omega⟩, by omega⟩
      rw [this] at hwr
      cases hwr
    · rw [ei]
      show Value.int v = .int (if i.toInt.toNat = i.toInt.toNat then v else f i.toInt.toNat)
      rw [if_pos rfl]
  · exact absurd (id z : (1 : Nat) = 3) (by decide)
  · exact absurd (id z : (1 : Nat) = 4) (by decide)
theorem hild {pc j : Nat} {x : Int32} {ws : va_W} {sk : List Value} {lv : List (Nat × Value)} (C : ai_cx M d p R s m args c D tys A b L sx cells slots) (hd : decode M.2.1 pc = .ok (.iload j, 2)) (hm : (j, Value.int x) ∈ lv)
    (k : hG M p l e R s m args below meth c D A cells slots Q (pc + 2) lv (.int x :: sk) ws) : hG M p l e R s m args below meth c D A cells slots Q pc lv sk ws := by
  intro H locs ls hP hD hS hl
  obtain ⟨n, hn, hx⟩ := List.getElem_of_mem hm
  exact lv_iload C.1 C.2.1 hd (lv_at hl n (by rw [List.getElem?_eq_getElem hn, hx])) (k H locs ls hP hD hS hl)
end HST
end
section
/-! renew, sheet -/
def sn_e (lo hi : Int) : List ai_e := [(0, 0, false, 0, 0), (0, 2555, false, 1, 0), (0, 40, false, 2, 0), (lo, hi, false, 3, 0)]
def sn_lo (k : Nat) : List (Nat × ai_v) := [(0, (0, 41, 0, 0)), (1, (1, 0, 0, (k : Int))), (3, (1, 2, 0, 0)), (4, (1, 3, 0, 0))]
theorem sn_1 : ((List.range 4).all fun k => (ai_ex (hk [(42, k, k + 1), (43, k, k + 1)]) 60 40 tb_m40 9 [17] (0, [(0, (0, 41, 0, 0)), (1, (1, 0, 0, (k : Int))), (2, (1, 2, 0, 0)), (3, (1, 3, 0, 0))], [], [(0, 0, false, 0, 0), (0, 2555, false, 1, 0), (0, 2, false, 2, 0), (0, 40, false, 3, 0)], [], [])).any fun xs => xs.all fun x => ([(17, [(0, (0, 41, 0, 0)), (1, (1, 0, 0, (k : Int))), (3, (1, 3, 0, 0)), (4, (1, 0, 0, 0))], [], [(1, 2, 0, 0), (1, 3, 0, 0)], [(0, 0, false, 0, 0), (0, 2555, false, 1, 0), (0, 2, false, 2, 0), (0, 40, false, 3, 0)], [])] : List sm_t).any fun t => sm_is [(42, k), (43, k)] x t) = true := by decide +kernel
theorem sn_2 : ((List.range 4).all fun k => (ai_ex (hk []) 60 40 tb_m40 9 [32] (19, sn_lo k, [(1, 3, 0, 0)], sn_e 0 40, [], [])).any fun xs => xs.all fun x => ([(39, [], [], [], sn_e 0 40, [(5, 3, 2, 3, 0)]), (32, sn_lo k, [(1, 0, 0, 0), (1, 3, 0, 0), (0, 45 + k, 0, 0)], [], [(0, 0, false, 0, 0), (0, 2555, false, 1, 0), (1, 40, false, 2, 0), (0, 39, false, 3, 0)], [(4, 3, 2, 3, 0)])] : List sm_t).any fun t => sm_is [] x t) = true := by decide +kernel
theorem sn_3 : ((List.range 4).all fun k => (ai_ex (hk []) 60 40 tb_m40 9 [17] (33, sn_lo k, [], sn_e 0 39, [], [])).any fun xs => xs.all fun x => ([(17, [(0, (0, 41, 0, 0)), (1, (1, 0, 0, (k : Int))), (3, (1, 2, 0, 0)), (4, (1, 3, 0, 1))], [], [], sn_e 0 39, [])] : List sm_t).any fun t => sm_is [] x t) = true := by decide +kernel
def sm4_lo (k : Nat) : List (Nat × ai_v) := [(0, (0, 49, 0, 0)), (1, (1, 0, 0, (k : Int))), (4, (1, 2, 0, 0))]
def sm4_e (lo hi : Int) : List ai_e := [(0, 0, false, 0, 0), (0, 2555, false, 1, 0), (lo, hi, false, 2, 0)]
theorem sm4_1 : ((List.range 4).all fun k => (ai_ex (hk [(57, k, k + 1), (58, k, k + 1)]) 60 164 tb_m164 10 [56] (39, [(0, (0, 49, 0, 0)), (1, (1, 0, 0, (k : Int))), (2, (1, 2, 0, 0)), (3, (1, 3, 0, 0))], [], [(0, 0, false, 0, 0), (0, 2555, false, 1, 0), (0, 2, false, 2, 0), (0, 40, false, 3, 0)], [], [])).any fun xs => xs.all fun x => ([(56, [(0, (0, 49, 0, 0)), (1, (1, 0, 0, (k : Int))), (4, (1, 0, 0, 0))], [], [(1, 2, 0, 0), (1, 3, 0, 0)], [(0, 0, false, 0, 0), (0, 2555, false, 1, 0), (0, 2, false, 2, 0), (0, 40, false, 3, 0)], [])] : List sm_t).any fun t => sm_is [(57, k), (58, k)] x t) = true := by decide +kernel
theorem sm4_2 : ((List.range 4).all fun k => (ai_ex (hk []) 60 164 tb_m164 10 [75] (58, sm4_lo k, [(1, 2, 0, 0)], sm4_e 0 40, [], [])).any fun xs => xs.all fun x => ([(83, [], [(1, 0, 0, 1)], [], sm4_e 40 40, []), (75, sm4_lo k, [(1, 0, 0, 0), (1, 2, 0, 40 * (k : Int)), (0, 59, 0, 0)], [], sm4_e 0 39, [])] : List sm_t).any fun t => sm_is [] x t) = true := by decide +kernel
theorem sm4_3 : ((List.range 4).all fun k => (ai_ex (hk []) 60 164 tb_m164 10 [56] (76, sm4_lo k, [], sm4_e 0 39, [], [])).any fun xs => xs.all fun x => ([(56, [(0, (0, 49, 0, 0)), (1, (1, 0, 0, (k : Int))), (4, (1, 2, 0, 1))], [], [], sm4_e 0 39, [])] : List sm_t).any fun t => sm_is [] x t) = true := by decide +kernel
section SHN
variable {ad : List Nat} {p : Program} {l : Launch} {e : Env} {R : Room} {s : State} {m : MethodId} {args : Array Value} {below : List Frame} {meth : Method} {c : Code} {D : va_G} {tys : ai_ty} {A : Nat → Prop} {b L : Nat} {sx : Nat → Int32} {cells slots : Nat} {Q : State → Prop}
theorem sn_loop {a aR k N : Nat} {zk zn : Int32} {ws0 : va_W} (C : ai_cx tb_m40 9 p R s m args c D tys A b L sx cells slots) (ha : ad[41]? = some a) (haR : ad[45 + k]? = some aR) (hk : k < 4) (hN : N ≤ 40) (ek : zk.toInt = k) (en : zn.toInt = N)
    (kk : ∀ (ws' : va_W) (lv' : List (Nat × Value)), ai_wd tb_TY ad tys ws' → ai_fr [(45 + k, 0, 40)] ws0 ws' → (∀ j, j < N → vi ws' (45 + k) j 0) → hG tb_m40 p l e R s m args below meth c D A cells slots Q 39 lv' [] ws') :
    ∀ (f i : Nat) (zi : Int32) (ws : va_W), i + f = N → zi.toInt = i → ai_wd tb_TY ad tys ws → ai_fr [(45 + k, 0, 40)] ws0 ws → (∀ j, j < i → vi ws (45 + k) j 0) → hG tb_m40 p l e R s m args below meth c D A cells slots Q 17 [(0, .ref a), (1, .int zk), (3, .int zn), (4, .int zi)] [] ws := by
  intro f
  induction f with
  | zero =>
    intro i zi ws hif ezi hw hfr hv
    refine hild (j := 4) (x := zi) C (tv_m40.1.1.1 (17, .iload 4, 2) (List.mem_of_getElem? (i := 12) rfl)) (by simp) ?_
    refine hsum (st := (19, sn_lo k, [(1, 3, 0, 0)], sn_e 0 40, [], [])) (List.all_eq_true.mp sn_2 k (List.mem_range.mpr hk)) rfl C (r := [0, 0, (N : Int), (i : Int)]) ⟨en_mk (by simp only [sn_e, en_b, and_true]; omega) rfl, sb0, ⟨rfl, Or.inl ⟨rfl, a, ha, rfl⟩, rfl, int_dv (z := 0) rfl (by omega), rfl, int_dv (z := (N : Int)) rfl (by omega), rfl, int_dv (z := (i : Int)) rfl (by omega), trivial⟩, ⟨int_dv (z := (i : Int)) rfl (by omega), trivial⟩, hw, k0, fun _ _ _ _ h => h, fun h => by cases h⟩ (fun x hx r' lv' sk' ws' hx' hb hl hs hlo hsk hw' hv' hf _ => ?_)
    rcases List.mem_cons.mp hx with rfl | hx
    · cases hsk.nil
      exact kk ws' lv' hw' (hfr.tr (fr_sub (V := []) (fun _ _ _ q hq => by cases hq) hf)) (fun j hj => (hv j (by omega)).fr hf rfl)
    · have hx2 := List.mem_singleton.mp hx
      subst hx2
      simp (config := { decide := true }) only [bnd_b, lin_b, lin_q, Nat.reduceAdd, Nat.zero_add, Nat.reduceEqDiff, reduceIte, and_true, Int.add_zero] at hb hl
      have h2 := nm_x hx' (k := 2) rfl
      have h3 := nm_x hx' (k := 3) rfl
      exfalso
      omega
  | succ f ih =>
    intro i zi ws hif ezi hw hfr hv
    refine hild (j := 4) (x := zi) C (tv_m40.1.1.1 (17, .iload 4, 2) (List.mem_of_getElem? (i := 12) rfl)) (by simp) ?_
    refine hsum (st := (19, sn_lo k, [(1, 3, 0, 0)], sn_e 0 40, [], [])) (List.all_eq_true.mp sn_2 k (List.mem_range.mpr hk)) rfl C (r := [0, 0, (N : Int), (i : Int)]) ⟨en_mk (by simp only [sn_e, en_b, and_true]; omega) rfl, sb0, ⟨rfl, Or.inl ⟨rfl, a, ha, rfl⟩, rfl, int_dv (z := 0) rfl (by omega), rfl, int_dv (z := (N : Int)) rfl (by omega), rfl, int_dv (z := (i : Int)) rfl (by omega), trivial⟩, ⟨int_dv (z := (i : Int)) rfl (by omega), trivial⟩, hw, k0, fun _ _ _ _ h => h, fun h => by cases h⟩ (fun x hx r' lv' sk' ws' hx' hb hl hs hlo hsk hw' hv' hf _ => ?_)
    have h0 := nm_x hx' (k := 0) rfl
    have h2 := nm_x hx' (k := 2) rfl
    have h3 := nm_x hx' (k := 3) rfl
    rcases List.mem_cons.mp hx with rfl | hx
    · simp (config := { decide := true }) only [bnd_b, lin_b, lin_q, Nat.reduceAdd, Nat.zero_add, Nat.reduceEqDiff, reduceIte, and_true, Int.add_zero] at hb hl
      exfalso
      omega
    · have hx2 := List.mem_singleton.mp hx
      subst hx2
      obtain ⟨lv1, rfl, pz1⟩ := lo_ref ha hlo
      obtain ⟨y1, lv2, rfl, d1, pz2⟩ := lo_int rfl pz1
      obtain ⟨y2, lv3, rfl, d2, pz3⟩ := lo_int rfl pz2
      obtain ⟨y3, lv4, rfl, d3, pz4⟩ := lo_int rfl pz3
      cases lo_nil pz4
      obtain ⟨x1, s1, rfl, e1, g4⟩ := hsk.cons
      obtain ⟨x2, s2, rfl, e2, g5⟩ := g4.cons
      obtain ⟨x3, s3, rfl, e3, g6⟩ := g5.cons
      cases g6.nil
      obtain ⟨zv, rfl, hzv⟩ := int_of rfl e1
      obtain ⟨zx, rfl, hzx⟩ := int_of rfl e2
      have f3 := ref_of haR e3
      subst f3
      unfold vn at d1 d2 d3 hzv hzx
      dsimp only at d1 d2 d3 hzv hzx
      have hzi : zx.toInt.toNat = i := by omega
      refine hast (c0 := 45 + k) (n := 40) C (tv_m40.1.1.1 (32, .iastore, 1) (List.mem_of_getElem? (i := 21) rfl)) (cd_T hk) hw' haR (by omega) (by omega) (fun ws2 hw2 hf2 v2 => ?_)
      rw [hzi] at hf2 v2
      refine hsum (st := (33, sn_lo k, [], sn_e 0 39, [], [])) (List.all_eq_true.mp sn_3 k (List.mem_range.mpr hk)) rfl C (r := [0, 0, (N : Int), (i : Int)]) ⟨en_mk (by simp only [sn_e, en_b, and_true]; omega) rfl, sb0, ⟨rfl, Or.inl ⟨rfl, a, ha, rfl⟩, rfl, int_dv (z := 0) rfl (by omega), rfl, int_dv (z := (N : Int)) rfl (by omega), rfl, int_dv (z := (i : Int)) rfl (by omega), trivial⟩, trivial, hw2, k0, fun _ _ _ _ h => h, fun h => by cases h⟩ (fun x hx r3 lv5 sk5 ws3 hx3 hb3 hl3 hs3 hlo3 hsk3 hw3 hv3 hf3 _ => ?_)
      rw [List.mem_singleton.mp hx] at hlo3 hsk3 ⊢
      obtain ⟨lv1, rfl, pz1⟩ := lo_ref ha hlo3
      obtain ⟨u1, lv2, rfl, t1, pz2⟩ := lo_int rfl pz1
      obtain ⟨u2, lv3, rfl, t2, pz3⟩ := lo_int rfl pz2
      obtain ⟨u3, lv4, rfl, t3, pz4⟩ := lo_int rfl pz3
      cases lo_nil pz4
      cases hsk3.nil
      unfold vn at t1 t2 t3
      rw [nm_x hx3 (k := 0) rfl] at t1
      rw [nm_x hx3 (k := 2) rfl] at t2
      rw [nm_x hx3 (k := 3) rfl] at t3
      dsimp only at t1 t2 t3
      have r1 : u1 = zk := Int32.toInt_inj.mp (by omega)
      have r2 : u2 = zn := Int32.toInt_inj.mp (by omega)
      subst r1 r2
      refine ih (i + 1) u3 ws3 (by omega) (by omega) hw3 ((hfr.tr (fr_sub (V := []) (fun _ _ _ q hq => by cases hq) hf)).tr ((fr_sub (fun cc j h q hq => ?_) hf2).tr (fr_sub (V := []) (fun _ _ _ q hq => by cases hq) hf3))) (fun j hj => ?_)
      · have h1 := h (45 + k, 0, 40) (by simp)
        rw [List.mem_singleton.mp hq]
        dsimp only at h1 ⊢
        omega
      · by_cases hji : j = i
        · subst hji
          exact (v2.fr hf3 rfl).eq (by omega)
        · exact (((hv j (by omega)).fr hf rfl).fr hf2 (wr_no fun q hq => by
            rw [List.mem_singleton.mp hq]
            dsimp only
            omega)).fr hf3 rfl
/-- what renew leaves -/
def sn_P (ad : List Nat) (tys : ai_ty) (k : Nat) (la : Int) (N : Nat) (ws ws' : va_W) : Prop := ai_wd tb_TY ad tys ws' ∧ ai_fr [(42, k, k + 1), (43, k, k + 1), (45 + k, 0, 40)] ws ws' ∧ vi ws' 42 k la ∧ vi ws' 43 k N ∧ ∀ j, j < N → vi ws' (45 + k) j 0
theorem sn_all {a aR k N : Nat} {la : Int} {zk zl zn : Int32} {ws : va_W} (C : ai_cx tb_m40 9 p R s m args c D tys A b L sx cells slots) (hw : ai_wd tb_TY ad tys ws) (ha : ad[41]? = some a) (haR : ad[45 + k]? = some aR) (hk : k < 4) (hN : N ≤ 40) (hla : 0 ≤ la ∧ la ≤ 2) (ek : zk.toInt = k) (el : zl.toInt = la) (en : zn.toInt = N)
    (kk : ∀ (pcr : Nat) (ws' : va_W) (lv' : List (Nat × Value)), pcr ∈ [39] → sn_P ad tys k la N ws ws' → hG tb_m40 p l e R s m args below meth c D A cells slots Q pcr lv' [] ws') : hG tb_m40 p l e R s m args below meth c D A cells slots Q 0 [(0, .ref a), (1, .int zk), (2, .int zl), (3, .int zn)] [] ws := by
  refine hsum (List.all_eq_true.mp sn_1 k (List.mem_range.mpr hk)) rfl C (r := [0, 0, la, (N : Int)]) ⟨en_mk (by simp only [en_b, and_true]; omega) rfl, sb0, ⟨rfl, Or.inl ⟨rfl, a, ha, rfl⟩, rfl, int_dv (z := 0) rfl (by omega), rfl, int_dv (z := la) rfl (by omega), rfl, int_dv (z := (N : Int)) rfl (by omega), trivial⟩, trivial, hw, k0, fun _ _ _ _ h => h, fun h => by cases h⟩ (fun x hx r' lv' sk' ws' hx' hb hl hs hlo hsk hw' hv' hf _ => ?_)
  have hx4 := List.mem_singleton.mp hx
  subst hx4
  obtain ⟨lv1, rfl, pz1⟩ := lo_ref ha hlo
  obtain ⟨y1, lv2, rfl, d1, pz2⟩ := lo_int rfl pz1
  obtain ⟨y2, lv3, rfl, d2, pz3⟩ := lo_int rfl pz2
  obtain ⟨y3, lv4, rfl, d3, pz4⟩ := lo_int rfl pz3
  cases lo_nil pz4
  cases hsk.nil
  unfold vn at d1 d2 d3
  rw [nm_x hx' (k := 0) rfl] at d1 d3
  rw [nm_x hx' (k := 3) rfl] at d2
  dsimp only at d1 d2 d3
  obtain ⟨v42, v43, -⟩ := hv'
  refine sn_loop (ws0 := ws') C ha haR hk hN (by omega) (by omega) (fun ws2 lv2 hw2 hf2 hv2 => kk 39 ws2 lv2 (by decide) ⟨hw2, (fr_sub (fun cc j h q hq => ?_) hf).tr (fr_sub (fun cc j h q hq => ?_) hf2), ?_, ?_, hv2⟩) N 0 y3 ws' (by omega) (by omega) hw' (fun _ _ _ _ h => h) (fun j hj => absurd hj (Nat.not_lt_zero _))
  · have h1 := h (42, k, k + 1) (by simp)
    have h2 := h (43, k, k + 1) (by simp)
    simp only [List.mem_cons, List.not_mem_nil, or_false] at hq
    rcases hq with rfl | rfl <;> dsimp only at h1 h2 ⊢ <;> omega
  · have h1 := h (45 + k, 0, 40) (by simp)
    rw [List.mem_singleton.mp hq]
    dsimp only at h1 ⊢
    omega
  · exact (v42.eq (by rw [nm_x hx' (k := 2) rfl]; dsimp only; omega)).fr hf2 (wr_no fun q hq => by
      rw [List.mem_singleton.mp hq]
      dsimp only
      omega)
  · exact (v43.eq (by rw [nm_x hx' (k := 3) rfl]; dsimp only; omega)).fr hf2 (wr_no fun q hq => by
      rw [List.mem_singleton.mp hq]
      dsimp only
      omega)
end SHN
end
section
/-! sheet of class and reference, and in the law -/
def s3_lo (cl : Nat) : List (Nat × ai_v) := [(0, (0, cl, 0, 0)), (1, (1, 2, 0, 0)), (2, (1, 3, 0, 0)), (3, (1, 4, 0, 0))]
def s3_en (k1 k2 l1 l2 n1 n2 : Int) : List ai_e := [(0, 0, false, 0, 0), (0, 2555, false, 1, 0), (k1, k2, false, 2, 0), (l1, l2, false, 3, 0), (n1, n2, false, 4, 0)]
def s3_st (cl : Nat) (k1 k2 l1 l2 n1 n2 : Int) : ai_s := (0, s3_lo cl, [], s3_en k1 k2 l1 l2 n1 n2, [], [])
def s3_is (pc : Nat) (z : Int) (x : ai_s) : Bool := Nat.beq x.1 pc && decide (x.2.2.1 = [(1, 0, 0, z)])
theorem shc_b1 : ((ai_ex (hk []) 100 89 tb_m89 10 [38] (s3_st 0 (-2147483648) (-1) (-2147483648) 2147483647 (-2147483648) 2147483647)).any fun xs => xs.all (s3_is 23 (-1))) = true := by decide +kernel
theorem shc_b2 : ((ai_ex (hk []) 100 89 tb_m89 10 [38] (s3_st 0 4 2147483647 (-2147483648) 2147483647 (-2147483648) 2147483647)).any fun xs => xs.all (s3_is 23 (-1))) = true := by decide +kernel
theorem shc_b3 : ((ai_ex (hk []) 100 89 tb_m89 10 [38] (s3_st 0 0 3 (-2147483648) (-1) (-2147483648) 2147483647)).any fun xs => xs.all (s3_is 23 (-1))) = true := by decide +kernel
theorem shc_b4 : ((ai_ex (hk []) 100 89 tb_m89 10 [38] (s3_st 0 0 3 3 2147483647 (-2147483648) 2147483647)).any fun xs => xs.all (s3_is 23 (-1))) = true := by decide +kernel
theorem shc_b5 : ((ai_ex (hk []) 100 89 tb_m89 10 [38] (s3_st 0 0 3 0 2 41 2147483647)).any fun xs => xs.all (s3_is 23 (-1))) = true := by decide +kernel
theorem shc_n : ((ai_ex (hk []) 100 89 tb_m89 10 [38] (s3_st 0 0 3 0 2 (-2147483648) (-1))).any fun xs => xs.all (s3_is 30 (-14))) = true := by decide +kernel
theorem shm_b1 : ((ai_ex (hk []) 100 164 tb_m164 10 [39] (s3_st 49 (-2147483648) (-1) (-2147483648) 2147483647 (-2147483648) 2147483647)).any fun xs => xs.all (s3_is 31 (-1))) = true := by decide +kernel
theorem shm_b2 : ((ai_ex (hk []) 100 164 tb_m164 10 [39] (s3_st 49 4 2147483647 (-2147483648) 2147483647 (-2147483648) 2147483647)).any fun xs => xs.all (s3_is 31 (-1))) = true := by decide +kernel
theorem shm_b3 : ((ai_ex (hk []) 100 164 tb_m164 10 [39] (s3_st 49 0 3 (-2147483648) (-1) (-2147483648) 2147483647)).any fun xs => xs.all (s3_is 31 (-1))) = true := by decide +kernel
theorem shm_b4 : ((ai_ex (hk []) 100 164 tb_m164 10 [39] (s3_st 49 0 3 3 2147483647 (-2147483648) 2147483647)).any fun xs => xs.all (s3_is 31 (-1))) = true := by decide +kernel
theorem shm_b5 : ((ai_ex (hk []) 100 164 tb_m164 10 [39] (s3_st 49 0 3 0 2 41 2147483647)).any fun xs => xs.all (s3_is 31 (-1))) = true := by decide +kernel
theorem shm_n : ((ai_ex (hk []) 100 164 tb_m164 10 [39] (s3_st 49 0 3 0 2 (-2147483648) (-1))).any fun xs => xs.all (s3_is 38 (-14))) = true := by decide +kernel
theorem shc_1 : ((ai_ex (hk []) 100 89 tb_m89 10 [38] (s3_st 0 0 3 0 2 0 40)).any fun xs => xs.all fun x => ([(38, s3_lo 0, [(1, 4, 0, 0), (1, 3, 0, 0), (1, 2, 0, 0), (0, 41, 0, 0)], [], s3_en 0 3 0 2 0 40, [])] : List sm_t).any fun t => sm_is [] x t) = true := by decide +kernel
theorem shc_2 : ((ai_ex (hk []) 20 89 tb_m89 10 [] (41, s3_lo 0, [], s3_en 0 3 0 2 0 40, [], [])).any fun xs => xs.all (s3_is 42 1)) = true := by decide +kernel
theorem shm_1 : ((ai_ex (hk []) 100 164 tb_m164 10 [39] (s3_st 49 0 3 0 2 0 40)).any fun xs => xs.all fun x => ([(39, s3_lo 49, [], [], s3_en 0 3 0 2 0 40, [])] : List sm_t).any fun t => sm_is [] x t) = true := by decide +kernel
section SHS
variable {ad : List Nat} {M : ai_m} {d : Nat} {p : Program} {l : Launch} {e : Env} {R : Room} {s : State} {m : MethodId} {args : Array Value} {below : List Frame} {meth : Method} {c : Code} {D : va_G} {tys : ai_ty} {A : Nat → Prop} {b L : Nat} {sx : Nat → Int32} {cells slots : Nat} {Q : State → Prop}
theorem s3_ok {z1 z2 z3 : Int32} {k1 k2 l1 l2 n1 n2 : Int} (h1 : k1 ≤ z1.toInt ∧ z1.toInt ≤ k2) (h2 : l1 ≤ z2.toInt ∧ z2.toInt ≤ l2) (h3 : n1 ≤ z3.toInt ∧ z3.toInt ≤ n2) : ai_ok [0, 0, z1.toInt, z2.toInt, z3.toInt] (s3_en k1 k2 l1 l2 n1 n2) := en_mk (by simp only [s3_en, en_b, and_true]; omega) rfl
theorem s3_l {a cl : Nat} {z1 z2 z3 : Int32} (ha : ad[cl]? = some a) : ai_lo ad b [0, 0, z1.toInt, z2.toInt, z3.toInt] (s3_lo cl) [(0, .ref a), (1, .int z1), (2, .int z2), (3, .int z3)] := ⟨rfl, Or.inl ⟨rfl, a, ha, rfl⟩, rfl, int_dv (z := z1.toInt) rfl (by omega), rfl, int_dv (z := z2.toInt) rfl (by omega), rfl, int_dv (z := z3.toInt) rfl (by omega), trivial⟩
/-- an answer at once, nothing written -/
theorem s3_ret {mid cl a cut pcb N : Nat} {z : Int} {z1 z2 z3 : Int32} {k1 k2 l1 l2 n1 n2 : Int} {ws : va_W} (hM : tb_MT[mid]? = some M) (hsc : M.2.2.2.2.1 = false) (C : ai_cx M 10 p R s m args c D tys A b L sx cells slots) (hw : ai_wd tb_TY ad tys ws) (ha : ad[cl]? = some a) (hrun : ((ai_ex (hk []) N mid M 10 [cut] (s3_st cl k1 k2 l1 l2 n1 n2)).any fun xs => xs.all (s3_is pcb z)) = true) (h1 : k1 ≤ z1.toInt ∧ z1.toInt ≤ k2) (h2 : l1 ≤ z2.toInt ∧ z2.toInt ≤ l2) (h3 : n1 ≤ z3.toInt ∧ z3.toInt ≤ n2)
    (k : ∀ (ws' : va_W) (z' : Int32) (lv' : List (Nat × Value)), ai_wd tb_TY ad tys ws' → ai_fr [] ws ws' → z'.toInt = z → hG M p l e R s m args below meth c D A cells slots Q pcb lv' [.int z'] ws') : hG M p l e R s m args below meth c D A cells slots Q 0 [(0, .ref a), (1, .int z1), (2, .int z2), (3, .int z3)] [] ws := by
  obtain ⟨xs, y1, y2⟩ := ai_anyE hrun
  refine hseg (st := s3_st cl k1 k2 l1 l2 n1 n2) y1 hM C ⟨s3_ok h1 h2 h3, sb0, s3_l ha, trivial, hw, k0, fun _ _ _ _ h => h, fun h => by rw [hsc] at h; cases h⟩ (fun x hx r' lv' sk' ws' hx' g' => ?_)
  obtain ⟨g1, g2, g3, g4, g5, g6, g7, g8⟩ := g'
  have hb := List.all_eq_true.mp y2 x hx
  unfold s3_is at hb
  rw [Bool.and_eq_true, ai_beq, decide_eq_true_eq] at hb
  rw [hb.2] at g4
  obtain ⟨i, rfl, hi⟩ := sk1 rfl g4
  rw [hb.1]
  refine k ws' i lv' g5 g7 ?_
  rw [hi]
  unfold vn
  rw [nm_x hx' (k := 0) rfl]
  show 0 + z = z
  omega
theorem s3_un {r' : List Int} {lv' : List (Nat × Value)} {a cl : Nat} {z1 z2 z3 : Int32} (ha : ad[cl]? = some a) (hx' : ai_x [0, 0, z1.toInt, z2.toInt, z3.toInt] r') (hlo : ai_lo ad b r' (s3_lo cl) lv') : lv' = [(0, .ref a), (1, .int z1), (2, .int z2), (3, .int z3)] := by
  obtain ⟨lv1, rfl, pz1⟩ := lo_ref ha hlo
  obtain ⟨y1, lv2, rfl, d1, pz2⟩ := lo_int rfl pz1
  obtain ⟨y2, lv3, rfl, d2, pz3⟩ := lo_int rfl pz2
  obtain ⟨y3, lv4, rfl, d3, pz4⟩ := lo_int rfl pz3
  cases lo_nil pz4
  unfold vn at d1 d2 d3
  rw [nm_x hx' (k := 2) rfl] at d1
  rw [nm_x hx' (k := 3) rfl] at d2
  rw [nm_x hx' (k := 4) rfl] at d3
  dsimp only at d1 d2 d3
  rw [Int32.toInt_inj.mp (show y1.toInt = z1.toInt by omega), Int32.toInt_inj.mp (show y2.toInt = z2.toInt by omega), Int32.toInt_inj.mp (show y3.toInt = z3.toInt by omega)]
theorem shc_all {a a41 aR k N : Nat} {z1 z2 z3 : Int32} {ws : va_W} (C : ai_cx tb_m89 10 p R s m args c D tys A b L sx cells slots) (hw : ai_wd tb_TY ad tys ws) (ha : ad[0]? = some a) (ha41 : ad[41]? = some a41) (haR : ad[45 + k]? = some aR) (hk : k < 4) (hN : N ≤ 40) (ek : z1.toInt = k) (hla : 0 ≤ z2.toInt ∧ z2.toInt ≤ 2) (en : z3.toInt = N)
    (kk : ∀ (ws' : va_W) (z' : Int32) (lv' : List (Nat × Value)), sn_P ad tys k z2.toInt N ws ws' → z'.toInt = 1 → hG tb_m89 p l e R s m args below meth c D A cells slots Q 42 lv' [.int z'] ws') : hG tb_m89 p l e R s m args below meth c D A cells slots Q 0 [(0, .ref a), (1, .int z1), (2, .int z2), (3, .int z3)] [] ws := by
  refine hsum (st := s3_st 0 0 3 0 2 0 40) shc_1 rfl C ⟨s3_ok (by omega) hla (by omega), sb0, s3_l ha, trivial, hw, k0, fun _ _ _ _ h => h, fun h => by cases h⟩ (fun x hx r' lv' sk' ws1 hx' hb hl hs hlo hsk hw1 hv' hf1 _ => ?_)
  rw [List.mem_singleton.mp hx] at hlo hsk ⊢
  have e1 := s3_un ha hx' hlo
  subst e1
  obtain ⟨x1, s1, rfl, d1, g4⟩ := hsk.cons
  obtain ⟨x2, s2, rfl, d2, g5⟩ := g4.cons
  obtain ⟨x3, s3, rfl, d3, g6⟩ := g5.cons
  obtain ⟨x4, s4, rfl, d4, g7⟩ := g6.cons
  cases g7.nil
  obtain ⟨y3, rfl, t3⟩ := dvn d1 (hx'.at (k := 4) rfl)
  obtain ⟨y2, rfl, t2⟩ := dvn d2 (hx'.at (k := 3) rfl)
  obtain ⟨y1, rfl, t1⟩ := dvn d3 (hx'.at (k := 2) rfl)
  have f4 := ref_of ha41 d4
  subst f4
  refine hcallV (q := (241, 0, 40, 3, 3)) (M' := tb_m40) (cl := 41) (a := a41) (As := [.int y1, .int y2, .int y3]) (rest := []) (rets := [39]) (P := sn_P ad tys k z2.toInt N ws1) C (by decide) (tv_m89.1.1.1 (38, .invokevirtual 241, 3) (List.mem_of_getElem? (i := 22) rfl)) (tv_m89.2 _ (List.mem_of_getElem? (i := 38) rfl)) rfl rfl rfl rfl (by decide) (Nat.le_of_ble_eq_true rfl) rfl rfl rfl rfl hw1 ha41 (by decide) ?_ ?_ ?_
  · intro pcr hp
    rw [List.mem_singleton.mp hp]
    exact tv_m40.1.1.1 (39, .return_, 1) (List.mem_of_getElem? (i := 24) rfl)
  · intro p2 e2 R2 s2 m2 args2 below2 meth2 c2 Q2 C2 kk2
    exact sn_all C2 hw1 ha41 haR hk hN hla (by omega) (by omega) (by omega) (fun pcr w lv2 hp hP => kk2 pcr w lv2 hp hP)
  · intro ws2 hP
    obtain ⟨xs, u1, u2⟩ := ai_anyE shc_2
    refine hseg (st := (41, s3_lo 0, [], s3_en 0 3 0 2 0 40, [], [])) (r := [0, 0, z1.toInt, z2.toInt, z3.toInt]) u1 rfl C ⟨s3_ok (by omega) hla (by omega), sb0, s3_l ha, trivial, hP.1, k0, fun _ _ _ _ h => h, fun h => by cases h⟩ (fun x hx r3 lv3 sk3 ws3 hx3 g' => ?_)
    obtain ⟨g1, g2, g3, g4, g5, g6, g7, g8⟩ := g'
    have hb := List.all_eq_true.mp u2 x hx
    unfold s3_is at hb
    rw [Bool.and_eq_true, ai_beq, decide_eq_true_eq] at hb
    rw [hb.2] at g4
    obtain ⟨i, rfl, hi⟩ := sk1 rfl g4
    rw [hb.1]
    unfold vn at hi
    rw [nm_x hx3 (k := 0) rfl] at hi
    have n0 : ∀ {u v : va_W} {Wx : List (Nat × Nat × Nat)}, ai_fr [] u v → ai_fr Wx u v := fun h => fr_sub (V := []) (fun _ _ _ q hq => by cases hq) h
    exact kk ws3 i lv3 ⟨g5, ((n0 hf1).tr hP.2.1).tr (n0 g7), hP.2.2.1.fr g7 rfl, hP.2.2.2.1.fr g7 rfl, fun j hj => (hP.2.2.2.2 j hj).fr g7 rfl⟩ hi
/-- the reference's loop -/
theorem shm_loop {a aR k : Nat} {zk : Int32} {ws0 : va_W} (C : ai_cx tb_m164 10 p R s m args c D tys A b L sx cells slots) (ha : ad[49]? = some a) (haR : ad[59]? = some aR) (hk : k < 4) (ek : zk.toInt = k)
    (kk : ∀ (ws' : va_W) (z' : Int32) (lv' : List (Nat × Value)), ai_wd tb_TY ad tys ws' → ai_fr [(59, 40 * k, 40 * k + 40)] ws0 ws' → (∀ j, j < 40 → vi ws' 59 (40 * k + j) 0) → z'.toInt = 1 → hG tb_m164 p l e R s m args below meth c D A cells slots Q 83 lv' [.int z'] ws') :
    ∀ (f i : Nat) (zi : Int32) (ws : va_W), i + f = 40 → zi.toInt = i → ai_wd tb_TY ad tys ws → ai_fr [(59, 40 * k, 40 * k + 40)] ws0 ws → (∀ j, j < i → vi ws 59 (40 * k + j) 0) → hG tb_m164 p l e R s m args below meth c D A cells slots Q 56 [(0, .ref a), (1, .int zk), (4, .int zi)] [] ws := by
  intro f
  induction f with
  | zero =>
    intro i zi ws hif ezi hw hfr hv
    refine hild (j := 4) (x := zi) C (tv_m164.1.1.1 (56, .iload 4, 2) (List.mem_of_getElem? (i := 33) rfl)) (by simp) ?_
    refine hsum (st := (58, sm4_lo k, [(1, 2, 0, 0)], sm4_e 0 40, [], [])) (List.all_eq_true.mp sm4_2 k (List.mem_range.mpr hk)) rfl C (r := [0, 0, (i : Int)]) ⟨en_mk (by simp only [sm4_e, en_b, and_true]; omega) rfl, sb0, ⟨rfl, Or.inl ⟨rfl, a, ha, rfl⟩, rfl, int_dv (z := 0) rfl (by omega), rfl, int_dv (z := (i : Int)) rfl (by omega), trivial⟩, ⟨int_dv (z := (i : Int)) rfl (by omega), trivial⟩, hw, k0, fun _ _ _ _ h => h, fun h => by cases h⟩ (fun x hx r' lv' sk' ws' hx' hb hl hs hlo hsk hw' hv' hf _ => ?_)
    have h2 := nm_x hx' (k := 2) rfl
    rcases List.mem_cons.mp hx with rfl | hx
    · obtain ⟨z', rfl, hz'⟩ := sk1 rfl hsk
      unfold vn at hz'
      rw [nm_x hx' (k := 0) rfl] at hz'
      exact kk ws' z' lv' hw' (hfr.tr (fr_sub (V := []) (fun _ _ _ q hq => by cases hq) hf)) (fun j hj => (hv j (by omega)).fr hf rfl) hz'
    · have hx2 := List.mem_singleton.mp hx
      subst hx2
      simp (config := { decide := true }) only [sm4_e, bnd_b, lin_b, lin_q, Nat.reduceAdd, Nat.zero_add, Nat.reduceEqDiff, reduceIte, and_true, Int.add_zero] at hb hl
      exfalso
      omega
  | succ f ih =>
    intro i zi ws hif ezi hw hfr hv
    refine hild (j := 4) (x := zi) C (tv_m164.1.1.1 (56, .iload 4, 2) (List.mem_of_getElem? (i := 33) rfl)) (by simp) ?_
    refine hsum (st := (58, sm4_lo k, [(1, 2, 0, 0)], sm4_e 0 40, [], [])) (List.all_eq_true.mp sm4_2 k (List.mem_range.mpr hk)) rfl C (r := [0, 0, (i : Int)]) ⟨en_mk (by simp only [sm4_e, en_b, and_true]; omega) rfl, sb0, ⟨rfl, Or.inl ⟨rfl, a, ha, rfl⟩, rfl, int_dv (z := 0) rfl (by omega), rfl, int_dv (z := (i : Int)) rfl (by omega), trivial⟩, ⟨int_dv (z := (i : Int)) rfl (by omega), trivial⟩, hw, k0, fun _ _ _ _ h => h, fun h => by cases h⟩ (fun x hx r' lv' sk' ws' hx' hb hl hs hlo hsk hw' hv' hf _ => ?_)
    have h0 := nm_x hx' (k := 0) rfl
    have h2 := nm_x hx' (k := 2) rfl
    rcases List.mem_cons.mp hx with rfl | hx
    · simp (config := { decide := true }) only [sm4_e, bnd_b, lin_b, lin_q, Nat.reduceAdd, Nat.zero_add, Nat.reduceEqDiff, reduceIte, and_true, Int.add_zero] at hb hl
      exfalso
      omega
    · have hx2 := List.mem_singleton.mp hx
      subst hx2
      obtain ⟨lv1, rfl, pz1⟩ := lo_ref ha hlo
      obtain ⟨y1, lv2, rfl, d1, pz2⟩ := lo_int rfl pz1
      obtain ⟨y3, lv4, rfl, d3, pz4⟩ := lo_int rfl pz2
      cases lo_nil pz4
      obtain ⟨x1, s1, rfl, e1, g4⟩ := hsk.cons
      obtain ⟨x2, s2, rfl, e2, g5⟩ := g4.cons
      obtain ⟨x3, s3, rfl, e3, g6⟩ := g5.cons
      cases g6.nil
      obtain ⟨zv, rfl, hzv⟩ := int_of rfl e1
      obtain ⟨zx, rfl, hzx⟩ := int_of rfl e2
      have f3 := ref_of haR e3
      subst f3
      unfold vn at d1 d3 hzv hzx
      dsimp only at d1 d3 hzv hzx
      have hzi : zx.toInt.toNat = 40 * k + i := by omega
      refine hast (c0 := 59) (n := 160) C (tv_m164.1.1.1 (75, .iastore, 1) (List.mem_of_getElem? (i := 44) rfl)) rfl hw' haR (by omega) (by omega) (fun ws2 hw2 hf2 v2 => ?_)
      rw [hzi] at hf2 v2
      refine hsum (st := (76, sm4_lo k, [], sm4_e 0 39, [], [])) (List.all_eq_true.mp sm4_3 k (List.mem_range.mpr hk)) rfl C (r := [0, 0, (i : Int)]) ⟨en_mk (by simp only [sm4_e, en_b, and_true]; omega) rfl, sb0, ⟨rfl, Or.inl ⟨rfl, a, ha, rfl⟩, rfl, int_dv (z := 0) rfl (by omega), rfl, int_dv (z := (i : Int)) rfl (by omega), trivial⟩, trivial, hw2, k0, fun _ _ _ _ h => h, fun h => by cases h⟩ (fun x hx r3 lv5 sk5 ws3 hx3 hb3 hl3 hs3 hlo3 hsk3 hw3 hv3 hf3 _ => ?_)
      rw [List.mem_singleton.mp hx] at hlo3 hsk3 ⊢
      obtain ⟨lv1, rfl, pz1⟩ := lo_ref ha hlo3
      obtain ⟨u1, lv2, rfl, t1, pz2⟩ := lo_int rfl pz1
      obtain ⟨u3, lv4, rfl, t3, pz4⟩ := lo_int rfl pz2
      cases lo_nil pz4
      cases hsk3.nil
      unfold vn at t1 t3
      rw [nm_x hx3 (k := 0) rfl] at t1
      rw [nm_x hx3 (k := 2) rfl] at t3
      dsimp only at t1 t3
      have r1 : u1 = zk := Int32.toInt_inj.mp (by omega)
      subst r1
      refine ih (i + 1) u3 ws3 (by omega) (by omega) hw3 ((hfr.tr (fr_sub (V := []) (fun _ _ _ q hq => by cases hq) hf)).tr ((fr_sub (fun cc j h q hq => ?_) hf2).tr (fr_sub (V := []) (fun _ _ _ q hq => by cases hq) hf3))) (fun j hj => ?_)
      · have h1 := h (59, 40 * k, 40 * k + 40) (by simp)
        rw [List.mem_singleton.mp hq]
        dsimp only at h1 ⊢
        omega
      · by_cases hji : j = i
        · subst hji
          exact (v2.fr hf3 rfl).eq (by omega)
        · exact (((hv j (by omega)).fr hf rfl).fr hf2 (wr_no fun q hq => by
            rw [List.mem_singleton.mp hq]
            dsimp only
            omega)).fr hf3 rfl
def shm_P (ad : List Nat) (tys : ai_ty) (k : Nat) (la : Int) (N : Nat) (ws ws' : va_W) : Prop := ai_wd tb_TY ad tys ws' ∧ ai_fr [(57, k, k + 1), (58, k, k + 1), (59, 40 * k, 40 * k + 40)] ws ws' ∧ vi ws' 57 k la ∧ vi ws' 58 k N ∧ ∀ j, j < N → vi ws' 59 (40 * k + j) 0
theorem shm_all {a aR k N : Nat} {z1 z2 z3 : Int32} {ws : va_W} (C : ai_cx tb_m164 10 p R s m args c D tys A b L sx cells slots) (hw : ai_wd tb_TY ad tys ws) (ha : ad[49]? = some a) (haR : ad[59]? = some aR) (hk : k < 4) (hN : N ≤ 40) (ek : z1.toInt = k) (hla : 0 ≤ z2.toInt ∧ z2.toInt ≤ 2) (en : z3.toInt = N)
    (kk : ∀ (ws' : va_W) (z' : Int32) (lv' : List (Nat × Value)), shm_P ad tys k z2.toInt N ws ws' → z'.toInt = 1 → hG tb_m164 p l e R s m args below meth c D A cells slots Q 83 lv' [.int z'] ws') : hG tb_m164 p l e R s m args below meth c D A cells slots Q 0 [(0, .ref a), (1, .int z1), (2, .int z2), (3, .int z3)] [] ws := by
  refine hsum (st := s3_st 49 0 3 0 2 0 40) shm_1 rfl C ⟨s3_ok (by omega) hla (by omega), sb0, s3_l ha, trivial, hw, k0, fun _ _ _ _ h => h, fun h => by cases h⟩ (fun x hx r' lv' sk' ws1 hx' hb hl hs hlo hsk hw1 hv' hf1 _ => ?_)
  rw [List.mem_singleton.mp hx] at hlo hsk ⊢
  have e1 := s3_un ha hx' hlo
  subst e1
  cases hsk.nil
  refine hsum (List.all_eq_true.mp sm4_1 k (List.mem_range.mpr hk)) rfl C (r := [0, 0, z2.toInt, (N : Int)]) ⟨en_mk (by simp only [en_b, and_true]; omega) rfl, sb0, ⟨rfl, Or.inl ⟨rfl, a, ha, rfl⟩, rfl, int_dv (z := 0) rfl (by omega), rfl, int_dv (z := z2.toInt) rfl (by omega), rfl, int_dv (z := (N : Int)) rfl (by omega), trivial⟩, trivial, hw1, k0, fun _ _ _ _ h => h, fun h => by cases h⟩ (fun x hx r2 lv2 sk2 ws2 hx2 hb2 hl2 hs2 hlo2 hsk2 hw2 hv2 hf2 _ => ?_)
  have hx4 := List.mem_singleton.mp hx
  subst hx4
  obtain ⟨lv1, rfl, pz1⟩ := lo_ref ha hlo2
  obtain ⟨y1, lv3, rfl, d1, pz2⟩ := lo_int rfl pz1
  obtain ⟨y3, lv4, rfl, d3, pz4⟩ := lo_int rfl pz2
  cases lo_nil pz4
  cases hsk2.nil
  unfold vn at d1 d3
  rw [nm_x hx2 (k := 0) rfl] at d1 d3
  dsimp only at d1 d3
  obtain ⟨v57, v58, -⟩ := hv2
  have n59 : ∀ {cc i : Nat}, cc ≠ 59 → ai_wr [(59, 40 * k, 40 * k + 40)] cc i i = false := fun {cc i} h => wr_no fun q hq => by
    rw [List.mem_singleton.mp hq]
    dsimp only
    omega
  refine shm_loop (ws0 := ws2) C ha haR hk (by omega) (fun ws3 z' lv3 hw3 hf3 hv3 hz => kk ws3 z' lv3 ⟨hw3, ((fr_sub (V := []) (fun _ _ _ q hq => by cases hq) hf1).tr (fr_sub (fun cc j h q hq => ?_) hf2)).tr (fr_sub (fun cc j h q hq => ?_) hf3), (v57.eq (by rw [nm_x hx2 (k := 2) rfl]; dsimp only; omega)).fr hf3 (n59 (by dsimp only; omega)), (v58.eq (by rw [nm_x hx2 (k := 3) rfl]; dsimp only; omega)).fr hf3 (n59 (by dsimp only; omega)), fun j hj => hv3 j (by omega)⟩ hz) 40 0 y3 ws2 rfl (by omega) hw2 (fun _ _ _ _ h => h) (fun j hj => absurd hj (Nat.not_lt_zero _))
  · have h1 := h (57, k, k + 1) (by simp)
    have h2 := h (58, k, k + 1) (by simp)
    simp only [List.mem_cons, List.not_mem_nil, or_false] at hq
    rcases hq with rfl | rfl <;> dsimp only at h1 h2 ⊢ <;> omega
  · have h1 := h (59, 40 * k, 40 * k + 40) (by simp)
    rw [List.mem_singleton.mp hq]
    dsimp only at h1 ⊢
    omega
end SHS
end
section
/-! sheet, in the law -/
section SHL
variable {ad : List Nat} {p : Program} {l : Launch} {e : Env} {R : Room} {s : State} {m : MethodId} {args : Array Value} {below : List Frame} {meth : Method} {c : Code} {D : va_G} {tys : ai_ty} {A : Nat → Prop} {b L : Nat} {sx : Nat → Int32} {cells slots : Nat} {Q : State → Prop}
/-- one sheet becomes another; all else stays -/
theorem Inv.sheets {ws ws' : va_W} {W : List (Nat × Nat × Nat)} {t : Nat} {g : Nat → Int} {u q y : Int} {n : Nat} {k0 k1 : Int} {E : Nat → Int} {a : Nat} {P : Nat → Int} (hb : baI ws t g u q y n k0 k1) (hp : pgI ws 1 0 n E a P) (hi0 : k0 = 1 → imI ws 0 n) (hi1 : k1 = 1 → imI ws 1 n) (hw' : ai_wd tb_TY ad tys ws') (hf : ai_fr W ws ws') (hW : ((nwr W baL && (nowr W 27 && nowr W 52)) && (((evw W 1 && nowr W 6) && pgw W 0) && (((evw W 13 && nowr W 18) && pgw W 27) && ((evw W 19 && nowr W 24) && pgw W 54)))) = true) (hs : shI ws') : Inv ws' := by
  obtain ⟨wA, wB⟩ := band hW
  obtain ⟨w1, w2⟩ := band wA
  obtain ⟨wC, wD⟩ := band wB
  obtain ⟨w3, w4⟩ := band wC
  obtain ⟨wE, wF⟩ := band wD
  obtain ⟨w5, w6⟩ := band wE
  obtain ⟨w7, w8⟩ := band wF
  have hn := hb.2.2.2.2.1.2.2
  exact ⟨t, g, u, q, y, n, k0, k1, E, a, P, hb.fr hw' hf w1 w2, hp.fr hn hf w3 w4, fun h => (hi0 h).fr hn hf w5 w6, fun h => (hi1 h).fr hn hf w7 w8, hs⟩
def shW : List (Nat × Nat × Nat) := [(42, 0, 4), (43, 0, 4), (45, 0, 40), (46, 0, 40), (47, 0, 40), (48, 0, 40), (57, 0, 4), (58, 0, 4), (59, 0, 160)]
set_option maxRecDepth 20000 in
set_option maxHeartbeats 1000000 in
theorem lw_sheet {i q0 q49 : Nat} {ws : va_W} (C : ai_cx tb_m169 11 p R s m args c D tys A b L sx cells slots) (e0 : ad[0]? = some q0) (e49 : ad[49]? = some q49) (hi : i + 5 ≤ L) (hL : L ≤ 2560) (hw : ai_wd tb_TY ad tys ws) (hI : Inv ws)
    (k : ∀ wc, ai_wd tb_TY ad tys wc → Inv wc → hG tb_m169 p l e R s m args below meth c D A cells slots Q 1298 [(0, .ref b), (1, .ref q0), (2, .ref q49), (3, .int (nI i))] [] wc) : hG tb_m169 p l e R s m args below meth c D A cells slots Q 1123 [(0, .ref b), (1, .ref q0), (2, .ref q49), (3, .int (nI i))] [] ws := by
  have r1 : ∀ pcr ∈ [23, 30, 42], decode tb_m89.2.1 pcr = .ok (.ireturn, 1) := by
    intro pcr hpc
    simp only [List.mem_cons, List.not_mem_nil, or_false] at hpc
    rcases hpc with rfl | rfl | rfl
    · exact tv_m89.1.1.1 (23, .ireturn, 1) (List.mem_of_getElem? (i := 12) rfl)
    · exact tv_m89.1.1.1 (30, .ireturn, 1) (List.mem_of_getElem? (i := 16) rfl)
    · exact tv_m89.1.1.1 (42, .ireturn, 1) (List.mem_of_getElem? (i := 24) rfl)
  have r2 : ∀ pcr ∈ [31, 38, 83], decode tb_m164.2.1 pcr = .ok (.ireturn, 1) := by
    intro pcr hpc
    simp only [List.mem_cons, List.not_mem_nil, or_false] at hpc
    rcases hpc with rfl | rfl | rfl
    · exact tv_m164.1.1.1 (31, .ireturn, 1) (List.mem_of_getElem? (i := 16) rfl)
    · exact tv_m164.1.1.1 (38, .ireturn, 1) (List.mem_of_getElem? (i := 20) rfl)
    · exact tv_m164.1.1.1 (83, .ireturn, 1) (List.mem_of_getElem? (i := 48) rfl)
  have b1 := ai_irg (sx (i + 1))
  have b2 := ai_irg (sx (i + 2))
  have b3 := ai_irg (sx (i + 3))
  have no : ∀ {pc1 pc2 : Nat} {z : Int}, pc1 ∈ [23, 30, 42] → pc2 ∈ [31, 38, 83] → (∀ {p : Program} {e : Env} {R : Room} {s : State} {m : MethodId} {args : Array Value} {below : List Frame} {meth : Method} {c : Code} {Q : State → Prop} (w : va_W), ai_wd tb_TY ad tys w → ai_cx tb_m89 10 p R s m args c D tys A b L sx 0 0 → (∀ (ws' : va_W) (z' : Int32) (lv' : List (Nat × Value)), ai_wd tb_TY ad tys ws' → ai_fr [] w ws' → z'.toInt = z → hG tb_m89 p l e R s m args below meth c D A 0 0 Q pc1 lv' [.int z'] ws') → hG tb_m89 p l e R s m args below meth c D A 0 0 Q 0 [(0, .ref q0), (1, .int (sx (i + 1))), (2, .int (sx (i + 2))), (3, .int (sx (i + 3)))] [] w) → (∀ {p : Program} {e : Env} {R : Room} {s : State} {m : MethodId} {args : Array Value} {below : List Frame} {meth : Method} {c : Code} {Q : State → Prop} (w : va_W), ai_wd tb_TY ad tys w → ai_cx tb_m164 10 p R s m args c D tys A b L sx 0 0 → (∀ (ws' : va_W) (z' : Int32) (lv' : List (Nat × Value)), ai_wd tb_TY ad tys ws' → ai_fr [] w ws' → z'.toInt = z → hG tb_m164 p l e R s m args below meth c D A 0 0 Q pc2 lv' [.int z'] ws') → hG tb_m164 p l e R s m args below meth c D A 0 0 Q 0 [(0, .ref q49), (1, .int (sx (i + 1))), (2, .int (sx (i + 2))), (3, .int (sx (i + 3)))] [] w) → hG tb_m169 p l e R s m args below meth c D A cells slots Q 1123 [(0, .ref b), (1, .ref q0), (2, .ref q49), (3, .int (nI i))] [] ws := fun {pc1 pc2 z} hp1 hp2 hc1 hc2 => law2 (P1 := fun w z1 => ai_wd tb_TY ad tys w ∧ ai_fr [] ws w ∧ z1.toInt = z) (P2 := fun wa _ w z1 => ai_wd tb_TY ad tys w ∧ ai_fr [] wa w ∧ z1.toInt = z) (rets1 := [23, 30, 42]) (rets2 := [31, 38, 83]) C e0 e49 hi hL hw (n := 3) (cmp := false) (by decide) lr_sheetA lr_sheetB lr_sheetC (q1 := (147, 0, 89, 3, 5)) (tv_m169.1.1.1 (1139, .invokevirtual 147, 3) (List.mem_of_getElem? (i := 773) rfl)) (tv_m169.2 _ (List.mem_of_getElem? (i := 64) rfl)) rfl rfl rfl rfl (by decide) (Nat.le_of_ble_eq_true rfl) rfl rfl (q2 := (150, 0, 164, 3, 6)) (tv_m169.1.1.1 (1159, .invokevirtual 150, 3) (List.mem_of_getElem? (i := 791) rfl)) (tv_m169.2 _ (List.mem_of_getElem? (i := 65) rfl)) rfl rfl rfl rfl (by decide) (Nat.le_of_ble_eq_true rfl) rfl rfl r1 r2 (fun w hw' hf C2 kk => hc1 w hw' C2 (fun w' z' lv h1 h2 h3 => kk pc1 w' z' lv hp1 ⟨h1, hf.tr h2, h3⟩)) (fun wa z1 h => h.1) (fun wa z1 w hP1 hw' hf C2 kk => hc2 w hw' C2 (fun w' z' lv h1 h2 h3 => kk pc2 w' z' lv hp2 ⟨h1, hf.tr h2, h3⟩)) (fun wa z1 wb z2 h1 h2 => ⟨h2.1, fun _ => Int32.toInt_inj.mp (by rw [h1.2.2, h2.2.2])⟩) (fun wa z1 wb z2 wc h1 h2 hwc hf => k wc hwc (hI.fr0 hwc ((h1.2.1.tr h2.2.1).tr hf)))
  by_cases c1 : (sx (i + 1)).toInt < 0
  · exact no (pc1 := 23) (pc2 := 31) (by decide) (by decide) (fun w hw' C2 kk => s3_ret rfl rfl C2 hw' e0 shc_b1 (by omega) (by omega) (by omega) kk) (fun w hw' C2 kk => s3_ret rfl rfl C2 hw' e49 shm_b1 (by omega) (by omega) (by omega) kk)
  by_cases c2 : 3 < (sx (i + 1)).toInt
  · exact no (pc1 := 23) (pc2 := 31) (by decide) (by decide) (fun w hw' C2 kk => s3_ret rfl rfl C2 hw' e0 shc_b2 (by omega) (by omega) (by omega) kk) (fun w hw' C2 kk => s3_ret rfl rfl C2 hw' e49 shm_b2 (by omega) (by omega) (by omega) kk)
  by_cases c3 : (sx (i + 2)).toInt < 0
  · exact no (pc1 := 23) (pc2 := 31) (by decide) (by decide) (fun w hw' C2 kk => s3_ret rfl rfl C2 hw' e0 shc_b3 (by omega) (by omega) (by omega) kk) (fun w hw' C2 kk => s3_ret rfl rfl C2 hw' e49 shm_b3 (by omega) (by omega) (by omega) kk)
  by_cases c4 : 2 < (sx (i + 2)).toInt
  · exact no (pc1 := 23) (pc2 := 31) (by decide) (by decide) (fun w hw' C2 kk => s3_ret rfl rfl C2 hw' e0 shc_b4 (by omega) (by omega) (by omega) kk) (fun w hw' C2 kk => s3_ret rfl rfl C2 hw' e49 shm_b4 (by omega) (by omega) (by omega) kk)
  by_cases c5 : 40 < (sx (i + 3)).toInt
  · exact no (pc1 := 23) (pc2 := 31) (by decide) (by decide) (fun w hw' C2 kk => s3_ret rfl rfl C2 hw' e0 shc_b5 (by omega) (by omega) (by omega) kk) (fun w hw' C2 kk => s3_ret rfl rfl C2 hw' e49 shm_b5 (by omega) (by omega) (by omega) kk)
  by_cases c6 : (sx (i + 3)).toInt < 0
  · exact no (pc1 := 30) (pc2 := 38) (by decide) (by decide) (fun w hw' C2 kk => s3_ret rfl rfl C2 hw' e0 shc_n (by omega) (by omega) (by omega) kk) (fun w hw' C2 kk => s3_ret rfl rfl C2 hw' e49 shm_n (by omega) (by omega) (by omega) kk)
  obtain ⟨kn, hkn⟩ : ∃ kn : Nat, (sx (i + 1)).toInt = (kn : Int) := ⟨(sx (i + 1)).toInt.toNat, by omega⟩
  obtain ⟨N, hN⟩ : ∃ N : Nat, (sx (i + 3)).toInt = (N : Int) := ⟨(sx (i + 3)).toInt.toNat, by omega⟩
  have hk4 : kn < 4 := by omega
  have hla : 0 ≤ (sx (i + 2)).toInt ∧ (sx (i + 2)).toInt ≤ 2 := by omega
  obtain ⟨a41, -, -, e41, -⟩ := hw.get (c := 41) rfl
  obtain ⟨a59, -, -, e59, -⟩ := hw.get (c := 59) rfl
  obtain ⟨aR, -, -, eR, -⟩ := hw.get (cd_T hk4)
  obtain ⟨t, g, u, q, y, n, j0, j1, E, a, P, hb, hp, hi0, hi1, hs⟩ := hI
  have n0 : ∀ {u v : va_W} {Wx : List (Nat × Nat × Nat)}, ai_fr [] u v → ai_fr Wx u v := fun h => fr_sub (V := []) (fun _ _ _ q hq => by cases hq) h
  refine law2 (P1 := fun w z1 => sn_P ad tys kn (sx (i + 2)).toInt N ws w ∧ z1.toInt = 1) (P2 := fun wa _ w z1 => shm_P ad tys kn (sx (i + 2)).toInt N wa w ∧ z1.toInt = 1) (rets1 := [23, 30, 42]) (rets2 := [31, 38, 83]) C e0 e49 hi hL hw (n := 3) (cmp := false) (by decide) lr_sheetA lr_sheetB lr_sheetC (q1 := (147, 0, 89, 3, 5)) (tv_m169.1.1.1 (1139, .invokevirtual 147, 3) (List.mem_of_getElem? (i := 773) rfl)) (tv_m169.2 _ (List.mem_of_getElem? (i := 64) rfl)) rfl rfl rfl rfl (by decide) (Nat.le_of_ble_eq_true rfl) rfl rfl (q2 := (150, 0, 164, 3, 6)) (tv_m169.1.1.1 (1159, .invokevirtual 150, 3) (List.mem_of_getElem? (i := 791) rfl)) (tv_m169.2 _ (List.mem_of_getElem? (i := 65) rfl)) rfl rfl rfl rfl (by decide) (Nat.le_of_ble_eq_true rfl) rfl rfl r1 r2 ?_ (fun wa z1 h => h.1.1) ?_ (fun wa z1 wb z2 h1 h2 => ⟨h2.1.1, fun _ => Int32.toInt_inj.mp (by rw [h1.2, h2.2])⟩) ?_
  · intro p e R s m args below meth c Q w hw' hf C2 kk
    exact shc_all C2 hw' e0 e41 eR hk4 (by omega) hkn hla hN (fun w' z' lv hP hz => kk 42 w' z' lv (by decide) ⟨⟨hP.1, (n0 hf).tr hP.2.1, hP.2.2⟩, hz⟩)
  · intro p e R s m args below meth c Q wa z1 w hP1 hw' hf C2 kk
    exact shm_all C2 hw' e49 e59 hk4 (by omega) hkn hla hN (fun w' z' lv hP hz => kk 83 w' z' lv (by decide) ⟨⟨hP.1, (n0 hf).tr hP.2.1, hP.2.2⟩, hz⟩)
  · intro wa z1 wb z2 wc h1 h2 hwc hf
    refine k wc hwc ?_
    obtain ⟨⟨-, fa, v42, v43, vx⟩, -⟩ := h1
    obtain ⟨⟨-, fb, w57, w58, wx⟩, -⟩ := h2
    have fx : ai_fr shW ws wc := ((fr_sub (fun cc j h q hq => by
        have h1 := h (42, 0, 4) (by unfold shW; simp)
        have h2 := h (43, 0, 4) (by unfold shW; simp)
        have h3 := h (45, 0, 40) (by unfold shW; simp)
        have h4 := h (46, 0, 40) (by unfold shW; simp)
        have h5 := h (47, 0, 40) (by unfold shW; simp)
        have h6 := h (48, 0, 40) (by unfold shW; simp)
        simp only [List.mem_cons, List.not_mem_nil, or_false] at hq
        rcases hq with rfl | rfl | rfl <;> dsimp only at h1 h2 h3 h4 h5 h6 ⊢ <;> omega) fa).tr (fr_sub (fun cc j h q hq => by
        have h1 := h (57, 0, 4) (by unfold shW; simp)
        have h2 := h (58, 0, 4) (by unfold shW; simp)
        have h3 := h (59, 0, 160) (by unfold shW; simp)
        simp only [List.mem_cons, List.not_mem_nil, or_false] at hq
        rcases hq with rfl | rfl | rfl <;> dsimp only at h1 h2 h3 ⊢ <;> omega) fb)).tr (n0 hf)
    have na : ∀ {cc i : Nat}, cc ≠ 42 → cc ≠ 43 → cc ≠ 45 + kn → ai_wr [(42, kn, kn + 1), (43, kn, kn + 1), (45 + kn, 0, 40)] cc i i = false := fun {cc i} x1 x2 x3 => wr_no fun q hq => by
      simp only [List.mem_cons, List.not_mem_nil, or_false] at hq
      rcases hq with rfl | rfl | rfl <;> dsimp only <;> omega
    have nb : ∀ {cc i : Nat}, cc ≠ 57 → cc ≠ 58 → cc ≠ 59 → ai_wr [(57, kn, kn + 1), (58, kn, kn + 1), (59, 40 * kn, 40 * kn + 40)] cc i i = false := fun {cc i} x1 x2 x3 => wr_no fun q hq => by
      simp only [List.mem_cons, List.not_mem_nil, or_false] at hq
      rcases hq with rfl | rfl | rfl <;> dsimp only <;> omega
    have pa : ∀ {cc j : Nat}, (cc = 42 ∨ cc = 43) → j ≠ kn → ai_wr [(42, kn, kn + 1), (43, kn, kn + 1), (45 + kn, 0, 40)] cc j j = false := fun {cc j} x1 x2 => wr_no fun q hq => by
      simp only [List.mem_cons, List.not_mem_nil, or_false] at hq
      rcases hq with rfl | rfl | rfl <;> dsimp only <;> omega
    have pb : ∀ {cc j : Nat}, (cc = 57 ∨ cc = 58) → j ≠ kn → ai_wr [(57, kn, kn + 1), (58, kn, kn + 1), (59, 40 * kn, 40 * kn + 40)] cc j j = false := fun {cc j} x1 x2 => wr_no fun q hq => by
      simp only [List.mem_cons, List.not_mem_nil, or_false] at hq
      rcases hq with rfl | rfl | rfl <;> dsimp only <;> omega
    obtain ⟨⟨Lk, Nk, Xk, hcs, hms⟩, hse⟩ := hs
    refine Inv.sheets hb hp hi0 hi1 hwc fx (by decide) ⟨⟨fun j => if j = kn then (sx (i + 2)).toInt else Lk j, fun j => if j = kn then N else Nk j, fun j => if j = kn then fun _ => 0 else Xk j, fun j hj => ?_, fun j hj => ?_⟩, hse.fr fx (by decide)⟩
    · by_cases hjk : j = kn
      · subst hjk
        dsimp only
        rw [if_pos rfl, if_pos rfl, if_pos rfl]
        exact ⟨(v42.fr fb (nb (by omega) (by omega) (by omega))).fr hf rfl, (v43.fr fb (nb (by omega) (by omega) (by omega))).fr hf rfl, ⟨by omega, Or.inr hla⟩, fun i hi => ((vx i hi).fr fb (nb (by omega) (by omega) (by omega))).fr hf rfl⟩
      · obtain ⟨x1, x2, x3, x4⟩ := hcs j hj
        dsimp only
        rw [if_neg hjk, if_neg hjk, if_neg hjk]
        exact ⟨((x1.fr fa (pa (Or.inl rfl) hjk)).fr fb (nb (by omega) (by omega) (by omega))).fr hf rfl, ((x2.fr fa (pa (Or.inr rfl) hjk)).fr fb (nb (by omega) (by omega) (by omega))).fr hf rfl, x3, fun i hi => (((x4 i hi).fr fa (na (by omega) (by omega) (by omega))).fr fb (nb (by omega) (by omega) (by omega))).fr hf rfl⟩
    · by_cases hjk : j = kn
      · subst hjk
        simp only [eq_self, if_true]
        rw [if_neg (by omega)]
        exact ⟨w57.fr hf rfl, w58.fr hf rfl, ⟨by omega, Or.inr hla⟩, fun i hi => (wx i hi).fr hf rfl⟩
      · obtain ⟨x1, x2, x3, x4⟩ := hms j hj
        simp only [if_neg hjk]
        exact ⟨((x1.fr fa (na (by omega) (by omega) (by omega))).fr fb (pb (Or.inl rfl) hjk)).fr hf rfl, ((x2.fr fa (na (by omega) (by omega) (by omega))).fr fb (pb (Or.inr rfl) hjk)).fr hf rfl, x3, fun i hi => (((x4 i hi).fr fa (na (by omega) (by omega) (by omega))).fr fb (wr_no fun q hq => by
          simp only [List.mem_cons, List.not_mem_nil, or_false] at hq
          have := x3.1
          rcases hq with rfl | rfl | rfl <;> dsimp only <;> omega)).fr hf rfl⟩
end SHL
end
