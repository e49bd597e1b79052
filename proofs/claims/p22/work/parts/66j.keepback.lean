/-- all places of an evening, from one cell to another -/
def bcV (src dst : Nat) (ws ws' : va_W) : Prop := (∀ (j : Nat) (z : Int), j < 4 → vi ws src j z → vi ws' dst j z) ∧ (∀ (q j : Nat) (z : Int), q < 4 → j < 4 → vi ws (src + (1 + q)) j z → vi ws' (dst + (1 + q)) j z) ∧ ∀ (j : Nat) (z : Int), j < 8 → vi ws (src + 5) j z → vi ws' (dst + 5) j z
def csV (fr to : Nat) (ws ws' : va_W) : Prop := ∀ (j : Nat) (z : Int), j < 27 → vi ws 50 (fr + j) z → vi ws' 50 (to + j) z
section KBK
variable {ad : List Nat} {p : Program} {l : Launch} {e : Env} {R : Room} {s : State} {m : MethodId} {args : Array Value} {below : List Frame} {meth : Method} {c : Code} {D : va_G} {tys : ai_ty} {A : Nat → Prop} {b L : Nat} {sx : Nat → Int32} {cells slots : Nat} {Q : State → Prop}
theorem kb_T {k : Nat} (hk : k < 2) : ∃ F : List ai_f, tb_TY[13 + 6 * k]? = some (0, 0, F) := match k, hk with
  | 0, _ => ⟨_, rfl⟩
  | 1, _ => ⟨_, rfl⟩
  | k + 2, h => absurd h (by omega)
theorem kb_bc {k : Nat} (hk : k < 2) : bc_r 1 (13 + 6 * k) = true ∧ bc_r (13 + 6 * k) 1 = true ∧ bc_T (13 + 6 * k) := match k, hk with
  | 0, _ => ⟨bc_r3, bc_r5, bc_T13⟩
  | 1, _ => ⟨bc_r4, bc_r6, bc_T19⟩
  | k + 2, h => absurd h (by omega)
theorem kb_cs {k : Nat} (hk : k < 2) : cs_r 0 (27 + 27 * k) = true ∧ cs_r (27 + 27 * k) 0 = true ∧ cs_pt 0 = true ∧ cs_pt (27 + 27 * k) = true := match k, hk with
  | 0, _ => ⟨cs_r3, cs_r4, by decide +kernel, by decide +kernel⟩
  | 1, _ => ⟨cs_r5, cs_r6, by decide +kernel, by decide +kernel⟩
  | k + 2, h => absurd h (by omega)
def ck_P (ad : List Nat) (tys : ai_ty) (k v : Nat) (ws ws' : va_W) (z' : Int32) : Prop := ai_wd tb_TY ad tys ws' ∧ ai_fr (bc_W (13 + 6 * k) ++ [(25, k, k + 1)]) ws ws' ∧ vi ws' 25 k 1 ∧ bcV 1 (13 + 6 * k) ws ws' ∧ z'.toInt = v
theorem ck_all {a a1 aI k v : Nat} {z : Int32} {ws : va_W} (hk : k < 2) (hv : v < 2) (hz : z.toInt = k) (C : ai_cx tb_m86 10 p R s m args c D tys A b L sx cells slots) (hw : ai_wd tb_TY ad tys ws) (ha : ad[0]? = some a) (ha1 : ad[1]? = some a1) (haI : ad[13 + 6 * k]? = some aI) (h25 : vi ws 25 k v)
    (kk : ∀ (pcr : Nat) (ws' : va_W) (z' : Int32) (lv' : List (Nat × Value)), pcr ∈ [10, 46] → ck_P ad tys k v ws ws' z' → hG tb_m86 p l e R s m args below meth c D A cells slots Q pcr lv' [.int z'] ws') : hG tb_m86 p l e R s m args below meth c D A cells slots Q 0 [(0, .ref a), (1, .int z)] [] ws := by
  obtain ⟨F, hF⟩ := kb_T hk
  refine hsum (st := (0, kb_lo 0 k, [], kb_e, [(25, k, (1, 0, 0, (v : Int)))], [])) (kb_at ck_1 hk hv) rfl C ⟨kb_ok, sb0, kb_l2 ha hz, trivial, hw, kc (h25.kn (n := 0) (t := 0) rfl (by omega)) k0, fun _ _ _ _ h => h, fun h => by cases h⟩ (fun x hx r' lv' sk' ws1 hx' hb hl hs hlo hsk hw1 hv' hf1 _ => ?_)
  rw [List.mem_singleton.mp hx] at hlo hsk ⊢
  obtain ⟨lv1, rfl, pz1⟩ := lo_ref ha hlo
  obtain ⟨y1, lv2, rfl, d1, pz2⟩ := lo_int rfl pz1
  obtain ⟨y2, lv3, rfl, d2, pz3⟩ := lo_int rfl pz2
  cases lo_nil pz3
  unfold vn at d1 d2
  rw [nm_x hx' (k := 0) rfl] at d1 d2
  dsimp only at d1 d2
  obtain ⟨x1, s1, rfl, e1, g4⟩ := hsk.cons
  obtain ⟨x2, s2, rfl, e2, g5⟩ := g4.cons
  cases g5.nil
  have f1 := ref_of ha1 e1
  have f2 := ref_of haI e2
  subst f1 f2
  refine hcallV (q := (84, 0, 1, 1, 0)) (M' := tb_m1) (cl := 13 + 6 * k) (a := aI) (t := (0, 0, F)) (As := [.ref a1]) (rest := []) (rets := [103]) (P := bc_P ad tys 1 (13 + 6 * k) ws1) C (by decide) (tv_m86.1.1.1 (35, .invokevirtual 84, 3) (List.mem_of_getElem? (i := 21) rfl)) (tv_m86.2 _ (List.mem_of_getElem? (i := 3) rfl)) rfl rfl rfl rfl (by decide) (Nat.le_of_ble_eq_true rfl) rfl hF rfl rfl hw1 haI (by decide) ?_ ?_ ?_
  · intro pcr hp
    rw [List.mem_singleton.mp hp]
    exact tv_m1.1.1.1 (103, .return_, 1) (List.mem_of_getElem? (i := 56) rfl)
  · intro p2 e2 R2 s2 m2 args2 below2 meth2 c2 Q2 C2 kk2
    exact bc_all (kb_bc hk).1 bc_T1 (mm_cx (by decide) C2) hw1 haI ha1 (fun pcr w lv2 hp hP => kk2 pcr w lv2 hp hP)
  · intro ws2 hbc
    refine hsum (st := (38, [(0, (0, 0, 0, 0)), (1, (1, 0, 0, (k : Int))), (2, (1, 0, 0, (v : Int)))], [], kb_e, [], [])) (kb_at ck_2 hk hv) rfl C ⟨kb_ok, sb0, ⟨rfl, Or.inl ⟨rfl, a, ha, rfl⟩, rfl, int_dv (z := 0) rfl (by omega), rfl, int_dv (z := 0) rfl (by omega), trivial⟩, trivial, hbc.1, k0, fun _ _ _ _ h => h, fun h => by cases h⟩ (fun x hx r2 lv4 sk4 ws3 hx2 hb2 hl2 hs2 hlo2 hsk2 hw3 hv3 hf3 _ => ?_)
    have hx4 := List.mem_singleton.mp hx
    subst hx4
    obtain ⟨zz, rfl, hzz⟩ := sk1 rfl hsk2
    unfold vn at hzz
    rw [nm_x hx2 (k := 0) rfl] at hzz
    dsimp only at hzz
    obtain ⟨w25, -⟩ := hv3
    have nw : ∀ {cc i : Nat}, cc ≠ 25 → ai_wr [(25, k, k + 1)] cc i i = false := fun {cc i} hcc => wr_no fun q hq => by
      rw [List.mem_singleton.mp hq]
      dsimp only
      omega
    refine kk 46 ws3 zz lv4 (by decide) ⟨hw3, ?_, w25.eq (by rw [nm_x hx2 (k := 0) rfl]; rfl), ⟨fun j z hj hz => ?_, fun q j z hq hj hz => ?_, fun j z hj hz => ?_⟩, by omega⟩
    · refine ((fr_sub (V := []) (fun _ _ _ q hq => by cases hq) hf1).tr (fr_sub (fun cc i h q hq => ?_) hbc.2.1)).tr (fr_sub (fun cc i h q hq => ?_) hf3)
      · have h1 := h q (List.mem_append.mpr (Or.inl hq))
        unfold bc_W at hq
        simp only [List.mem_cons, List.not_mem_nil, or_false] at hq
        rcases hq with rfl | rfl | rfl | rfl | rfl | rfl <;> dsimp only at h1 ⊢ <;> omega
      · have h1 := h q (List.mem_append.mpr (Or.inr hq))
        rw [List.mem_singleton.mp hq] at h1 ⊢
        dsimp only at h1 ⊢
        omega
    · exact (hbc.2.2.1 j z hj (hz.fr hf1 rfl)).fr hf3 (nw (by omega))
    · exact (hbc.2.2.2.1 q j z hq hj (hz.fr hf1 rfl)).fr hf3 (nw (by omega))
    · exact (hbc.2.2.2.2 j z hj (hz.fr hf1 rfl)).fr hf3 (nw (by omega))
def mk_P (ad : List Nat) (tys : ai_ty) (k v : Nat) (ws ws' : va_W) (z' : Int32) : Prop := ai_wd tb_TY ad tys ws' ∧ ai_fr [(50, 27 + 27 * k, 54 + 27 * k), (56, k, k + 1)] ws ws' ∧ vi ws' 56 k 1 ∧ csV 0 (27 + 27 * k) ws ws' ∧ z'.toInt = v
theorem mk_all {a k v : Nat} {z : Int32} {ws : va_W} (hk : k < 2) (hv : v < 2) (hz : z.toInt = k) (C : ai_cx tb_m162 10 p R s m args c D tys A b L sx cells slots) (hw : ai_wd tb_TY ad tys ws) (ha : ad[49]? = some a) (h56 : vi ws 56 k v)
    (kk : ∀ (pcr : Nat) (ws' : va_W) (z' : Int32) (lv' : List (Nat × Value)), pcr ∈ [11, 46] → mk_P ad tys k v ws ws' z' → hG tb_m162 p l e R s m args below meth c D A cells slots Q pcr lv' [.int z'] ws') : hG tb_m162 p l e R s m args below meth c D A cells slots Q 0 [(0, .ref a), (1, .int z)] [] ws := by
  refine hsum (st := (0, kb_lo 49 k, [], kb_e, [], [])) (kb_at (v := 0) mk_1 hk (by decide)) rfl C ⟨kb_ok, sb0, kb_l2 ha hz, trivial, hw, k0, fun _ _ _ _ h => h, fun h => by cases h⟩ (fun x hx r' lv' sk' ws1 hx' hb hl hs hlo hsk hw1 hv' hf1 _ => ?_)
  rw [List.mem_singleton.mp hx] at hlo hsk ⊢
  obtain ⟨lv1, rfl, pz1⟩ := lo_ref ha hlo
  obtain ⟨y1, lv2, rfl, d1, pz2⟩ := lo_int rfl pz1
  cases lo_nil pz2
  unfold vn at d1
  rw [nm_x hx' (k := 0) rfl] at d1
  dsimp only at d1
  obtain ⟨x1, s1, rfl, e1, g4⟩ := hsk.cons
  obtain ⟨x2, s2, rfl, e2, g5⟩ := g4.cons
  obtain ⟨x3, s3, rfl, e3, g6⟩ := g5.cons
  cases g6.nil
  obtain ⟨zto, rfl, hzto⟩ := dvn e1 (hx'.at (k := 0) rfl)
  obtain ⟨zfr, rfl, hzfr⟩ := dvn e2 (hx'.at (k := 0) rfl)
  have f3 := ref_of ha e3
  subst f3
  refine hcallV (q := (174, 0, 134, 2, 6)) (M' := tb_m134) (cl := 49) (a := a) (As := [.int zfr, .int zto]) (rest := []) (rets := [30]) (P := cs_P ad tys 0 (27 + 27 * k) ws1) C (by decide) (tv_m162.1.1.1 (20, .invokevirtual 174, 3) (List.mem_of_getElem? (i := 15) rfl)) (tv_m162.2 _ (List.mem_of_getElem? (i := 21) rfl)) rfl rfl rfl rfl (by decide) (Nat.le_of_ble_eq_true rfl) rfl rfl rfl rfl hw1 ha (by decide) ?_ ?_ ?_
  · intro pcr hp
    rw [List.mem_singleton.mp hp]
    exact tv_m134.1.1.1 (30, .return_, 1) (List.mem_of_getElem? (i := 19) rfl)
  · intro p2 e2 R2 s2 m2 args2 below2 meth2 c2 Q2 C2 kk2
    exact cs_all (kb_cs hk).1 (kb_cs hk).2.2.1 (by decide) (mm_cx (by decide) C2) hw1 ha (by omega) (by omega) (fun pcr w lv2 hp hP => kk2 pcr w lv2 hp hP)
  · intro ws2 hcs
    have h56' : vi ws2 56 k v := (h56.fr hf1 rfl).fr hcs.2.1 rfl
    refine hsum (st := (23, kb_lo 49 k, [], kb_e, [(56, k, (1, 0, 0, (v : Int)))], [])) (kb_at mk_2 hk hv) rfl C ⟨kb_ok, sb0, kb_l2 ha (by omega), trivial, hcs.1, kc (h56'.kn (n := 0) (t := 0) rfl (by omega)) k0, fun _ _ _ _ h => h, fun h => by cases h⟩ (fun x hx r2 lv4 sk4 ws3 hx2 hb2 hl2 hs2 hlo2 hsk2 hw3 hv3 hf3 _ => ?_)
    have hx4 := List.mem_singleton.mp hx
    subst hx4
    obtain ⟨zz, rfl, hzz⟩ := sk1 rfl hsk2
    unfold vn at hzz
    rw [nm_x hx2 (k := 0) rfl] at hzz
    dsimp only at hzz
    obtain ⟨w56, -⟩ := hv3
    refine kk 46 ws3 zz lv4 (by decide) ⟨hw3, ?_, w56.eq (by rw [nm_x hx2 (k := 0) rfl]; rfl), fun j z hj hz => (hcs.2.2 j z hj (hz.fr hf1 rfl)).fr hf3 rfl, by omega⟩
    refine ((fr_sub (V := []) (fun _ _ _ q hq => by cases hq) hf1).tr (fr_sub (fun cc i h q hq => ?_) hcs.2.1)).tr (fr_sub (fun cc i h q hq => ?_) hf3)
    · have h1 := h (50, 27 + 27 * k, 54 + 27 * k) (by simp)
      rw [List.mem_singleton.mp hq]
      dsimp only at h1 ⊢
      omega
    · have h1 := h (56, k, k + 1) (by simp)
      rw [List.mem_singleton.mp hq]
      dsimp only at h1 ⊢
      omega
end KBK
