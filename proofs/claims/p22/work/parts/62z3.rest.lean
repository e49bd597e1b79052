/-! rests: how strong after so many -/
def ev_rest (E : Nat → Int) (n : Nat) : Nat → Int := ev_up E 16 (min 20 (E 16 + 2 * (n : Int)))
theorem vi.eq {ws : va_W} {k i : Nat} {z y : Int} (h : vi ws k i z) (e : z = y) : vi ws k i y := by
  rw [← e]
  exact h
section RST
variable {ad : List Nat} {p : Program} {l : Launch} {e : Env} {R : Room} {s : State} {m : MethodId} {args : Array Value} {below : List Frame} {meth : Method} {c : Code} {D : va_G} {tys : ai_ty} {A : Nat → Prop} {b L : Nat} {sx : Nat → Int32} {cells slots : Nat} {Q : State → Prop}
theorem lo_int {r : List Int} {i : Nat} {v : ai_v} {lo : List (Nat × ai_v)} {lv : List (Nat × Value)} (hv : v.1 = 1) (h : ai_lo ad b r ((i, v) :: lo) lv) : ∃ (z : Int32) (lv2 : List (Nat × Value)), lv = (i, .int z) :: lv2 ∧ z.toInt = vn r v ∧ ai_lo ad b r lo lv2 := by
  cases lv with
  | nil => exact h.elim
  | cons y ys =>
    obtain ⟨h1, h2, h3⟩ := h
    obtain ⟨y1, y2⟩ := y
    rcases h2 with ⟨q, -⟩ | ⟨-, z, j, h4, h5, h6⟩ | ⟨q, -⟩ | ⟨q, -⟩ | ⟨q, -⟩
    · exact absurd (hv.symm.trans q) (by decide)
    · cases h1
      cases h5
      refine ⟨j, ys, rfl, ?_, h3⟩
      unfold vn
      rw [nm_of h4]
      exact h6
    all_goals exact absurd (hv.symm.trans q) (by decide)
theorem lo_ref {r : List Int} {i cl a : Nat} {lo : List (Nat × ai_v)} {lv : List (Nat × Value)} (ha : ad[cl]? = some a) (h : ai_lo ad b r ((i, (0, cl, 0, 0)) :: lo) lv) : ∃ lv2 : List (Nat × Value), lv = (i, .ref a) :: lv2 ∧ ai_lo ad b r lo lv2 := by
  cases lv with
  | nil => exact h.elim
  | cons y ys =>
    obtain ⟨h1, h2, h3⟩ := h
    obtain ⟨y1, y2⟩ := y
    rcases h2 with ⟨-, q, q1, q2⟩ | ⟨q, -⟩ | ⟨q, -⟩ | ⟨q, -⟩ | ⟨q, -⟩
    · cases h1
      cases q2
      rw [Option.some.inj (q1.symm.trans ha)]
      exact ⟨ys, rfl, h3⟩
    all_goals exact absurd (show (0 : Nat) = _ from q) (by decide)
theorem lo_nil {r : List Int} {lv : List (Nat × Value)} (h : ai_lo ad b r [] lv) : lv = [] := by
  cases lv with
  | nil => rfl
  | cons y ys => exact h.elim
def cr_W : List (Nat × Nat × Nat) := [(1, 1, 1 + 1)]
def cr_lo : List (Nat × ai_v) := [(0, (0, 0, 0, 0)), (1, (1, 2, 0, 0)), (2, (1, 3, 0, 0))]
def cr_0 : ai_s := (0, [(0, (0, 0, 0, 0)), (1, (1, 2, 0, 0))], [], [(0, 0, false, 0, 0), (0, 2555, false, 1, 0), (0, 20, false, 2, 0)], [], [])
def cr_h : ai_s := (14, cr_lo, [], [(0, 0, false, 0, 0), (0, 2555, false, 1, 0), (0, 20, false, 2, 0), (0, 20, false, 3, 0), (0, 20, false, 4, 0)], [(1, 1, (1, 4, 0, 0))], [])
def cr_i : ai_s := (26, cr_lo, [], [(0, 0, false, 0, 0), (0, 2555, false, 1, 0), (0, 20, false, 2, 0), (0, 19, false, 3, 0)], [], [])
def cr_n (lo hi : Int) : ai_s := (0, [(0, (0, 0, 0, 0)), (1, (1, 2, 0, 0))], [], [(0, 0, false, 0, 0), (0, 2555, false, 1, 0), (lo, hi, false, 2, 0)], [], [])
def cr_S0 : List sm_t := [(14, [(0, (0, 0, 0, 0)), (1, (1, 2, 0, 0)), (2, (1, 0, 0, 0))], [], [], [(0, 0, false, 0, 0), (0, 2555, false, 1, 0), (0, 20, false, 2, 0)], [])]
def cr_SH : List sm_t := [
  (39, [], [(1, 4, 0, 0)], [(1, 4, 0, 0)], [(0, 0, false, 0, 0), (0, 2555, false, 1, 0), (0, 20, false, 2, 0), (0, 20, false, 3, 0), (0, 20, false, 4, 0)], [(5, 3, 2, 3, 0)]),
  (26, [(0, (0, 0, 0, 0)), (1, (1, 2, 0, 0)), (2, (1, 3, 0, 0))], [], [(1, 5, 0, 20)], [(0, 0, false, 0, 0), (0, 2555, false, 1, 0), (1, 20, false, 2, 0), (0, 19, false, 3, 0), (0, 20, false, 4, 0), (-18, 0, false, 5, 0)], [(141, 0, 4, 5, -18), (4, 3, 2, 3, 0)])]
def cr_SI : List sm_t := [(14, [(0, (0, 0, 0, 0)), (1, (1, 2, 0, 0)), (2, (1, 3, 0, 1))], [], [], [(0, 0, false, 0, 0), (0, 2555, false, 1, 0), (0, 20, false, 2, 0), (0, 19, false, 3, 0)], [])]
theorem cr_r0 : ((ai_ex (hk []) 60 61 tb_m61 10 [14] cr_0).any fun xs => xs.all fun x => cr_S0.any fun t => sm_is [] x t) = true := by decide +kernel
theorem cr_rh : ((ai_ex (hk cr_W) 90 61 tb_m61 10 [26] cr_h).any fun xs => xs.all fun x => cr_SH.any fun t => sm_is [(1, 1)] x t) = true := by decide +kernel
theorem cr_ri : ((ai_ex (hk []) 20 61 tb_m61 10 [14] cr_i).any fun xs => xs.all fun x => cr_SI.any fun t => sm_is [] x t) = true := by decide +kernel
theorem cr_n1 : ((ai_ex (hk []) 60 61 tb_m61 10 [14] (cr_n (-2147483648) (-1))).any fun xs => xs.all (pl_bad 11)) = true := by decide +kernel
theorem cr_n2 : ((ai_ex (hk []) 60 61 tb_m61 10 [14] (cr_n 21 2147483647)).any fun xs => xs.all (pl_bad 11)) = true := by decide +kernel
set_option maxHeartbeats 1000000 in
theorem cr_loop {a N : Nat} {s0 : Int} {zn : Int32} {ws0 : va_W} (C : ai_cx tb_m61 10 p R s m args c D tys A b L sx cells slots) (ha : ad[0]? = some a) (b0 : 0 ≤ s0 ∧ s0 ≤ 20) (hN : N ≤ 20) (hzn : zn.toInt = N)
    (k : ∀ (ws' : va_W) (z' : Int32) (lv' : List (Nat × Value)), ai_wd tb_TY ad tys ws' → ai_fr cr_W ws0 ws' → vi ws' 1 1 (min 20 (s0 + 2 * (N : Int))) → z'.toInt = min 20 (s0 + 2 * (N : Int)) → hG tb_m61 p l e R s m args below meth c D A cells slots Q 39 lv' [.int z'] ws') :
    ∀ (f i : Nat) (zi : Int32) (ws : va_W), i + f = N → zi.toInt = i → ai_wd tb_TY ad tys ws → ai_fr cr_W ws0 ws → vi ws 1 1 (min 20 (s0 + 2 * (i : Int))) → hG tb_m61 p l e R s m args below meth c D A cells slots Q 14 [(0, .ref a), (1, .int zn), (2, .int zi)] [] ws := by
  intro f
  induction f with
  | zero =>
    intro i zi ws hif hzi hw hfr hv0
    have more : ∀ (r' : List Int) (lv' : List (Nat × Value)) (sk' : List Value) (ws' : va_W), ai_x [0, 0, (N : Int), (i : Int), min 20 (s0 + 2 * (i : Int))] r' → ai_lo ad b r' cr_lo lv' → ai_sk ad b r' [] sk' → ai_wd tb_TY ad tys ws' → ai_fr cr_W ws ws' → i < N → vi ws' 1 1 (min 20 (s0 + 2 * ((i : Int) + 1))) → hG tb_m61 p l e R s m args below meth c D A cells slots Q 26 lv' sk' ws' := fun _ _ _ _ _ _ _ _ _ h => absurd h (by omega)
    refine hsum (st := cr_h) cr_rh rfl C (r := [0, 0, (N : Int), (i : Int), min 20 (s0 + 2 * (i : Int))]) ⟨en_mk (by simp only [cr_h, en_b, and_true]; omega) rfl, sb0, ⟨rfl, Or.inl ⟨rfl, a, ha, rfl⟩, rfl, int_dv (z := (N : Int)) rfl (by omega), rfl, int_dv (z := (i : Int)) rfl (by omega), trivial⟩, trivial, hw, kc (hv0.kn (n := 4) (t := min 20 (s0 + 2 * (i : Int))) rfl (by omega)) k0, fun _ _ _ _ h => h, fun h => by cases h⟩ (fun x hx r' lv' sk' ws' hx' hb hl hs hlo hsk hw' hv hf _ => ?_)
    unfold cr_SH at hx
    rcases List.mem_cons.mp hx with rfl | hx
    · -- the end
      simp (config := { decide := true }) only [bnd_b, lin_b, lin_q, Nat.reduceAdd, Nat.zero_add, Nat.reduceEqDiff, reduceIte, and_true, Int.add_zero] at hb hl
      have hx2 := nm_x hx' (k := 2) rfl
      have hx3 := nm_x hx' (k := 3) rfl
      have hx4 := nm_x hx' (k := 4) rfl
      have hx0 := nm_x hx' (k := 0) rfl
      obtain ⟨w1, -⟩ := hv
      obtain ⟨z', rfl, hz'⟩ := sk1 rfl hsk
      unfold vn at hz'
      have hiN : i = N := by omega
      subst hiN
      exact k ws' z' lv' hw' (hfr.tr hf) (w1.eq (by dsimp only; omega)) (by rw [hz']; dsimp only; omega)
    rcases List.mem_cons.mp hx with rfl | hx
    · -- one rest more
      simp (config := { decide := true }) only [bnd_b, lin_b, lin_q, Nat.reduceAdd, Nat.zero_add, Nat.reduceEqDiff, reduceIte, and_true, Int.add_zero] at hb hl
      have hx2 := nm_x hx' (k := 2) rfl
      have hx3 := nm_x hx' (k := 3) rfl
      have hx4 := nm_x hx' (k := 4) rfl
      have hx0 := nm_x hx' (k := 0) rfl
      obtain ⟨w1, -⟩ := hv
      exact more r' lv' sk' ws' hx' hlo hsk hw' hf (by omega) (w1.eq (by dsimp only; omega))
    · cases hx
  | succ f ih =>
    intro i zi ws hif hzi hw hfr hv0
    have more : ∀ (r' : List Int) (lv' : List (Nat × Value)) (sk' : List Value) (ws' : va_W), ai_x [0, 0, (N : Int), (i : Int), min 20 (s0 + 2 * (i : Int))] r' → ai_lo ad b r' cr_lo lv' → ai_sk ad b r' [] sk' → ai_wd tb_TY ad tys ws' → ai_fr cr_W ws ws' → i < N → vi ws' 1 1 (min 20 (s0 + 2 * ((i : Int) + 1))) → hG tb_m61 p l e R s m args below meth c D A cells slots Q 26 lv' sk' ws' := by
      intro r' lv' sk' ws' hx' hlo hsk hw' hf hlt hv
      obtain ⟨lv1, rfl, pz1⟩ := lo_ref ha hlo
      obtain ⟨z1, lv2, rfl, e1, pz2⟩ := lo_int rfl pz1
      obtain ⟨z2, lv3, rfl, e2, pz3⟩ := lo_int rfl pz2
      cases lo_nil pz3
      cases hsk.nil
      unfold vn at e1 e2
      rw [nm_x hx' (k := 2) rfl] at e1
      rw [nm_x hx' (k := 3) rfl] at e2
      dsimp only at e1 e2
      refine hsum (st := cr_i) cr_ri rfl C (r := [0, 0, (N : Int), (i : Int)]) ⟨en_mk (by simp only [cr_i, en_b, and_true]; omega) rfl, sb0, ⟨rfl, Or.inl ⟨rfl, a, ha, rfl⟩, rfl, int_dv (z := (N : Int)) rfl (by omega), rfl, int_dv (z := (i : Int)) rfl (by omega), trivial⟩, trivial, hw', k0, fun _ _ _ _ h => h, fun h => by cases h⟩ (fun x hx r2 lv4 sk4 ws2 hx2 hb hl hs hlo2 hsk2 hw2 hv2 hf2 _ => ?_)
      rw [List.mem_singleton.mp hx] at hlo2 hsk2 ⊢
      obtain ⟨lv1, rfl, pz1⟩ := lo_ref ha hlo2
      obtain ⟨y1, lv2, rfl, d1, pz2⟩ := lo_int rfl pz1
      obtain ⟨y2, lv3, rfl, d2, pz3⟩ := lo_int rfl pz2
      cases lo_nil pz3
      cases hsk2.nil
      unfold vn at d1 d2
      rw [nm_x hx2 (k := 2) rfl] at d1
      rw [nm_x hx2 (k := 3) rfl] at d2
      dsimp only at d1 d2
      have hy1 : y1 = zn := Int32.toInt_inj.mp (by omega)
      subst hy1
      exact ih (i + 1) y2 ws2 (by omega) (by omega) hw2 ((hfr.tr hf).tr (wsub_ok (V := []) rfl hf2)) ((hv.fr hf2 rfl).eq (by omega))
    refine hsum (st := cr_h) cr_rh rfl C (r := [0, 0, (N : Int), (i : Int), min 20 (s0 + 2 * (i : Int))]) ⟨en_mk (by simp only [cr_h, en_b, and_true]; omega) rfl, sb0, ⟨rfl, Or.inl ⟨rfl, a, ha, rfl⟩, rfl, int_dv (z := (N : Int)) rfl (by omega), rfl, int_dv (z := (i : Int)) rfl (by omega), trivial⟩, trivial, hw, kc (hv0.kn (n := 4) (t := min 20 (s0 + 2 * (i : Int))) rfl (by omega)) k0, fun _ _ _ _ h => h, fun h => by cases h⟩ (fun x hx r' lv' sk' ws' hx' hb hl hs hlo hsk hw' hv hf _ => ?_)
    unfold cr_SH at hx
    rcases List.mem_cons.mp hx with rfl | hx
    · -- the end
      simp (config := { decide := true }) only [bnd_b, lin_b, lin_q, Nat.reduceAdd, Nat.zero_add, Nat.reduceEqDiff, reduceIte, and_true, Int.add_zero] at hb hl
      have hx2 := nm_x hx' (k := 2) rfl
      have hx3 := nm_x hx' (k := 3) rfl
      have hx4 := nm_x hx' (k := 4) rfl
      have hx0 := nm_x hx' (k := 0) rfl
      obtain ⟨w1, -⟩ := hv
      obtain ⟨z', rfl, hz'⟩ := sk1 rfl hsk
      unfold vn at hz'
      have hiN : i = N := by omega
      subst hiN
      exact k ws' z' lv' hw' (hfr.tr hf) (w1.eq (by dsimp only; omega)) (by rw [hz']; dsimp only; omega)
    rcases List.mem_cons.mp hx with rfl | hx
    · -- one rest more
      simp (config := { decide := true }) only [bnd_b, lin_b, lin_q, Nat.reduceAdd, Nat.zero_add, Nat.reduceEqDiff, reduceIte, and_true, Int.add_zero] at hb hl
      have hx2 := nm_x hx' (k := 2) rfl
      have hx3 := nm_x hx' (k := 3) rfl
      have hx4 := nm_x hx' (k := 4) rfl
      have hx0 := nm_x hx' (k := 0) rfl
      obtain ⟨w1, -⟩ := hv
      exact more r' lv' sk' ws' hx' hlo hsk hw' hf (by omega) (w1.eq (by dsimp only; omega))
    · cases hx

def cr_P (ad : List Nat) (tys : ai_ty) (s0 z : Int) (ws ws' : va_W) (z' : Int32) : Prop := ai_wd tb_TY ad tys ws' ∧ (if 0 ≤ z ∧ z ≤ 20 then ai_fr cr_W ws ws' ∧ vi ws' 1 1 (min 20 (s0 + 2 * z)) ∧ z'.toInt = min 20 (s0 + 2 * z) else ai_fr [] ws ws' ∧ z'.toInt = -1)
theorem cr_all {a : Nat} {s0 : Int} {z : Int32} {ws : va_W} (C : ai_cx tb_m61 10 p R s m args c D tys A b L sx cells slots) (hw : ai_wd tb_TY ad tys ws) (ha : ad[0]? = some a) (b0 : 0 ≤ s0 ∧ s0 ≤ 20) (hv0 : vi ws 1 1 (s0))
    (k : ∀ (pcr : Nat) (ws' : va_W) (z' : Int32) (lv' : List (Nat × Value)), pcr ∈ [11, 39] → cr_P ad tys s0 z.toInt ws ws' z' → hG tb_m61 p l e R s m args below meth c D A cells slots Q pcr lv' [.int z'] ws') : hG tb_m61 p l e R s m args below meth c D A cells slots Q 0 [(0, .ref a), (1, .int z)] [] ws := by
  have hz1 := Int32.le_toInt z
  have hz2 := Int32.toInt_lt z
  by_cases hin : 0 ≤ z.toInt ∧ z.toInt ≤ 20
  · obtain ⟨N, hNz⟩ : ∃ N : Nat, z.toInt = (N : Int) := ⟨z.toInt.toNat, by omega⟩
    refine hsum (st := cr_0) cr_r0 rfl C (r := [0, 0, z.toInt]) ⟨en_mk (by simp only [cr_0, en_b, and_true]; omega) rfl, sb0, ⟨rfl, Or.inl ⟨rfl, a, ha, rfl⟩, rfl, int_dv (z := z.toInt) rfl (by omega), trivial⟩, trivial, hw, k0, fun _ _ _ _ h => h, fun h => by cases h⟩ (fun x hx r2 lv4 sk4 ws2 hx2 hb hl hs hlo2 hsk2 hw2 hv2 hf2 _ => ?_)
    rw [List.mem_singleton.mp hx] at hlo2 hsk2 ⊢
    obtain ⟨lv1, rfl, pz1⟩ := lo_ref ha hlo2
    obtain ⟨y1, lv2, rfl, d1, pz2⟩ := lo_int rfl pz1
    obtain ⟨y2, lv3, rfl, d2, pz3⟩ := lo_int rfl pz2
    cases lo_nil pz3
    cases hsk2.nil
    unfold vn at d1 d2
    rw [nm_x hx2 (k := 2) rfl] at d1
    rw [nm_x hx2 (k := 0) rfl] at d2
    dsimp only at d1 d2
    have hy1 : y1 = z := Int32.toInt_inj.mp (by omega)
    subst hy1
    refine cr_loop (ws0 := ws) C ha b0 (N := N) (by omega) hNz (fun ws' z' lv' hw' hf hv hz => ?_) N 0 y2 ws2 (by omega) (by omega) hw2 (wsub_ok (V := []) rfl hf2) ((hv0.fr hf2 rfl).eq (by omega))
    refine k 39 ws' z' lv' (by decide) ⟨hw', ?_⟩
    rw [if_pos hin]
    exact ⟨hf, hv.eq (by omega), by omega⟩
  · have fin : ∀ {lo hi : Int}, ((ai_ex (hk []) 60 61 tb_m61 10 [14] (cr_n lo hi)).any fun xs => xs.all (pl_bad 11)) = true → lo ≤ z.toInt → z.toInt ≤ hi → hG tb_m61 p l e R s m args below meth c D A cells slots Q 0 [(0, .ref a), (1, .int z)] [] ws := fun {lo hi} hrun h1 h2 => by
      obtain ⟨xs, y1, y2⟩ := ai_anyE hrun
      refine hseg (st := cr_n lo hi) (r := [0, 0, z.toInt]) y1 rfl C ⟨en_mk (by simp only [cr_n, en_b, and_true]; omega) rfl, sb0, ⟨rfl, Or.inl ⟨rfl, a, ha, rfl⟩, rfl, int_dv (z := z.toInt) rfl (by omega), trivial⟩, trivial, hw, k0, fun _ _ _ _ h => h, fun h => by cases h⟩ (fun x hx r' lv' sk' ws' hx' g' => ?_)
      obtain ⟨g1, g2, g3, g4, g5, g6, g7, g8⟩ := g'
      have hb := List.all_eq_true.mp y2 x hx
      unfold pl_bad at hb
      rw [Bool.and_eq_true, ai_beq, decide_eq_true_eq] at hb
      rw [hb.2] at g4
      obtain ⟨i, rfl, hi⟩ := sk1 rfl g4
      rw [hb.1]
      refine k 11 ws' i lv' (by decide) ⟨g5, ?_⟩
      rw [if_neg hin]
      refine ⟨g7, ?_⟩
      rw [hi]
      unfold vn
      rw [nm_x hx' (k := 0) rfl]
      rfl
    by_cases hneg : z.toInt < 0
    · exact fin cr_n1 (by omega) (by omega)
    · exact fin cr_n2 (by omega) (by omega)
def mr_W : List (Nat × Nat × Nat) := [(50, 16, 16 + 1)]
def mr_lo : List (Nat × ai_v) := [(0, (0, 49, 0, 0)), (1, (1, 2, 0, 0)), (2, (1, 3, 0, 0))]
def mr_0 : ai_s := (0, [(0, (0, 49, 0, 0)), (1, (1, 2, 0, 0))], [], [(0, 0, false, 0, 0), (0, 2555, false, 1, 0), (0, 20, false, 2, 0)], [], [])
def mr_h : ai_s := (16, mr_lo, [], [(0, 0, false, 0, 0), (0, 2555, false, 1, 0), (0, 20, false, 2, 0), (0, 20, false, 3, 0), (0, 20, false, 4, 0)], [(50, 16, (1, 4, 0, -10))], [])
def mr_i : ai_s := (26, mr_lo, [], [(0, 0, false, 0, 0), (0, 2555, false, 1, 0), (0, 20, false, 2, 0), (0, 19, false, 3, 0)], [], [])
def mr_n (lo hi : Int) : ai_s := (0, [(0, (0, 49, 0, 0)), (1, (1, 2, 0, 0))], [], [(0, 0, false, 0, 0), (0, 2555, false, 1, 0), (lo, hi, false, 2, 0)], [], [])
def mr_S0 : List sm_t := [(16, [(0, (0, 49, 0, 0)), (1, (1, 2, 0, 0)), (2, (1, 0, 0, 0))], [], [], [(0, 0, false, 0, 0), (0, 2555, false, 1, 0), (0, 20, false, 2, 0)], [])]
def mr_SH : List sm_t := [
  (37, [], [(1, 4, 0, 0)], [(1, 4, 0, -10)], [(0, 0, false, 0, 0), (0, 2555, false, 1, 0), (0, 20, false, 2, 0), (0, 20, false, 3, 0), (0, 20, false, 4, 0)], [(5, 3, 2, 3, 0)]),
  (26, [(0, (0, 49, 0, 0)), (1, (1, 2, 0, 0)), (2, (1, 3, 0, 0))], [], [(1, 4, 0, -8)], [(0, 0, false, 0, 0), (0, 2555, false, 1, 0), (1, 20, false, 2, 0), (0, 19, false, 3, 0), (0, 18, false, 4, 0)], [(4, 3, 2, 3, 0)]),
  (26, [(0, (0, 49, 0, 0)), (1, (1, 2, 0, 0)), (2, (1, 3, 0, 0))], [], [(1, 0, 0, 10)], [(0, 0, false, 0, 0), (0, 2555, false, 1, 0), (1, 20, false, 2, 0), (0, 19, false, 3, 0), (19, 20, false, 4, 0)], [(4, 3, 2, 3, 0)])]
def mr_SI : List sm_t := [(16, [(0, (0, 49, 0, 0)), (1, (1, 2, 0, 0)), (2, (1, 3, 0, 1))], [], [], [(0, 0, false, 0, 0), (0, 2555, false, 1, 0), (0, 20, false, 2, 0), (0, 19, false, 3, 0)], [])]
theorem mr_r0 : ((ai_ex (hk []) 60 133 tb_m133 10 [16] mr_0).any fun xs => xs.all fun x => mr_S0.any fun t => sm_is [] x t) = true := by decide +kernel
theorem mr_rh : ((ai_ex (hk mr_W) 90 133 tb_m133 10 [26] mr_h).any fun xs => xs.all fun x => mr_SH.any fun t => sm_is [(50, 16)] x t) = true := by decide +kernel
theorem mr_ri : ((ai_ex (hk []) 20 133 tb_m133 10 [16] mr_i).any fun xs => xs.all fun x => mr_SI.any fun t => sm_is [] x t) = true := by decide +kernel
theorem mr_n1 : ((ai_ex (hk []) 60 133 tb_m133 10 [16] (mr_n (-2147483648) (-1))).any fun xs => xs.all (pl_bad 13)) = true := by decide +kernel
theorem mr_n2 : ((ai_ex (hk []) 60 133 tb_m133 10 [16] (mr_n 21 2147483647)).any fun xs => xs.all (pl_bad 13)) = true := by decide +kernel
set_option maxHeartbeats 1000000 in
theorem mr_loop {a N : Nat} {s0 : Int} {zn : Int32} {ws0 : va_W} (C : ai_cx tb_m133 10 p R s m args c D tys A b L sx cells slots) (ha : ad[49]? = some a) (b0 : 0 ≤ s0 ∧ s0 ≤ 20) (hN : N ≤ 20) (hzn : zn.toInt = N)
    (k : ∀ (ws' : va_W) (z' : Int32) (lv' : List (Nat × Value)), ai_wd tb_TY ad tys ws' → ai_fr mr_W ws0 ws' → vi ws' 50 16 (min 20 (s0 + 2 * (N : Int)) - 10) → z'.toInt = min 20 (s0 + 2 * (N : Int)) → hG tb_m133 p l e R s m args below meth c D A cells slots Q 37 lv' [.int z'] ws') :
    ∀ (f i : Nat) (zi : Int32) (ws : va_W), i + f = N → zi.toInt = i → ai_wd tb_TY ad tys ws → ai_fr mr_W ws0 ws → vi ws 50 16 (min 20 (s0 + 2 * (i : Int)) - 10) → hG tb_m133 p l e R s m args below meth c D A cells slots Q 16 [(0, .ref a), (1, .int zn), (2, .int zi)] [] ws := by
  intro f
  induction f with
  | zero =>
    intro i zi ws hif hzi hw hfr hv0
    have more : ∀ (r' : List Int) (lv' : List (Nat × Value)) (sk' : List Value) (ws' : va_W), ai_x [0, 0, (N : Int), (i : Int), min 20 (s0 + 2 * (i : Int))] r' → ai_lo ad b r' mr_lo lv' → ai_sk ad b r' [] sk' → ai_wd tb_TY ad tys ws' → ai_fr mr_W ws ws' → i < N → vi ws' 50 16 (min 20 (s0 + 2 * ((i : Int) + 1)) - 10) → hG tb_m133 p l e R s m args below meth c D A cells slots Q 26 lv' sk' ws' := fun _ _ _ _ _ _ _ _ _ h => absurd h (by omega)
    refine hsum (st := mr_h) mr_rh rfl C (r := [0, 0, (N : Int), (i : Int), min 20 (s0 + 2 * (i : Int))]) ⟨en_mk (by simp only [mr_h, en_b, and_true]; omega) rfl, sb0, ⟨rfl, Or.inl ⟨rfl, a, ha, rfl⟩, rfl, int_dv (z := (N : Int)) rfl (by omega), rfl, int_dv (z := (i : Int)) rfl (by omega), trivial⟩, trivial, hw, kc (hv0.kn (n := 4) (t := min 20 (s0 + 2 * (i : Int))) rfl (by omega)) k0, fun _ _ _ _ h => h, fun h => by cases h⟩ (fun x hx r' lv' sk' ws' hx' hb hl hs hlo hsk hw' hv hf _ => ?_)
    unfold mr_SH at hx
    rcases List.mem_cons.mp hx with rfl | hx
    · -- the end
      simp (config := { decide := true }) only [bnd_b, lin_b, lin_q, Nat.reduceAdd, Nat.zero_add, Nat.reduceEqDiff, reduceIte, and_true, Int.add_zero] at hb hl
      have hx2 := nm_x hx' (k := 2) rfl
      have hx3 := nm_x hx' (k := 3) rfl
      have hx4 := nm_x hx' (k := 4) rfl
      have hx0 := nm_x hx' (k := 0) rfl
      obtain ⟨w1, -⟩ := hv
      obtain ⟨z', rfl, hz'⟩ := sk1 rfl hsk
      unfold vn at hz'
      have hiN : i = N := by omega
      subst hiN
      exact k ws' z' lv' hw' (hfr.tr hf) (w1.eq (by dsimp only; omega)) (by rw [hz']; dsimp only; omega)
    rcases List.mem_cons.mp hx with rfl | hx
    · -- one rest more
      simp (config := { decide := true }) only [bnd_b, lin_b, lin_q, Nat.reduceAdd, Nat.zero_add, Nat.reduceEqDiff, reduceIte, and_true, Int.add_zero] at hb hl
      have hx2 := nm_x hx' (k := 2) rfl
      have hx3 := nm_x hx' (k := 3) rfl
      have hx4 := nm_x hx' (k := 4) rfl
      have hx0 := nm_x hx' (k := 0) rfl
      obtain ⟨w1, -⟩ := hv
      exact more r' lv' sk' ws' hx' hlo hsk hw' hf (by omega) (w1.eq (by dsimp only; omega))
    rcases List.mem_cons.mp hx with rfl | hx
    · -- one rest more
      simp (config := { decide := true }) only [bnd_b, lin_b, lin_q, Nat.reduceAdd, Nat.zero_add, Nat.reduceEqDiff, reduceIte, and_true, Int.add_zero] at hb hl
      have hx2 := nm_x hx' (k := 2) rfl
      have hx3 := nm_x hx' (k := 3) rfl
      have hx4 := nm_x hx' (k := 4) rfl
      have hx0 := nm_x hx' (k := 0) rfl
      obtain ⟨w1, -⟩ := hv
      exact more r' lv' sk' ws' hx' hlo hsk hw' hf (by omega) (w1.eq (by dsimp only; omega))
    · cases hx
  | succ f ih =>
    intro i zi ws hif hzi hw hfr hv0
    have more : ∀ (r' : List Int) (lv' : List (Nat × Value)) (sk' : List Value) (ws' : va_W), ai_x [0, 0, (N : Int), (i : Int), min 20 (s0 + 2 * (i : Int))] r' → ai_lo ad b r' mr_lo lv' → ai_sk ad b r' [] sk' → ai_wd tb_TY ad tys ws' → ai_fr mr_W ws ws' → i < N → vi ws' 50 16 (min 20 (s0 + 2 * ((i : Int) + 1)) - 10) → hG tb_m133 p l e R s m args below meth c D A cells slots Q 26 lv' sk' ws' := by
      intro r' lv' sk' ws' hx' hlo hsk hw' hf hlt hv
      obtain ⟨lv1, rfl, pz1⟩ := lo_ref ha hlo
      obtain ⟨z1, lv2, rfl, e1, pz2⟩ := lo_int rfl pz1
      obtain ⟨z2, lv3, rfl, e2, pz3⟩ := lo_int rfl pz2
      cases lo_nil pz3
      cases hsk.nil
      unfold vn at e1 e2
      rw [nm_x hx' (k := 2) rfl] at e1
      rw [nm_x hx' (k := 3) rfl] at e2
      dsimp only at e1 e2
      refine hsum (st := mr_i) mr_ri rfl C (r := [0, 0, (N : Int), (i : Int)]) ⟨en_mk (by simp only [mr_i, en_b, and_true]; omega) rfl, sb0, ⟨rfl, Or.inl ⟨rfl, a, ha, rfl⟩, rfl, int_dv (z := (N : Int)) rfl (by omega), rfl, int_dv (z := (i : Int)) rfl (by omega), trivial⟩, trivial, hw', k0, fun _ _ _ _ h => h, fun h => by cases h⟩ (fun x hx r2 lv4 sk4 ws2 hx2 hb hl hs hlo2 hsk2 hw2 hv2 hf2 _ => ?_)
      rw [List.mem_singleton.mp hx] at hlo2 hsk2 ⊢
      obtain ⟨lv1, rfl, pz1⟩ := lo_ref ha hlo2
      obtain ⟨y1, lv2, rfl, d1, pz2⟩ := lo_int rfl pz1
      obtain ⟨y2, lv3, rfl, d2, pz3⟩ := lo_int rfl pz2
      cases lo_nil pz3
      cases hsk2.nil
      unfold vn at d1 d2
      rw [nm_x hx2 (k := 2) rfl] at d1
      rw [nm_x hx2 (k := 3) rfl] at d2
      dsimp only at d1 d2
      have hy1 : y1 = zn := Int32.toInt_inj.mp (by omega)
      subst hy1
      exact ih (i + 1) y2 ws2 (by omega) (by omega) hw2 ((hfr.tr hf).tr (wsub_ok (V := []) rfl hf2)) ((hv.fr hf2 rfl).eq (by omega))
    refine hsum (st := mr_h) mr_rh rfl C (r := [0, 0, (N : Int), (i : Int), min 20 (s0 + 2 * (i : Int))]) ⟨en_mk (by simp only [mr_h, en_b, and_true]; omega) rfl, sb0, ⟨rfl, Or.inl ⟨rfl, a, ha, rfl⟩, rfl, int_dv (z := (N : Int)) rfl (by omega), rfl, int_dv (z := (i : Int)) rfl (by omega), trivial⟩, trivial, hw, kc (hv0.kn (n := 4) (t := min 20 (s0 + 2 * (i : Int))) rfl (by omega)) k0, fun _ _ _ _ h => h, fun h => by cases h⟩ (fun x hx r' lv' sk' ws' hx' hb hl hs hlo hsk hw' hv hf _ => ?_)
    unfold mr_SH at hx
    rcases List.mem_cons.mp hx with rfl | hx
    · -- the end
      simp (config := { decide := true }) only [bnd_b, lin_b, lin_q, Nat.reduceAdd, Nat.zero_add, Nat.reduceEqDiff, reduceIte, and_true, Int.add_zero] at hb hl
      have hx2 := nm_x hx' (k := 2) rfl
      have hx3 := nm_x hx' (k := 3) rfl
      have hx4 := nm_x hx' (k := 4) rfl
      have hx0 := nm_x hx' (k := 0) rfl
      obtain ⟨w1, -⟩ := hv
      obtain ⟨z', rfl, hz'⟩ := sk1 rfl hsk
      unfold vn at hz'
      have hiN : i = N := by omega
      subst hiN
      exact k ws' z' lv' hw' (hfr.tr hf) (w1.eq (by dsimp only; omega)) (by rw [hz']; dsimp only; omega)
    rcases List.mem_cons.mp hx with rfl | hx
    · -- one rest more
      simp (config := { decide := true }) only [bnd_b, lin_b, lin_q, Nat.reduceAdd, Nat.zero_add, Nat.reduceEqDiff, reduceIte, and_true, Int.add_zero] at hb hl
      have hx2 := nm_x hx' (k := 2) rfl
      have hx3 := nm_x hx' (k := 3) rfl
      have hx4 := nm_x hx' (k := 4) rfl
      have hx0 := nm_x hx' (k := 0) rfl
      obtain ⟨w1, -⟩ := hv
      exact more r' lv' sk' ws' hx' hlo hsk hw' hf (by omega) (w1.eq (by dsimp only; omega))
    rcases List.mem_cons.mp hx with rfl | hx
    · -- one rest more
      simp (config := { decide := true }) only [bnd_b, lin_b, lin_q, Nat.reduceAdd, Nat.zero_add, Nat.reduceEqDiff, reduceIte, and_true, Int.add_zero] at hb hl
      have hx2 := nm_x hx' (k := 2) rfl
      have hx3 := nm_x hx' (k := 3) rfl
      have hx4 := nm_x hx' (k := 4) rfl
      have hx0 := nm_x hx' (k := 0) rfl
      obtain ⟨w1, -⟩ := hv
      exact more r' lv' sk' ws' hx' hlo hsk hw' hf (by omega) (w1.eq (by dsimp only; omega))
    · cases hx

def mr_P (ad : List Nat) (tys : ai_ty) (s0 z : Int) (ws ws' : va_W) (z' : Int32) : Prop := ai_wd tb_TY ad tys ws' ∧ (if 0 ≤ z ∧ z ≤ 20 then ai_fr mr_W ws ws' ∧ vi ws' 50 16 (min 20 (s0 + 2 * z) - 10) ∧ z'.toInt = min 20 (s0 + 2 * z) else ai_fr [] ws ws' ∧ z'.toInt = -1)
theorem mr_all {a : Nat} {s0 : Int} {z : Int32} {ws : va_W} (C : ai_cx tb_m133 10 p R s m args c D tys A b L sx cells slots) (hw : ai_wd tb_TY ad tys ws) (ha : ad[49]? = some a) (b0 : 0 ≤ s0 ∧ s0 ≤ 20) (hv0 : vi ws 50 16 (s0 - 10))
    (k : ∀ (pcr : Nat) (ws' : va_W) (z' : Int32) (lv' : List (Nat × Value)), pcr ∈ [13, 37] → mr_P ad tys s0 z.toInt ws ws' z' → hG tb_m133 p l e R s m args below meth c D A cells slots Q pcr lv' [.int z'] ws') : hG tb_m133 p l e R s m args below meth c D A cells slots Q 0 [(0, .ref a), (1, .int z)] [] ws := by
  have hz1 := Int32.le_toInt z
  have hz2 := Int32.toInt_lt z
  by_cases hin : 0 ≤ z.toInt ∧ z.toInt ≤ 20
  · obtain ⟨N, hNz⟩ : ∃ N : Nat, z.toInt = (N : Int) := ⟨z.toInt.toNat, by omega⟩
    refine hsum (st := mr_0) mr_r0 rfl C (r := [0, 0, z.toInt]) ⟨en_mk (by simp only [mr_0, en_b, and_true]; omega) rfl, sb0, ⟨rfl, Or.inl ⟨rfl, a, ha, rfl⟩, rfl, int_dv (z := z.toInt) rfl (by omega), trivial⟩, trivial, hw, k0, fun _ _ _ _ h => h, fun h => by cases h⟩ (fun x hx r2 lv4 sk4 ws2 hx2 hb hl hs hlo2 hsk2 hw2 hv2 hf2 _ => ?_)
    rw [List.mem_singleton.mp hx] at hlo2 hsk2 ⊢
    obtain ⟨lv1, rfl, pz1⟩ := lo_ref ha hlo2
    obtain ⟨y1, lv2, rfl, d1, pz2⟩ := lo_int rfl pz1
    obtain ⟨y2, lv3, rfl, d2, pz3⟩ := lo_int rfl pz2
    cases lo_nil pz3
    cases hsk2.nil
    unfold vn at d1 d2
    rw [nm_x hx2 (k := 2) rfl] at d1
    rw [nm_x hx2 (k := 0) rfl] at d2
    dsimp only at d1 d2
    have hy1 : y1 = z := Int32.toInt_inj.mp (by omega)
    subst hy1
    refine mr_loop (ws0 := ws) C ha b0 (N := N) (by omega) hNz (fun ws' z' lv' hw' hf hv hz => ?_) N 0 y2 ws2 (by omega) (by omega) hw2 (wsub_ok (V := []) rfl hf2) ((hv0.fr hf2 rfl).eq (by omega))
    refine k 37 ws' z' lv' (by decide) ⟨hw', ?_⟩
    rw [if_pos hin]
    exact ⟨hf, hv.eq (by omega), by omega⟩
  · have fin : ∀ {lo hi : Int}, ((ai_ex (hk []) 60 133 tb_m133 10 [16] (mr_n lo hi)).any fun xs => xs.all (pl_bad 13)) = true → lo ≤ z.toInt → z.toInt ≤ hi → hG tb_m133 p l e R s m args below meth c D A cells slots Q 0 [(0, .ref a), (1, .int z)] [] ws := fun {lo hi} hrun h1 h2 => by
      obtain ⟨xs, y1, y2⟩ := ai_anyE hrun
      refine hseg (st := mr_n lo hi) (r := [0, 0, z.toInt]) y1 rfl C ⟨en_mk (by simp only [mr_n, en_b, and_true]; omega) rfl, sb0, ⟨rfl, Or.inl ⟨rfl, a, ha, rfl⟩, rfl, int_dv (z := z.toInt) rfl (by omega), trivial⟩, trivial, hw, k0, fun _ _ _ _ h => h, fun h => by cases h⟩ (fun x hx r' lv' sk' ws' hx' g' => ?_)
      obtain ⟨g1, g2, g3, g4, g5, g6, g7, g8⟩ := g'
      have hb := List.all_eq_true.mp y2 x hx
      unfold pl_bad at hb
      rw [Bool.and_eq_true, ai_beq, decide_eq_true_eq] at hb
      rw [hb.2] at g4
      obtain ⟨i, rfl, hi⟩ := sk1 rfl g4
      rw [hb.1]
      refine k 13 ws' i lv' (by decide) ⟨g5, ?_⟩
      rw [if_neg hin]
      refine ⟨g7, ?_⟩
      rw [hi]
      unfold vn
      rw [nm_x hx' (k := 0) rfl]
      rfl
    by_cases hneg : z.toInt < 0
    · exact fin mr_n1 (by omega) (by omega)
    · exact fin mr_n2 (by omega) (by omega)
end RST
