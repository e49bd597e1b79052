/-! renew, sheet -/
def sn_e (lo hi : Int) : List ai_e := [(0, 0, false, 0, 0), (0, 2555, false, 1, 0), (0, 40, false, 2, 0), (lo, hi, false, 3, 0)]
def sn_lo (k : Nat) : List (Nat × ai_v) := [(0, (0, 41, 0, 0)), (1, (1, 0, 0, (k : Int))), (3, (1, 2, 0, 0)), (4, (1, 3, 0, 0))]
theorem sn_1 : ((List.range 4).all fun k => (ai_ex (hk [(42, k, k + 1), (43, k, k + 1)]) 60 40 tb_m40 9 [17] (0, [(0, (0, 41, 0, 0)), (1, (1, 0, 0, (k : Int))), (2, (1, 2, 0, 0)), (3, (1, 3, 0, 0))], [], [(0, 0, false, 0, 0), (0, 2555, false, 1, 0), (0, 2, false, 2, 0), (0, 40, false, 3, 0)], [], [])).any fun xs => xs.all fun x => ([(17, [(0, (0, 41, 0, 0)), (1, (1, 0, 0, (k : Int))), (3, (1, 3, 0, 0)), (4, (1, 0, 0, 0))], [], [(1, 2, 0, 0), (1, 3, 0, 0)], [(0, 0, false, 0, 0), (0, 2555, false, 1, 0), (0, 2, false, 2, 0), (0, 40, false, 3, 0)], [])] : List sm_t).any fun t => sm_is [(42, k), (43, k)] x t) = true := by decide +kernel
theorem sn_2 : ((List.range 4).all fun k => (ai_ex (hk []) 60 40 tb_m40 9 [32] (19, sn_lo k, [(1, 3, 0, 0)], sn_e 0 40, [], [])).any fun xs => xs.all fun x => ([(39, [], [], [], sn_e 0 40, [(5, 3, 2, 3, 0)]), (32, sn_lo k, [(1, 0, 0, 0), (1, 3, 0, 0), (0, 45 + k, 0, 0)], [], [(0, 0, false, 0, 0), (0, 2555, false, 1, 0), (1, 40, false, 2, 0), (0, 39, false, 3, 0)], [(4, 3, 2, 3, 0)])] : List sm_t).any fun t => sm_is [] x t) = true := by decide +kernel
theorem sn_3 : ((List.range 4).all fun k => (ai_ex (hk []) 60 40 tb_m40 9 [17] (33, sn_lo k, [], sn_e 0 39, [], [])).any fun xs => xs.all fun x => ([(17, [(0, (0, 41, 0, 0)), (1, (1, 0, 0, (k : Int))), (3, (1, 2, 0, 0)), (4, (1, 3, 0, 1))], [], [], sn_e 0 39, [])] : List sm_t).any fun t => sm_is [] x t) = true := by decide +kernel
def sm4_lo (k : Nat) : List (Nat × ai_v) := [(0, (0, 49, 0, 0)), (1, (1, 0, 0, (k : Int))), (4, (1, 2, 0, 0))]
def sm4_e (lo hi : Int) : List ai_e := [(0, 0, false, 0, 0), (0, 2555, false, 1, 0), (lo, hi, false, 2, 0)]
theorem sm4_1 : ((List.range 4).all fun k => (ai_ex (hk [(57, k, k + 1), (58, k, k + 1)]) 60 164 tb_m164 10 [56] (39, [(0, (0, 49, 0, 0)), (1, (1, 0, 0, (k : Int))), (2, (1, 2, 0, 0)), (3, (1, 3, 0, 0))], [], [(0, 0, false, 0, 0), (0, 2555, false, 1, 0), (0, 2, false, 2, 0), (0, 40, false, 3, 0)], [], [])).any fun xs => xs.all fun x => ([(56, [(0, (0, 49, 0, 0)), (1, (1, 0, 0, (k : Int))), (4, (1, 0, 0, 0))], [], [(1, 2, 0, 0), (1, 3, 0, 0)], [(0, 0, false, 0, 0), (0, 2555, false, 1, 0), (0, 2, false, 2, 0), (0, 40, false, 3, 0)], [])] : List sm_t).any fun t => sm_is [(57, k), (58, k)] x t) = true := by decide +kernel
theorem sm4_2 : ((List.range 4).all fun k => (ai_ex (hk []) 60 164 tb_m164 10 [75] (58, sm4_lo k, [(1, 2, 0, 0)], sm4_e 0 40, [], [])).any fun xs => xs.all fun x => ([(83, [], [(1, 0, 0, 1)], [], sm4_e 40 40, []), (75, sm4_lo k, [(1, 0, 0, 0), (1, 2, 0, 40 * (k : Int)), (0, 59, 0, 0)], [], sm4_e 0 39, [])] : List sm_t).any fun t => sm_is [] x t) = true := by decide +kernel
theorem sm4_3 : ((List.range 4).all fun k => (ai_ex (hk []) 60 164 tb_m164 10 [56] (76, sm4_lo k, [], sm4_e 0 39, [], [])).any fun xs => xs.all fun x => ([(56, [(0, (0, 49, 0, 0)), (1, (1, 0, 0, (k : Int))), (4, (1, 2, 0, 1))], [], [], sm4_e 0 39, [])] : List sm_t).any fun t => sm_is [] x t) = true := by decide +kernel
section SHN
variable {ad : List Nat} {p : Program} {l : Launch} {e : Env} {R : Room} {s : State} {m : MethodId} {args : Array Value} {below : List Frame} {meth : Method} {c : Code} {D : va_G} {tys : ai_ty} {A : Nat → Prop} {b L : Nat} {sx : Nat → Int32} {cells slots : Nat} {Q : State → Prop}
theorem sn_loop {a aR k N : Nat} {zk zn : Int32} {ws0 : va_W} (C : ai_cx tb_m40 9 p R s m args c D tys A b L sx cells slots) (ha : ad[41]? = some a) (haR : ad[45 + k]? = some aR) (hk : k < 4) (hN : N ≤ 40) (ek : zk.toInt = k) (en : zn.toInt = N)
    (kk : ∀ (ws' : va_W) (lv' : List (Nat × Value)), ai_wd tb_TY ad tys ws' → ai_fr [(45 + k, 0, 40)] ws0 ws' → (∀ j, j < N → vi ws' (45 + k) j 0) → hG tb_m40 p l e R s m args below meth c D A cells slots Q 39 lv' [] ws') :
    ∀ (f i : Nat) (zi : Int32) (ws : va_W), i + f = N → zi.toInt = i → ai_wd tb_TY ad tys ws → ai_fr [(45 + k, 0, 40)] ws0 ws → (∀ j, j < i → vi ws (45 + k) j 0) → hG tb_m40 p l e R s m args below meth c D A cells slots Q 17 [(0, .ref a), (1, .int zk), (3, .int zn), (4, .int zi)] [] ws := by
  intro f
  induction f with
  | zero =>
    intro i zi ws hif ezi hw hfr hv
    refine hild (j := 4) (x := zi) C (tv_m40.1.1.1 (17, .iload 4, 2) (List.mem_of_getElem? (i := 12) rfl)) (by simp) ?_
    refine hsum (st := (19, sn_lo k, [(1, 3, 0, 0)], sn_e 0 40, [], [])) (List.all_eq_true.mp sn_2 k (List.mem_range.mpr hk)) rfl C (r := [0, 0, (N : Int), (i : Int)]) ⟨en_mk (by simp only [sn_e, en_b, and_true]; omega) rfl, sb0, ⟨rfl, Or.inl ⟨rfl, a, ha, rfl⟩, rfl, int_dv (z := 0) rfl (by omega), rfl, int_dv (z := (N : Int)) rfl (by omega), rfl, int_dv (z := (i : Int)) rfl (by omega), trivial⟩, ⟨int_dv (z := (i : Int)) rfl (by omega), trivial⟩, hw, k0, fun _ _ _ _ h => h, fun h => by cases h⟩ (fun x hx r' lv' sk' ws' hx' hb hl hs hlo hsk hw' hv' hf _ => ?_)
    rcases List.mem_cons.mp hx with rfl | hx
    · cases hsk.nil
      exact kk ws' lv' hw' (hfr.tr (fr_sub (V := []) (fun _ _ _ q hq => by cases hq) hf)) (fun j hj => (hv j (by omega)).fr hf rfl)
    · have hx2 := List.mem_singleton.mp hx
      subst hx2
      simp (config := { decide := true }) only [bnd_b, lin_b, lin_q, Nat.reduceAdd, Nat.zero_add, Nat.reduceEqDiff, reduceIte, and_true, Int.add_zero] at hb hl
      have h2 := nm_x hx' (k := 2) rfl
      have h3 := nm_x hx' (k := 3) rfl
      exfalso
      omega
  | succ f ih =>
    intro i zi ws hif ezi hw hfr hv
    refine hild (j := 4) (x := zi) C (tv_m40.1.1.1 (17, .iload 4, 2) (List.mem_of_getElem? (i := 12) rfl)) (by simp) ?_
    refine hsum (st := (19, sn_lo k, [(1, 3, 0, 0)], sn_e 0 40, [], [])) (List.all_eq_true.mp sn_2 k (List.mem_range.mpr hk)) rfl C (r := [0, 0, (N : Int), (i : Int)]) ⟨en_mk (by simp only [sn_e, en_b, and_true]; omega) rfl, sb0, ⟨rfl, Or.inl ⟨rfl, a, ha, rfl⟩, rfl, int_dv (z := 0) rfl (by omega), rfl, int_dv (z := (N : Int)) rfl (by omega), rfl, int_dv (z := (i : Int)) rfl (by omega), trivial⟩, ⟨int_dv (z := (i : Int)) rfl (by omega), trivial⟩, hw, k0, fun _ _ _ _ h => h, fun h => by cases h⟩ (fun x hx r' lv' sk' ws' hx' hb hl hs hlo hsk hw' hv' hf _ => ?_)
    have h0 := nm_x hx' (k := 0) rfl
    have h2 := nm_x hx' (k := 2) rfl
    have h3 := nm_x hx' (k := 3) rfl
    rcases List.mem_cons.mp hx with rfl | hx
    · simp (config := { decide := true }) only [bnd_b, lin_b, lin_q, Nat.reduceAdd, Nat.zero_add, Nat.reduceEqDiff, reduceIte, and_true, Int.add_zero] at hb hl
      exfalso
      omega
    · have hx2 := List.mem_singleton.mp hx
      subst hx2
      obtain ⟨lv1, rfl, pz1⟩ := lo_ref ha hlo
      obtain ⟨y1, lv2, rfl, d1, pz2⟩ := lo_int rfl pz1
      obtain ⟨y2, lv3, rfl, d2, pz3⟩ := lo_int rfl pz2
      obtain ⟨y3, lv4, rfl, d3, pz4⟩ := lo_int rfl pz3
      cases lo_nil pz4
      obtain ⟨x1, s1, rfl, e1, g4⟩ := hsk.cons
      obtain ⟨x2, s2, rfl, e2, g5⟩ := g4.cons
      obtain ⟨x3, s3, rfl, e3, g6⟩ := g5.cons
      cases g6.nil
      obtain ⟨zv, rfl, hzv⟩ := int_of rfl e1
      obtain ⟨zx, rfl, hzx⟩ := int_of rfl e2
      have f3 := ref_of haR e3
      subst f3
      unfold vn at d1 d2 d3 hzv hzx
      dsimp only at d1 d2 d3 hzv hzx
      have hzi : zx.toInt.toNat = i := by omega
      refine hast (c0 := 45 + k) (n := 40) C (tv_m40.1.1.1 (32, .iastore, 1) (List.mem_of_getElem? (i := 21) rfl)) (cd_T hk) hw' haR (by omega) (by omega) (fun ws2 hw2 hf2 v2 => ?_)
      rw [hzi] at hf2 v2
      refine hsum (st := (33, sn_lo k, [], sn_e 0 39, [], [])) (List.all_eq_true.mp sn_3 k (List.mem_range.mpr hk)) rfl C (r := [0, 0, (N : Int), (i : Int)]) ⟨en_mk (by simp only [sn_e, en_b, and_true]; omega) rfl, sb0, ⟨rfl, Or.inl ⟨rfl, a, ha, rfl⟩, rfl, int_dv (z := 0) rfl (by omega), rfl, int_dv (z := (N : Int)) rfl (by omega), rfl, int_dv (z := (i : Int)) rfl (by omega), trivial⟩, trivial, hw2, k0, fun _ _ _ _ h => h, fun h => by cases h⟩ (fun x hx r3 lv5 sk5 ws3 hx3 hb3 hl3 hs3 hlo3 hsk3 hw3 hv3 hf3 _ => ?_)
      rw [List.mem_singleton.mp hx] at hlo3 hsk3 ⊢
      obtain ⟨lv1, rfl, pz1⟩ := lo_ref ha hlo3
      obtain ⟨u1, lv2, rfl, t1, pz2⟩ := lo_int rfl pz1
      obtain ⟨u2, lv3, rfl, t2, pz3⟩ := lo_int rfl pz2
      obtain ⟨u3, lv4, rfl, t3, pz4⟩ := lo_int rfl pz3
      cases lo_nil pz4
      cases hsk3.nil
      unfold vn at t1 t2 t3
      rw [nm_x hx3 (k := 0) rfl] at t1
      rw [nm_x hx3 (k := 2) rfl] at t2
      rw [nm_x hx3 (k := 3) rfl] at t3
      dsimp only at t1 t2 t3
      have r1 : u1 = zk := Int32.toInt_inj.mp (by omega)
      have r2 : u2 = zn := Int32.toInt_inj.mp (by omega)
      subst r1 r2
      refine ih (i + 1) u3 ws3 (by omega) (by omega) hw3 ((hfr.tr (fr_sub (V := []) (fun _ _ _ q hq => by cases hq) hf)).tr ((fr_sub (fun cc j h q hq => ?_) hf2).tr (fr_sub (V := []) (fun _ _ _ q hq => by cases hq) hf3))) (fun j hj => ?_)
      · have h1 := h (45 + k, 0, 40) (by simp)
        rw [List.mem_singleton.mp hq]
        dsimp only at h1 ⊢
        omega
      · by_cases hji : j = i
        · subst hji
          exact (v2.fr hf3 rfl).eq (by omega)
        · exact (((hv j (by omega)).fr hf rfl).fr hf2 (wr_no fun q hq => by
            rw [List.mem_singleton.mp hq]
            dsimp only
            omega)).fr hf3 rfl
/-- what renew leaves -/
def sn_P (ad : List Nat) (tys : ai_ty) (k : Nat) (la : Int) (N : Nat) (ws ws' : va_W) : Prop := ai_wd tb_TY ad tys ws' ∧ ai_fr [(42, k, k + 1), (43, k, k + 1), (45 + k, 0, 40)] ws ws' ∧ vi ws' 42 k la ∧ vi ws' 43 k N ∧ ∀ j, j < N → vi ws' (45 + k) j 0
theorem sn_all {a aR k N : Nat} {la : Int} {zk zl zn : Int32} {ws : va_W} (C : ai_cx tb_m40 9 p R s m args c D tys A b L sx cells slots) (hw : ai_wd tb_TY ad tys ws) (ha : ad[41]? = some a) (haR : ad[45 + k]? = some aR) (hk : k < 4) (hN : N ≤ 40) (hla : 0 ≤ la ∧ la ≤ 2) (ek : zk.toInt = k) (el : zl.toInt = la) (en : zn.toInt = N)
    (kk : ∀ (pcr : Nat) (ws' : va_W) (lv' : List (Nat × Value)), pcr ∈ [39] → sn_P ad tys k la N ws ws' → hG tb_m40 p l e R s m args below meth c D A cells slots Q pcr lv' [] ws') : hG tb_m40 p l e R s m args below meth c D A cells slots Q 0 [(0, .ref a), (1, .int zk), (2, .int zl), (3, .int zn)] [] ws := by
  refine hsum (List.all_eq_true.mp sn_1 k (List.mem_range.mpr hk)) rfl C (r := [0, 0, la, (N : Int)]) ⟨en_mk (by simp only [en_b, and_true]; omega) rfl, sb0, ⟨rfl, Or.inl ⟨rfl, a, ha, rfl⟩, rfl, int_dv (z := 0) rfl (by omega), rfl, int_dv (z := la) rfl (by omega), rfl, int_dv (z := (N : Int)) rfl (by omega), trivial⟩, trivial, hw, k0, fun _ _ _ _ h => h, fun h => by cases h⟩ (fun x hx r' lv' sk' ws' hx' hb hl hs hlo hsk hw' hv' hf _ => ?_)
  have hx4 := List.mem_singleton.mp hx
  subst hx4
  obtain ⟨lv1, rfl, pz1⟩ := lo_ref ha hlo
  obtain ⟨y1, lv2, rfl, d1, pz2⟩ := lo_int rfl pz1
  obtain ⟨y2, lv3, rfl, d2, pz3⟩ := lo_int rfl pz2
  obtain ⟨y3, lv4, rfl, d3, pz4⟩ := lo_int rfl pz3
  cases lo_nil pz4
  cases hsk.nil
  unfold vn at d1 d2 d3
  rw [nm_x hx' (k := 0) rfl] at d1 d3
  rw [nm_x hx' (k := 3) rfl] at d2
  dsimp only at d1 d2 d3
  obtain ⟨v42, v43, -⟩ := hv'
  refine sn_loop (ws0 := ws') C ha haR hk hN (by omega) (by omega) (fun ws2 lv2 hw2 hf2 hv2 => kk 39 ws2 lv2 (by decide) ⟨hw2, (fr_sub (fun cc j h q hq => ?_) hf).tr (fr_sub (fun cc j h q hq => ?_) hf2), ?_, ?_, hv2⟩) N 0 y3 ws' (by omega) (by omega) hw' (fun _ _ _ _ h => h) (fun j hj => absurd hj (Nat.not_lt_zero _))
  · have h1 := h (42, k, k + 1) (by simp)
    have h2 := h (43, k, k + 1) (by simp)
    simp only [List.mem_cons, List.not_mem_nil, or_false] at hq
    rcases hq with rfl | rfl <;> dsimp only at h1 h2 ⊢ <;> omega
  · have h1 := h (45 + k, 0, 40) (by simp)
    rw [List.mem_singleton.mp hq]
    dsimp only at h1 ⊢
    omega
  · exact (v42.eq (by rw [nm_x hx' (k := 2) rfl]; dsimp only; omega)).fr hf2 (wr_no fun q hq => by
      rw [List.mem_singleton.mp hq]
      dsimp only
      omega)
  · exact (v43.eq (by rw [nm_x hx' (k := 3) rfl]; dsimp only; omega)).fr hf2 (wr_no fun q hq => by
      rw [List.mem_singleton.mp hq]
      dsimp only
      omega)
end SHN
