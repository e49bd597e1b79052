theorem lr_aheadA : lw_A 551 557 1 = true := by decide +kernel
theorem lr_aheadB : lw_B 557 566 1 true = true := by decide +kernel
theorem lr_aheadC : lw_C 566 true = true := by decide +kernel
/-! ahead, compared -/
theorem off8 {j : Nat} (hj : j < 81) : ai_wr tb_WR7 50 j j = false := wr_no fun q hq => by
  unfold tb_WR7 at hq
  simp only [List.mem_cons, List.not_mem_nil, or_false] at hq
  rcases hq with rfl | rfl | rfl | rfl | rfl | rfl | rfl | rfl | rfl | rfl <;> dsimp only <;> omega
theorem ah9_c0 : ((List.range 4).all fun w => (ai_ex (hk []) 200 63 tb_m63 10 [21] (0, [(0, (0, 0, 0, 0)), (1, (1, 0, 0, (w : Int)))], [], [(0, 0, false, 0, 0), (0, 2555, false, 1, 0), ((w : Int) + 1, 4, false, 2, 0)], [(1, 0, (1, 2, 0, 0))], [])).any fun xs => xs.all fun x => ([(21, [(0, (0, 0, 0, 0)), (1, (1, 0, 0, (w : Int)))], [(0, 1, 0, 0), (0, 7, 0, 0)], [], [(0, 0, false, 0, 0), (0, 2555, false, 1, 0), ((w : Int) + 1, 4, false, 2, 0)], [])] : List sm_t).any fun y => sm_is [] x y) = true := by decide +kernel
theorem ah9_c1 : ((List.range 4).all fun w => (ai_ex (hk []) 200 63 tb_m63 10 [28] (24, [(0, (0, 0, 0, 0)), (1, (1, 0, 0, (w : Int)))], [], [(0, 0, false, 0, 0), (0, 2555, false, 1, 0)], [], [])).any fun xs => xs.all fun x => ([(28, [(0, (0, 0, 0, 0)), (1, (1, 0, 0, (w : Int)))], [(0, 7, 0, 0)], [], [(0, 0, false, 0, 0), (0, 2555, false, 1, 0)], [])] : List sm_t).any fun y => sm_is [] x y) = true := by decide +kernel
theorem ah9_c2 : ((List.range 4).all fun w => (ai_ex (hk []) 200 63 tb_m63 10 [] (31, [(0, (0, 0, 0, 0)), (1, (1, 0, 0, (w : Int)))], [(1, 3, 0, 0)], [(0, 0, false, 0, 0), (0, 2555, false, 1, 0), (0, 99, false, 2, 0), (-4, 7, false, 3, 0)], [(10, w, (1, 2, 0, 0))], [])).any fun xs => xs.all fun x => ([(41, [], [(1, 2, 0, 0)], [], [(0, 0, false, 0, 0), (0, 2555, false, 1, 0), (0, 99, false, 2, 0), (-4, 7, false, 3, 0)], [])] : List sm_t).any fun y => sm_is [] x y) = true := by decide +kernel
theorem ah9_m0 : ((List.range 4).all fun w => (ai_ex (hk []) 200 138 tb_m138 10 [12] (0, [(0, (0, 49, 0, 0)), (1, (1, 0, 0, (w : Int)))], [], [(0, 0, false, 0, 0), (0, 2555, false, 1, 0), ((w : Int) + 1, 4, false, 2, 0)], [(49, 1, (1, 2, 0, 0))], [])).any fun xs => xs.all fun x => ([(12, [(0, (0, 49, 0, 0)), (1, (1, 0, 0, (w : Int)))], [(1, 0, 0, 0), (0, 49, 0, 0)], [], [(0, 0, false, 0, 0), (0, 2555, false, 1, 0), ((w : Int) + 1, 4, false, 2, 0)], [])] : List sm_t).any fun y => sm_is [] x y) = true := by decide +kernel
theorem ah9_m2 : ((List.range 4).all fun w => (ai_ex (hk []) 200 138 tb_m138 10 [] (15, [(0, (0, 49, 0, 0)), (1, (1, 0, 0, (w : Int)))], [], [(0, 0, false, 0, 0), (0, 2555, false, 1, 0), (0, 99, false, 2, 0)], [(50, 116 + w, (1, 2, 0, 0))], [])).any fun xs => xs.all fun x => ([(24, [], [(1, 2, 0, 0)], [], [(0, 0, false, 0, 0), (0, 2555, false, 1, 0), (0, 99, false, 2, 0)], [])] : List sm_t).any fun y => sm_is [] x y) = true := by decide +kernel
section X8R
variable {ad : List Nat} {M : ai_m} {d : Nat} {p : Program} {l : Launch} {e : Env} {R : Room} {s : State} {m : MethodId} {args : Array Value} {below : List Frame} {meth : Method} {c : Code} {D : va_G} {tys : ai_ty} {A : Nat → Prop} {b L : Nat} {sx : Nat → Int32} {cells slots : Nat} {Q : State → Prop}
theorem ah9_cls {a0 a1 a7 n a w : Nat} {E P : Nat → Int} {zw : Int32} {ws : va_W} (C : ai_cx tb_m63 10 p R s m args c D tys A b L sx cells slots) (ha0 : ad[0]? = some a0) (ha1 : ad[1]? = some a1) (ha7 : ad[7]? = some a7) (hn : n ≤ 4) (ha8 : a ≤ 8) (hg : good n E) (hP : ∀ j, j < a → P j = 4 ∨ (0 ≤ P j ∧ P j < n)) (hwk : w < 4) (hz : zw.toInt = w) (hwn : w < n) (hw : ai_wd tb_TY ad tys ws) (hv0 : vi ws 1 0 n) (hv3 : vi ws 1 3 a) (hp : ∀ j, j < a → vi ws 6 j (P j)) (hc : cev ws 1 n E)
    (kk : ∀ (pcr : Nat) (ws' : va_W) (z : Int32) (lv' : List (Nat × Value)), pcr ∈ [41] → ai_wd tb_TY ad tys ws' → ai_fr tb_WR7 ws ws' → z.toInt = plE P E a (8 + w) → hG tb_m63 p l e R s m args below meth c D A cells slots Q pcr lv' [.int z] ws') : hG tb_m63 p l e R s m args below meth c D A cells slots Q 0 [(0, .ref a0), (1, .int zw)] [] ws := by
  refine hsum (st := (0, [(0, (0, 0, 0, 0)), (1, (1, 0, 0, (w : Int)))], [], [(0, 0, false, 0, 0), (0, 2555, false, 1, 0), ((w : Int) + 1, 4, false, 2, 0)], [(1, 0, (1, 2, 0, 0))], [])) (List.all_eq_true.mp ah9_c0 w (List.mem_range.mpr (by omega))) rfl C (r := [0, 0, (n : Int)]) ⟨en_mk (by simp only [en_b, and_true]; omega) rfl, sb0, ⟨rfl, Or.inl ⟨rfl, a0, ha0, rfl⟩, rfl, int_dv (z := 0) rfl (by omega), trivial⟩, trivial, hw, kc (hv0.kn (n := 2) (t := (n : Int)) rfl (by omega)) k0, fun _ _ _ _ h => h, fun h => by cases h⟩ (fun x hx r' lv' sk' ws1 hx' hb hl hs hlo hsk hw1 hv' hf1 _ => ?_)
  have hx9 := List.mem_singleton.mp hx
  subst hx9
  dsimp only at hlo hsk ⊢
  obtain ⟨l1, rfl, p1⟩ := lo_ref ha0 hlo
  obtain ⟨yw, l2, rfl, dw, p2⟩ := lo_int rfl p1
  cases lo_nil p2
  rw [vn_at hx' (n := 0) (z := 0) rfl] at dw
  have ew : zw = yw := Int32.toInt_inj.mp (by omega)
  subst ew
  obtain ⟨x1, s1, rfl, d1, g4⟩ := hsk.cons
  obtain ⟨x2, s2, rfl, d2, g5⟩ := g4.cons
  cases g5.nil
  have e1 := ref_of ha1 d1
  have e2 := ref_of ha7 d2
  subst e1 e2
  refine hcallV (q := (84, 0, 1, 1, 0)) (M' := tb_m1) (cl := 7) (a := a7) (As := [.ref a1]) (rest := []) (rets := [103]) (P := bc_P ad tys 1 7 ws1) C (by decide) (tv_m63.1.1.1 (21, .invokevirtual 84, 3) (List.mem_of_getElem? (i := 11) rfl)) (tv_m63.2 _ (List.mem_of_getElem? (i := 3) rfl)) rfl rfl rfl rfl (by decide) (Nat.le_of_ble_eq_true rfl) rfl rfl rfl rfl hw1 ha7 (by decide) ?_ ?_ ?_
  · intro pcr hp
    rw [List.mem_singleton.mp hp]
    exact tv_m1.1.1.1 (103, .return_, 1) (List.mem_of_getElem? (i := 56) rfl)
  · intro p2 e2 R2 s2 m2 args2 below2 meth2 c2 Q2 C2 kk2
    exact bc_all bc_r1 bc_T1 (mm_cx (by decide) C2) hw1 ha7 ha1 (fun pcr w lv2 hp hP => kk2 pcr w lv2 hp hP)
  · intro ws2 hbc
    have f02 : ai_fr tb_WR7 ws ws2 := (wsub_ok (V := []) (by rfl) hf1).tr (wsub_ok (V := bc_W 7) (by decide) hbc.2.1)
    refine hsum (st := (24, [(0, (0, 0, 0, 0)), (1, (1, 0, 0, (w : Int)))], [], [(0, 0, false, 0, 0), (0, 2555, false, 1, 0)], [], [])) (List.all_eq_true.mp ah9_c1 w (List.mem_range.mpr (by omega))) rfl C (r := [0, 0]) ⟨en_mk (by simp only [en_b, and_true]; omega) rfl, sb0, ⟨rfl, Or.inl ⟨rfl, a0, ha0, rfl⟩, rfl, int_dv (z := 0) rfl (by omega), trivial⟩, trivial, hbc.1, k0, fun _ _ _ _ h => h, fun h => by cases h⟩ (fun x hx r3 lv3 sk3 ws3 hx3 hb3 hl3 hs3 hlo3 hsk3 hw3 hv3' hf3 _ => ?_)
    have hx9 := List.mem_singleton.mp hx
    subst hx9
    dsimp only at hlo3 hsk3 ⊢
    obtain ⟨l1, rfl, p1⟩ := lo_ref ha0 hlo3
    obtain ⟨yw3, l2, rfl, dw3, p2⟩ := lo_int rfl p1
    cases lo_nil p2
    rw [vn_at hx3 (n := 0) (z := 0) rfl] at dw3
    have ew3 : zw = yw3 := Int32.toInt_inj.mp (by omega)
    subst ew3
    obtain ⟨x3, s3, rfl, d3, g6⟩ := hsk3.cons
    cases g6.nil
    have e3 := ref_of ha7 d3
    subst e3
    have hc3 : cev ws3 7 n E := (cev_bc hn hbc (hc.fr hf1 rfl)).fr hf3 rfl
    have n3 : vi ws3 7 0 n := (hbc.2.2.1 0 _ (by decide) (hv0.fr hf1 rfl)).fr hf3 rfl
    have a3 : vi ws3 7 3 a := (hbc.2.2.1 3 _ (by decide) (hv3.fr hf1 rfl)).fr hf3 rfl
    have p3 : ∀ j, j < a → vi ws3 12 j (P j) := fun j hj => (hbc.2.2.2.2 j _ (by omega) ((hp j hj).fr hf1 (nowr_ok (c := 6) rfl j j))).fr hf3 (nowr_ok (c := 12) rfl j j)
    refine hcallI (q := (153, 0, 16, 0, 0)) (M' := tb_m16) (cl := 7) (a := a7) (As := []) (rest := []) (rets := [41]) (P := rp_P ad tys n a E P ws3) C (by decide) (tv_m63.1.1.1 (28, .invokevirtual 153, 3) (List.mem_of_getElem? (i := 14) rfl)) (tv_m63.2 _ (List.mem_of_getElem? (i := 13) rfl)) rfl rfl rfl rfl (by decide) (Nat.le_of_ble_eq_true rfl) rfl rfl rfl rfl hw3 ha7 (by decide) ?_ ?_ ?_
    · intro pcr hp
      rw [List.mem_singleton.mp hp]
      exact tv_m16.1.1.1 (41, .ireturn, 1) (List.mem_of_getElem? (i := 23) rfl)
    · intro p2 e2 R2 s2 m2 args2 below2 meth2 c2 Q2 C2 kk2
      exact rp_all (mm_cx (by decide) C2) ha7 hn ha8 hg hP hw3 n3 a3 p3 hc3 (fun w z lv2 h => kk2 41 w z lv2 (by decide) h)
    · intro ws4 zf hrp
      obtain ⟨hw4, hf4, hc4, ez⟩ := hrp
      have bz := plF_b (P := P) (E := E) a ha8
      have hg4 := plE_g hn hg hP a (Nat.le_refl _)
      have n4 : vi ws4 7 0 n := n3.fr hf4 rfl
      have f04 : ai_fr tb_WR7 ws ws4 := (f02.tr (wsub_ok (V := []) (by rfl) hf3)).tr (wsub_ok (V := pf_W) (by decide) hf4)
      have bw := hg4.1 w hwn
      have vw : vi ws4 10 w (plE P E a (8 + w)) := (hc4.1 w hwn).2.2.1
      refine hsum (st := (31, [(0, (0, 0, 0, 0)), (1, (1, 0, 0, (w : Int)))], [(1, 3, 0, 0)], [(0, 0, false, 0, 0), (0, 2555, false, 1, 0), (0, 99, false, 2, 0), (-4, 7, false, 3, 0)], [(10, w, (1, 2, 0, 0))], [])) (List.all_eq_true.mp ah9_c2 w (List.mem_range.mpr (by omega))) rfl C (r := [0, 0, plE P E a (8 + w), zf.toInt]) ⟨en_mk (by simp only [en_b, and_true]; omega) rfl, sb0, ⟨rfl, Or.inl ⟨rfl, a0, ha0, rfl⟩, rfl, int_dv (z := 0) rfl (by omega), trivial⟩, ⟨int_dv (z := zf.toInt) rfl (by omega), trivial⟩, hw4, kc (vw.kn (n := 2) (t := plE P E a (8 + w)) rfl (by omega)) k0, fun _ _ _ _ h => h, fun h => by cases h⟩ (fun x hx r5 lv5 sk5 ws5 hx5 hb5 hl5 hs5 hlo5 hsk5 hw5 hv5 hf5 _ => ?_)
      have hx9 := List.mem_singleton.mp hx
      subst hx9
      dsimp only at hsk5 ⊢
      obtain ⟨z5, rfl, hz5⟩ := sk1 rfl hsk5
      rw [vn_at hx5 (n := 2) (z := plE P E a (8 + w)) rfl] at hz5
      exact kk 41 ws5 z5 lv5 (by decide) hw5 (f04.tr (wsub_ok (V := []) (by rfl) hf5)) (by omega)
theorem ah9_mdl {ar n a w : Nat} {E P : Nat → Int} {zw : Int32} {ws : va_W} (C : ai_cx tb_m138 10 p R s m args c D tys A b L sx cells slots) (ha : ad[49]? = some ar) (hn : n ≤ 4) (ha8 : a ≤ 8) (hg : good n E) (hP : ∀ j, j < a → P j = 4 ∨ (0 ≤ P j ∧ P j < n)) (hwk : w < 4) (hz : zw.toInt = w) (hwn : w < n) (hw : ai_wd tb_TY ad tys ws) (hv0 : vi ws 49 1 n) (hv3 : vi ws 50 26 a) (hp : ∀ j, j < a → vi ws 50 (18 + j) (P j)) (hc : pev ws 0 n E)
    (kk : ∀ (pcr : Nat) (ws' : va_W) (z : Int32) (lv' : List (Nat × Value)), pcr ∈ [24] → ai_wd tb_TY ad tys ws' → ai_fr tb_WR7 ws ws' → z.toInt = plE P E a (8 + w) → hG tb_m138 p l e R s m args below meth c D A cells slots Q pcr lv' [.int z] ws') : hG tb_m138 p l e R s m args below meth c D A cells slots Q 0 [(0, .ref ar), (1, .int zw)] [] ws := by
  refine hsum (st := (0, [(0, (0, 49, 0, 0)), (1, (1, 0, 0, (w : Int)))], [], [(0, 0, false, 0, 0), (0, 2555, false, 1, 0), ((w : Int) + 1, 4, false, 2, 0)], [(49, 1, (1, 2, 0, 0))], [])) (List.all_eq_true.mp ah9_m0 w (List.mem_range.mpr (by omega))) rfl C (r := [0, 0, (n : Int)]) ⟨en_mk (by simp only [en_b, and_true]; omega) rfl, sb0, ⟨rfl, Or.inl ⟨rfl, ar, ha, rfl⟩, rfl, int_dv (z := 0) rfl (by omega), trivial⟩, trivial, hw, kc (hv0.kn (n := 2) (t := (n : Int)) rfl (by omega)) k0, fun _ _ _ _ h => h, fun h => by cases h⟩ (fun x hx r' lv' sk' ws1 hx' hb hl hs hlo hsk hw1 hv' hf1 _ => ?_)
  have hx9 := List.mem_singleton.mp hx
  subst hx9
  dsimp only at hlo hsk ⊢
  obtain ⟨l1, rfl, p1⟩ := lo_ref ha hlo
  obtain ⟨yw, l2, rfl, dw, p2⟩ := lo_int rfl p1
  cases lo_nil p2
  rw [vn_at hx' (n := 0) (z := 0) rfl] at dw
  have ew : zw = yw := Int32.toInt_inj.mp (by omega)
  subst ew
  obtain ⟨x1, s1, rfl, d1, g4⟩ := hsk.cons
  obtain ⟨x2, s2, rfl, d2, g5⟩ := g4.cons
  cases g5.nil
  obtain ⟨u0, rfl, w0⟩ := dvn d1 (hx'.at (k := 0) rfl)
  have e2 := ref_of49 ha d2
  subst e2
  refine hcallV (q := (184, 0, 135, 1, 6)) (M' := tb_m135) (cl := 49) (a := ar) (As := [.int u0]) (rest := []) (rets := [77]) (P := pg_P ad tys n a E P ws1) C (by decide) (tv_m138.1.1.1 (12, .invokevirtual 184, 3) (List.mem_of_getElem? (i := 8) rfl)) (tv_m138.2 _ (List.mem_of_getElem? (i := 23) rfl)) rfl rfl rfl rfl (by decide) (Nat.le_of_ble_eq_true rfl) rfl rfl rfl rfl hw1 ha (by decide) ?_ ?_ ?_
  · intro pcr hp
    rw [List.mem_singleton.mp hp]
    exact tv_m135.1.1.1 (77, .return_, 1) (List.mem_of_getElem? (i := 43) rfl)
  · intro p2 e2 R2 s2 m2 args2 below2 meth2 c2 Q2 C2 kk2
    exact pg_all (pg := 0) (mm_cx (by decide) C2) (Or.inl rfl) cs_r7 (by decide +kernel) ha (by omega) hn ha8 hg hP hw1 (hv0.fr hf1 rfl) (hv3.fr hf1 rfl) (fun j hj => (hp j hj).fr hf1 (nowr_ok (c := 50) rfl _ _)) (hc.fr hn hf1 (fun _ _ => rfl)) (fun w lv2 h => kk2 77 w lv2 (by decide) h)
  · intro ws4 hpg
    obtain ⟨hw4, hf4, hc4, v17⟩ := hpg
    have bz := plF_b (P := P) (E := E) a ha8
    have hg4 := plE_g hn hg hP a (Nat.le_refl _)
    have n4 : vi ws4 49 1 n := (hv0.fr hf1 rfl).fr hf4 rfl
    have f04 : ai_fr tb_WR7 ws ws4 := (wsub_ok (V := []) (by rfl) hf1).tr (wsub_ok (V := pg_W) (by decide) hf4)
    have bw := hg4.1 w hwn
    have vw : vi ws4 50 (116 + w) (plE P E a (8 + w)) := by
      rw [show 116 + w = 8 + w + 108 by omega]
      exact (hc4.1 w hwn).2.2.1
    refine hsum (st := (15, [(0, (0, 49, 0, 0)), (1, (1, 0, 0, (w : Int)))], [], [(0, 0, false, 0, 0), (0, 2555, false, 1, 0), (0, 99, false, 2, 0)], [(50, 116 + w, (1, 2, 0, 0))], [])) (List.all_eq_true.mp ah9_m2 w (List.mem_range.mpr (by omega))) rfl C (r := [0, 0, plE P E a (8 + w)]) ⟨en_mk (by simp only [en_b, and_true]; omega) rfl, sb0, ⟨rfl, Or.inl ⟨rfl, ar, ha, rfl⟩, rfl, int_dv (z := 0) rfl (by omega), trivial⟩, trivial, hw4, kc (vw.kn (n := 2) (t := plE P E a (8 + w)) rfl (by omega)) k0, fun _ _ _ _ h => h, fun h => by cases h⟩ (fun x hx r5 lv5 sk5 ws5 hx5 hb5 hl5 hs5 hlo5 hsk5 hw5 hv5 hf5 _ => ?_)
    have hx9 := List.mem_singleton.mp hx
    subst hx9
    dsimp only at hsk5 ⊢
    obtain ⟨z5, rfl, hz5⟩ := sk1 rfl hsk5
    rw [vn_at hx5 (n := 2) (z := plE P E a (8 + w)) rfl] at hz5
    exact kk 24 ws5 z5 lv5 (by decide) hw5 (f04.tr (wsub_ok (V := []) (by rfl) hf5)) (by omega)
end X8R
theorem ah9_n : ((ai_ex (hk []) 300 169 tb_m169 11 [1297] (551, lw_lo, [], lw_eb (-2147483648) (-1), [], [])).any fun xs => xs.all lw_un) = true := by decide +kernel
theorem ah9_o : ((ai_ex (hk []) 300 169 tb_m169 11 [1297] (551, lw_lo, [], lw_eb 0 2147483647 ++ [(0, 4, false, 8, 0)], [(1, 0, (1, 8, 0, 0)), (49, 1, (1, 8, 0, 0))], [(5, 4, 8, 4, 0)])).any fun xs => xs.all lw_un) = true := by decide +kernel
section X8L
variable {ad : List Nat} {M : ai_m} {d : Nat} {p : Program} {l : Launch} {e : Env} {R : Room} {s : State} {m : MethodId} {args : Array Value} {below : List Frame} {meth : Method} {c : Code} {D : va_G} {tys : ai_ty} {A : Nat → Prop} {b L : Nat} {sx : Nat → Int32} {cells slots : Nat} {Q : State → Prop}
set_option maxRecDepth 20000 in
theorem lw_ahead {i q0 q49 : Nat} {ws : va_W} (C : ai_cx tb_m169 11 p R s m args c D tys A b L sx cells slots) (e0 : ad[0]? = some q0) (e49 : ad[49]? = some q49) (hi : i + 5 ≤ L) (hL : L ≤ 2560) (hw : ai_wd tb_TY ad tys ws) (hI : Inv ws)
    (k : ∀ wc, ai_wd tb_TY ad tys wc → Inv wc → hG tb_m169 p l e R s m args below meth c D A cells slots Q 1297 [(0, .ref b), (1, .ref q0), (2, .ref q49), (3, .int (nI i))] [] wc) : hG tb_m169 p l e R s m args below meth c D A cells slots Q 551 [(0, .ref b), (1, .ref q0), (2, .ref q49), (3, .int (nI i))] [] ws := by
  have b0 := ai_irg (sx i)
  have b1 := ai_irg (sx (i + 1))
  have b2 := ai_irg (sx (i + 2))
  have b3 := ai_irg (sx (i + 3))
  have b4 := ai_irg (sx (i + 4))
  obtain ⟨t, g, u, q, y, n, j0, j1, E, a, P, hb, hp, hi0, hi1, hs⟩ := id hI
  obtain ⟨hn1, hn2, hn4⟩ := hb.2.2.2.2.1
  obtain ⟨hc, he, hg⟩ := hp.1
  obtain ⟨p3, p26, p8⟩ := hp.2.1
  have hP : ∀ j, j < a → P j = 4 ∨ (0 ≤ P j ∧ P j < n) := fun j hj => (hp.2.2 j hj).2.2
  obtain ⟨a1, -, -, e1, -⟩ := hw.get (c := 1) rfl
  obtain ⟨a7, -, -, e7, -⟩ := hw.get (c := 7) rfl
  by_cases h1 : (sx (i + 1)).toInt < 0
  · exact lw_no (rr := []) C e0 e49 hi hL hw hI ah9_n (en_mk (by simp only [lw_r, lw_eb, List.append_nil, en_b, and_true]; omega) rfl) sb0 k0 k
  by_cases h2 : (n : Int) ≤ (sx (i + 1)).toInt
  · refine lw_no (rr := [(n : Int)]) C e0 e49 hi hL hw hI ah9_o (en_mk (by simp only [lw_r, lw_eb, List.cons_append, List.nil_append, en_b, and_true]; omega) rfl) (fun q hq => ?_) (kc (hn1.kn (n := 8) (t := (n : Int)) rfl (by omega)) (kc (hn2.kn (n := 8) (t := (n : Int)) rfl (by omega)) k0)) k
    rw [List.mem_singleton.mp hq]
    refine ⟨(sx (i + 1)).toInt, (n : Int), (sx (i + 1)).toInt, rfl, rfl, rfl, fun h0 => ?_, fun h0 => ?_, fun h0 => ?_, fun h0 => ?_, fun h0 => ?_, fun h0 => ?_⟩
    all_goals dsimp only at h0 ⊢
    all_goals omega
  obtain ⟨j, hj⟩ : ∃ j : Nat, (sx (i + 1)).toInt = (j : Int) := ⟨(sx (i + 1)).toInt.toNat, by omega⟩
  refine law2 (P1 := fun w z1 => ai_wd tb_TY ad tys w ∧ ai_fr tb_WR7 ws w ∧ z1.toInt = plE P E a (8 + j)) (P2 := fun wa _ w z1 => ai_wd tb_TY ad tys w ∧ ai_fr tb_WR7 wa w ∧ z1.toInt = plE P E a (8 + j)) (rets1 := [41]) (rets2 := [24]) C e0 e49 hi hL hw (n := 1) (cmp := true) (by decide) lr_aheadA lr_aheadB lr_aheadC (q1 := (77, 0, 63, 1, 5)) (tv_m169.1.1.1 (557, .invokevirtual 77, 3) (List.mem_of_getElem? (i := 293) rfl)) (tv_m169.2 _ (List.mem_of_getElem? (i := 30) rfl)) rfl rfl rfl rfl (by decide) (Nat.le_of_ble_eq_true rfl) rfl rfl (q2 := (80, 0, 138, 1, 6)) (tv_m169.1.1.1 (566, .invokevirtual 80, 3) (List.mem_of_getElem? (i := 300) rfl)) (tv_m169.2 _ (List.mem_of_getElem? (i := 31) rfl)) rfl rfl rfl rfl (by decide) (Nat.le_of_ble_eq_true rfl) rfl rfl ?_ ?_ ?_ (fun wa z1 h => h.1) ?_ (fun wa z1 wb z2 h1 h2 => ⟨h2.1, fun _ => Int32.toInt_inj.mp (by rw [h1.2.2, h2.2.2])⟩) (fun wa z1 wb z2 wc h1 h2 hwc hf => k wc hwc (hI.rd hwc ((h1.2.1.tr h2.2.1).tr (wsub_ok (V := []) (by rfl) hf))))
  · intro pcr hpc
    simp only [List.mem_cons, List.not_mem_nil, or_false] at hpc
    rcases hpc with rfl
    · exact tv_m63.1.1.1 (41, .ireturn, 1) (List.mem_of_getElem? (i := 21) rfl)
  · intro pcr hpc
    simp only [List.mem_cons, List.not_mem_nil, or_false] at hpc
    rcases hpc with rfl
    · exact tv_m138.1.1.1 (24, .ireturn, 1) (List.mem_of_getElem? (i := 15) rfl)
  · intro p e R s m args below meth c Q w hw' hf C2 kk
    exact ah9_cls C2 e0 e1 e7 hn4 p8 hg hP (w := j) (by omega) hj (by omega) hw' (hn1.fr hf rfl) (p3.fr hf rfl) (fun j hj => (hp.2.2 j hj).1.fr hf (nowr_ok (c := 6) rfl _ _)) (hc.fr hf rfl) (fun pcr w' z lv hpr g1 g2 g3 => kk pcr w' z lv hpr ⟨g1, (wsub_ok (V := []) (by rfl) hf).tr g2, g3⟩)
  · intro p e R s m args below meth c Q wa z1 w hP1 hw' hf C2 kk
    have hfa : ai_fr tb_WR7 ws w := hP1.2.1.tr (wsub_ok (V := []) (by rfl) hf)
    exact ah9_mdl C2 e49 hn4 p8 hg hP (w := j) (by omega) hj (by omega) hw' (hn2.fr hfa rfl) (p26.fr hfa rfl) (fun j hj => (hp.2.2 j hj).2.1.fr hfa (off8 (by omega))) (he.fr hn4 hfa (fun j hj => off8 (by omega))) (fun pcr w' z lv hpr g1 g2 g3 => kk pcr w' z lv hpr ⟨g1, (wsub_ok (V := []) (by rfl) hf).tr g2, g3⟩)
end X8L
