theorem lr_kindsA : lw_A 924 930 1 = true := by decide +kernel
theorem lr_kindsB : lw_B 930 939 1 true = true := by decide +kernel
theorem lr_kindsC : lw_C 939 true = true := by decide +kernel
theorem ki_c0 : ((List.range 4).all fun t => (ai_ex (hk []) 300 81 tb_m81 10 [16] (0, [(0, (0, 0, 0, 0)), (1, (1, 0, 0, (t : Int)))], [], [(0, 0, false, 0, 0), (0, 2555, false, 1, 0), ((t : Int) + 1, 4, false, 2, 0)], [(1, 0, (1, 2, 0, 0))], [])).any fun xs => xs.all fun x => ([(16, [], [(1, 0, 0, (t : Int)), (0, 34, 0, 0)], [], [(0, 0, false, 0, 0), (0, 2555, false, 1, 0), ((t : Int) + 1, 4, false, 2, 0)], [])] : List sm_t).any fun y => sm_is [] x y) = true := by decide +kernel
def ki_c1_S : List sm_t := [
  (23, [], [(1, 2, 0, 0)], [], [(0, 0, false, 0, 0), (0, 2555, false, 1, 0), (0, 15, false, 2, 0)], [])]
theorem ki_c1 : ((ai_ex (hk []) 300 81 tb_m81 10 [] (19, [], [(1, 2, 0, 0)], [(0, 0, false, 0, 0), (0, 2555, false, 1, 0), (0, 15, false, 2, 0)], [], [])).any fun xs => xs.all fun x => (ki_c1_S : List sm_t).any fun y => sm_is [] x y) = true := by decide +kernel
theorem ki_m0 : ((List.range 4).all fun t => (ai_ex (hk []) 300 158 tb_m158 10 [10] (0, [(0, (0, 49, 0, 0)), (1, (1, 0, 0, (t : Int)))], [], [(0, 0, false, 0, 0), (0, 2555, false, 1, 0), ((t : Int) + 1, 4, false, 2, 0)], [(49, 1, (1, 2, 0, 0))], [])).any fun xs => xs.all fun x => ([(10, [], [(1, 0, 0, (t : Int)), (0, 49, 0, 0)], [], [(0, 0, false, 0, 0), (0, 2555, false, 1, 0), ((t : Int) + 1, 4, false, 2, 0)], [])] : List sm_t).any fun y => sm_is [] x y) = true := by decide +kernel
def ki_m1_S : List sm_t := [
  (17, [], [(1, 2, 0, 0)], [], [(0, 0, false, 0, 0), (0, 2555, false, 1, 0), (0, 15, false, 2, 0)], [])]
theorem ki_m1 : ((ai_ex (hk []) 300 158 tb_m158 10 [] (13, [], [(1, 2, 0, 0)], [(0, 0, false, 0, 0), (0, 2555, false, 1, 0), (0, 15, false, 2, 0)], [], [])).any fun xs => xs.all fun x => (ki_m1_S : List sm_t).any fun y => sm_is [] x y) = true := by decide +kernel
section XKI
variable {ad : List Nat} {M : ai_m} {d : Nat} {p : Program} {l : Launch} {e : Env} {R : Room} {s : State} {m : MethodId} {args : Array Value} {below : List Frame} {meth : Method} {c : Code} {D : va_G} {tys : ai_ty} {A : Nat → Prop} {b L : Nat} {sx : Nat → Int32} {cells slots : Nat} {Q : State → Prop}
theorem ki_cls {a0 a34 n t q : Nat} {S : Nat → Nat → Int} {zt : Int32} {ws : va_W} (C : ai_cx tb_m81 10 p R s m args c D tys A b L sx cells slots) (ha0 : ad[0]? = some a0) (ha34 : ad[34]? = some a34) (hn : n ≤ 4) (ht : t < n) (et : zt.toInt = t) (hq : q ≤ 6) (hS : ∀ j, j < q → seB (S j)) (hw : ai_wd tb_TY ad tys ws) (hv0 : vi ws 1 0 n) (hq0 : vi ws 34 0 q) (hv : ∀ j, j < q → ∀ r, r < 4 → vi ws (35 + r) j (S j r))
    (kk : ∀ (ws' : va_W) (z : Int32) (lv' : List (Nat × Value)), ai_wd tb_TY ad tys ws' → ai_fr [] ws ws' → z.toInt = ((kiB S (t : Int) q : Nat) : Int) → hG tb_m81 p l e R s m args below meth c D A cells slots Q 23 lv' [.int z] ws') : hG tb_m81 p l e R s m args below meth c D A cells slots Q 0 [(0, .ref a0), (1, .int zt)] [] ws := by
  refine hsum (st := (0, [(0, (0, 0, 0, 0)), (1, (1, 0, 0, (t : Int)))], [], [(0, 0, false, 0, 0), (0, 2555, false, 1, 0), ((t : Int) + 1, 4, false, 2, 0)], [(1, 0, (1, 2, 0, 0))], [])) (List.all_eq_true.mp ki_c0 t (List.mem_range.mpr (by omega))) rfl C (r := [0, 0, (n : Int)]) ⟨en_mk (by simp only [en_b, and_true]; omega) rfl, sb0, ⟨rfl, Or.inl ⟨rfl, a0, ha0, rfl⟩, rfl, int_dv (z := 0) rfl (by omega), trivial⟩, trivial, hw, kc (hv0.kn (n := 2) (t := (n : Int)) rfl (by omega)) (k0), fun _ _ _ _ h => h, fun h => by cases h⟩ (fun x hx r1 lv1 st1 ws1 hx1 hb1 hl1 hs1 hlo1 hsk1 hw1 hV1 hf1 _ => ?_)
  have hx9 := List.mem_singleton.mp hx
  subst hx9
  dsimp only at hlo1 hsk1 ⊢
  cases lo_nil hlo1
  obtain ⟨x10, s10, rfl, c10, g10⟩ := hsk1.cons
  obtain ⟨x11, s11, rfl, c11, g11⟩ := g10.cons
  cases g11.nil
  obtain ⟨u10, rfl, w10⟩ := dvn c10 (hx1.at (k := 0) rfl)
  have f11 := ref_of ha34 c11
  subst f11
  refine hcallI (q := (210, 0, 45, 1, 4)) (M' := tb_m45) (cl := 34) (a := a34) (As := [.int u10]) (rest := []) (rets := [54]) (P := fun w z => ai_wd tb_TY ad tys w ∧ ai_fr [] ws1 w ∧ z.toInt = ((kiB S (t : Int) q : Nat) : Int)) C (by decide) (tv_m81.1.1.1 (16, .invokevirtual 210, 3) (List.mem_of_getElem? (i := 8) rfl)) (tv_m81.2 _ (List.mem_of_getElem? (i := 29) rfl)) rfl rfl rfl rfl (by decide) (Nat.le_of_ble_eq_true rfl) rfl rfl rfl rfl hw1 ha34 (Nat.le_of_ble_eq_true rfl) ?_ ?_ ?_
  · intro pcr hp
    simp only [List.mem_cons, List.not_mem_nil, or_false] at hp
    rcases hp with rfl
    · exact tv_m45.1.1.1 (54, .ireturn, 1) (List.mem_of_getElem? (i := 33) rfl)
  · intro p2 e2 R2 s2 m2 args2 below2 meth2 c2 Q2 C2 kk2
    exact kc_all (mm_cx (by decide) C2) ha34 hq hS (by omega) (by omega) hw1 (hq0.fr hf1 rfl) (fun j hj r hr => (hv j hj r hr).fr hf1 rfl) (fun w z lv2 h1 h2 h3 => kk2 54 w z lv2 (by decide) ⟨h1, h2, h3⟩)
  · intro ws2 z2 hP
    have bz := kiB_b S (t : Int) q
    have ez := hP.2.2
    refine hG_sub (lv2 := []) (fun q hq => by cases hq) ?_
    refine hsum (st := (19, [], [(1, 2, 0, 0)], [(0, 0, false, 0, 0), (0, 2555, false, 1, 0), (0, 15, false, 2, 0)], [], [])) ki_c1 rfl C (r := [0, 0, z2.toInt]) ⟨en_mk (by simp only [en_b, and_true]; omega) rfl, sb0, trivial, ⟨int_dv (z := z2.toInt) rfl (by omega), trivial⟩, hP.1, k0, fun _ _ _ _ h => h, fun h => by cases h⟩ (fun x hx r3 lv3 st3 ws3 hx3 hb3 hl3 hs3 hlo3 hsk3 hw3 hV3 hf3 _ => ?_)
    unfold ki_c1_S at hx
    have m3_2 := nm_x hx3 (k := 2) rfl
    have hx0 := List.mem_singleton.mp hx
    subst hx0
    dsimp only at hlo3 hsk3 ⊢
    simp (config := { decide := true }) only [bnd_b, lin_b, lin_q, Nat.reduceAdd, Nat.zero_add, Nat.reduceEqDiff, reduceIte, and_true, Int.add_zero] at hb3 hl3
    obtain ⟨w, rfl, hw'⟩ := sk1 rfl hsk3
    rw [vn_at hx3 (n := 2) (z := z2.toInt) rfl] at hw'
    exact kk ws3 w lv3 hw3 ((hf1.tr hP.2.1).tr hf3) (by omega)
theorem ki_mdl {ar n t q : Nat} {S : Nat → Nat → Int} {zt : Int32} {ws : va_W} (C : ai_cx tb_m158 10 p R s m args c D tys A b L sx cells slots) (ha : ad[49]? = some ar) (hn : n ≤ 4) (ht : t < n) (et : zt.toInt = t) (hq : q ≤ 6) (hS : ∀ j, j < q → seB (S j)) (hw : ai_wd tb_TY ad tys ws) (hv0 : vi ws 49 1 n) (hq0 : vi ws 49 19 q) (hv : ∀ j, j < q → ∀ r, r < 4 → vi ws 55 (4 * j + r) (S j r))
    (kk : ∀ (ws' : va_W) (z : Int32) (lv' : List (Nat × Value)), ai_wd tb_TY ad tys ws' → ai_fr [] ws ws' → z.toInt = ((kiB S (t : Int) q : Nat) : Int) → hG tb_m158 p l e R s m args below meth c D A cells slots Q 17 lv' [.int z] ws') : hG tb_m158 p l e R s m args below meth c D A cells slots Q 0 [(0, .ref ar), (1, .int zt)] [] ws := by
  refine hsum (st := (0, [(0, (0, 49, 0, 0)), (1, (1, 0, 0, (t : Int)))], [], [(0, 0, false, 0, 0), (0, 2555, false, 1, 0), ((t : Int) + 1, 4, false, 2, 0)], [(49, 1, (1, 2, 0, 0))], [])) (List.all_eq_true.mp ki_m0 t (List.mem_range.mpr (by omega))) rfl C (r := [0, 0, (n : Int)]) ⟨en_mk (by simp only [en_b, and_true]; omega) rfl, sb0, ⟨rfl, Or.inl ⟨rfl, ar, ha, rfl⟩, rfl, int_dv (z := 0) rfl (by omega), trivial⟩, trivial, hw, kc (hv0.kn (n := 2) (t := (n : Int)) rfl (by omega)) (k0), fun _ _ _ _ h => h, fun h => by cases h⟩ (fun x hx r1 lv1 st1 ws1 hx1 hb1 hl1 hs1 hlo1 hsk1 hw1 hV1 hf1 _ => ?_)
  have hx9 := List.mem_singleton.mp hx
  subst hx9
  dsimp only at hlo1 hsk1 ⊢
  cases lo_nil hlo1
  obtain ⟨x10, s10, rfl, c10, g10⟩ := hsk1.cons
  obtain ⟨x11, s11, rfl, c11, g11⟩ := g10.cons
  cases g11.nil
  obtain ⟨u10, rfl, w10⟩ := dvn c10 (hx1.at (k := 0) rfl)
  have f11 := ref_of49 ha c11
  subst f11
  refine hcallI (q := (225, 0, 157, 1, 6)) (M' := tb_m157) (cl := 49) (a := ar) (As := [.int u10]) (rest := []) (rets := [117]) (P := fun w z => ai_wd tb_TY ad tys w ∧ ai_fr [] ws1 w ∧ z.toInt = ((kiB S (t : Int) q : Nat) : Int)) C (by decide) (tv_m158.1.1.1 (10, .invokevirtual 225, 3) (List.mem_of_getElem? (i := 6) rfl)) (tv_m158.2 _ (List.mem_of_getElem? (i := 33) rfl)) rfl rfl rfl rfl (by decide) (Nat.le_of_ble_eq_true rfl) rfl rfl rfl rfl hw1 ha (Nat.le_of_ble_eq_true rfl) ?_ ?_ ?_
  · intro pcr hp
    simp only [List.mem_cons, List.not_mem_nil, or_false] at hp
    rcases hp with rfl
    · exact tv_m157.1.1.1 (117, .ireturn, 1) (List.mem_of_getElem? (i := 71) rfl)
  · intro p2 e2 R2 s2 m2 args2 below2 meth2 c2 Q2 C2 kk2
    exact km_all (mm_cx (by decide) C2) ha hq hS (by omega) (by omega) hw1 (hq0.fr hf1 rfl) (fun j hj r hr => (hv j hj r hr).fr hf1 (nowr_ok (c := 55) rfl _ _)) (fun w z lv2 h1 h2 h3 => kk2 117 w z lv2 (by decide) ⟨h1, h2, h3⟩)
  · intro ws2 z2 hP
    have bz := kiB_b S (t : Int) q
    have ez := hP.2.2
    refine hG_sub (lv2 := []) (fun q hq => by cases hq) ?_
    refine hsum (st := (13, [], [(1, 2, 0, 0)], [(0, 0, false, 0, 0), (0, 2555, false, 1, 0), (0, 15, false, 2, 0)], [], [])) ki_m1 rfl C (r := [0, 0, z2.toInt]) ⟨en_mk (by simp only [en_b, and_true]; omega) rfl, sb0, trivial, ⟨int_dv (z := z2.toInt) rfl (by omega), trivial⟩, hP.1, k0, fun _ _ _ _ h => h, fun h => by cases h⟩ (fun x hx r3 lv3 st3 ws3 hx3 hb3 hl3 hs3 hlo3 hsk3 hw3 hV3 hf3 _ => ?_)
    unfold ki_m1_S at hx
    have m3_2 := nm_x hx3 (k := 2) rfl
    have hx0 := List.mem_singleton.mp hx
    subst hx0
    dsimp only at hlo3 hsk3 ⊢
    simp (config := { decide := true }) only [bnd_b, lin_b, lin_q, Nat.reduceAdd, Nat.zero_add, Nat.reduceEqDiff, reduceIte, and_true, Int.add_zero] at hb3 hl3
    obtain ⟨w, rfl, hw'⟩ := sk1 rfl hsk3
    rw [vn_at hx3 (n := 2) (z := z2.toInt) rfl] at hw'
    exact kk ws3 w lv3 hw3 ((hf1.tr hP.2.1).tr hf3) (by omega)
end XKI
theorem ki9_t1 : ((ai_ex (hk []) 600 169 tb_m169 11 [1297] (924, lw_lo, [], se8_en (-2147483648) (-1) (-2147483648) 2147483647 (-2147483648) 2147483647 (-2147483648) 2147483647, se8_n, [])).any fun xs => xs.all lw_un) = true := by decide +kernel
theorem ki9_t2 : ((ai_ex (hk []) 600 169 tb_m169 11 [1297] (924, lw_lo, [], se8_en 0 2147483647 (-2147483648) 2147483647 (-2147483648) 2147483647 (-2147483648) 2147483647, se8_n, [(5, 4, 8, 4, 0)])).any fun xs => xs.all lw_un) = true := by decide +kernel
section XKL
variable {ad : List Nat} {M : ai_m} {d : Nat} {p : Program} {l : Launch} {e : Env} {R : Room} {s : State} {m : MethodId} {args : Array Value} {below : List Frame} {meth : Method} {c : Code} {D : va_G} {tys : ai_ty} {A : Nat → Prop} {b L : Nat} {sx : Nat → Int32} {cells slots : Nat} {Q : State → Prop}
set_option maxRecDepth 20000 in
theorem lw_kinds {i q0 q49 : Nat} {ws : va_W} (C : ai_cx tb_m169 11 p R s m args c D tys A b L sx cells slots) (e0 : ad[0]? = some q0) (e49 : ad[49]? = some q49) (hi : i + 5 ≤ L) (hL : L ≤ 2560) (hw : ai_wd tb_TY ad tys ws) (hI : Inv ws)
    (k : ∀ wc, ai_wd tb_TY ad tys wc → Inv wc → hG tb_m169 p l e R s m args below meth c D A cells slots Q 1297 [(0, .ref b), (1, .ref q0), (2, .ref q49), (3, .int (nI i))] [] wc) : hG tb_m169 p l e R s m args below meth c D A cells slots Q 924 [(0, .ref b), (1, .ref q0), (2, .ref q49), (3, .int (nI i))] [] ws := by
  have b0 := ai_irg (sx i)
  have b1 := ai_irg (sx (i + 1))
  have b2 := ai_irg (sx (i + 2))
  have b3 := ai_irg (sx (i + 3))
  have b4 := ai_irg (sx (i + 4))
  obtain ⟨t, g, u, q, y, n, j0, j1, E, a, P, hb, hp, hi0, hi1, hs⟩ := id hI
  obtain ⟨hn1, hn2, hn4⟩ := hb.2.2.2.2.1
  obtain ⟨hc, he, hg⟩ := hp.1
  obtain ⟨a1, -, -, e1, -⟩ := hw.get (c := 1) rfl
  have kn0 : ai_kn ad b (lw_r sx i ++ [(n : Int)]) ws se8_n := kc (hn1.kn (n := 8) (t := (n : Int)) rfl (by omega)) (kc (hn2.kn (n := 8) (t := (n : Int)) rfl (by omega)) k0)
  have ok : ∀ {t1 t2 s1 s2 p1 p2 y1 y2 : Int}, (t1 ≤ (sx (i + 1)).toInt ∧ (sx (i + 1)).toInt ≤ t2) → (s1 ≤ (sx (i + 2)).toInt ∧ (sx (i + 2)).toInt ≤ s2) → (p1 ≤ (sx (i + 3)).toInt ∧ (sx (i + 3)).toInt ≤ p2) → (y1 ≤ (sx (i + 4)).toInt ∧ (sx (i + 4)).toInt ≤ y2) → ai_ok (lw_r sx i ++ [(n : Int)]) (se8_en t1 t2 s1 s2 p1 p2 y1 y2) := fun h1 h2 h3 h4 => en_mk (by simp only [lw_r, se8_en, List.cons_append, List.nil_append, en_b, and_true]; omega) rfl
  by_cases c1 : (sx (i + 1)).toInt < 0
  · exact lw_no C e0 e49 hi hL hw hI ki9_t1 (ok (by omega) (by omega) (by omega) (by omega)) sb0 kn0 k
  by_cases c2 : (n : Int) ≤ (sx (i + 1)).toInt
  · exact lw_no C e0 e49 hi hL hw hI ki9_t2 (ok (by omega) (by omega) (by omega) (by omega)) (se8_sb (Or.inr ⟨rfl, c2⟩)) kn0 k
  have sb4 : ai_sb ws (lw_r sx i ++ [(n : Int)]) [(4, 4, 8, 4, 0)] := se8_sb (Or.inl ⟨rfl, by omega⟩)
  obtain ⟨j, hj⟩ : ∃ j : Nat, (sx (i + 1)).toInt = (j : Int) := ⟨(sx (i + 1)).toInt.toNat, by omega⟩
  have hjn : j < n := by omega
  obtain ⟨-, qn, S, sq, sq6, sr⟩ := hs
  obtain ⟨a34, -, -, e34, -⟩ := hw.get (c := 34) rfl
  have sq2 : vi ws 49 19 qn := by
    have h9 := hb.2.2.1.2
    rw [vi_un hb.2.2.1.1 sq] at h9
    exact h9
  have hSB : ∀ j, j < qn → seB (S j) := fun j hj => (sr j hj).1
  have hSv : ∀ j, j < qn → ∀ r, r < 4 → vi ws (35 + r) j (S j r) ∧ vi ws 55 (4 * j + r) (S j r) := fun j hj => (sr j hj).2
  refine law2 (P1 := fun w z1 => ai_wd tb_TY ad tys w ∧ ai_fr [] ws w ∧ z1.toInt = ((kiB S (j : Int) qn : Nat) : Int)) (P2 := fun wa _ w z1 => ai_wd tb_TY ad tys w ∧ ai_fr [] wa w ∧ z1.toInt = ((kiB S (j : Int) qn : Nat) : Int)) (rets1 := [23]) (rets2 := [17]) C e0 e49 hi hL hw (n := 1) (cmp := true) (by decide) lr_kindsA lr_kindsB lr_kindsC (q1 := (123, 0, 81, 1, 5)) (tv_m169.1.1.1 (930, .invokevirtual 123, 3) (List.mem_of_getElem? (i := 600) rfl)) (tv_m169.2 _ (List.mem_of_getElem? (i := 52) rfl)) rfl rfl rfl rfl (by decide) (Nat.le_of_ble_eq_true rfl) rfl rfl (q2 := (126, 0, 158, 1, 6)) (tv_m169.1.1.1 (939, .invokevirtual 126, 3) (List.mem_of_getElem? (i := 607) rfl)) (tv_m169.2 _ (List.mem_of_getElem? (i := 53) rfl)) rfl rfl rfl rfl (by decide) (Nat.le_of_ble_eq_true rfl) rfl rfl ?_ ?_ ?_ (fun wa z1 h => h.1) ?_ (fun wa z1 wb z2 h1 h2 => ⟨h2.1, fun _ => Int32.toInt_inj.mp (by rw [h1.2.2, h2.2.2])⟩) (fun wa z1 wb z2 wc h1 h2 hwc hf => k wc hwc (hI.fr0 hwc ((h1.2.1.tr h2.2.1).tr hf)))
  · intro pcr hpc
    rw [List.mem_singleton.mp hpc]
    exact tv_m81.1.1.1 (23, .ireturn, 1) (List.mem_of_getElem? (i := 11) rfl)
  · intro pcr hpc
    rw [List.mem_singleton.mp hpc]
    exact tv_m158.1.1.1 (17, .ireturn, 1) (List.mem_of_getElem? (i := 9) rfl)
  · intro p e R s m args below meth c Q w hw' hf C2 kk
    exact ki_cls C2 e0 e34 hn4 hjn hj sq6 hSB hw' (hn1.fr hf rfl) (sq.fr hf rfl) (fun j hj r hr => (hSv j hj r hr).1.fr hf (nowr_ok rfl _ _)) (fun w' z lv g1 g2 g3 => kk 23 w' z lv (by decide) ⟨g1, hf.tr g2, g3⟩)
  · intro p e R s m args below meth c Q wa z1 w hP1 hw' hf C2 kk
    have hfa := hP1.2.1.tr hf
    exact ki_mdl C2 e49 hn4 hjn hj sq6 hSB hw' (hn2.fr hfa rfl) (sq2.fr hfa rfl) (fun j hj r hr => (hSv j hj r hr).2.fr hfa (nowr_ok (c := 55) rfl _ _)) (fun w' z lv g1 g2 g3 => kk 17 w' z lv (by decide) ⟨g1, hf.tr g2, g3⟩)
end XKL
