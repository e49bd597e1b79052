theorem lr_ruleA : lw_A 268 274 1 = true := by decide +kernel
theorem lr_ruleB : lw_B 274 283 1 true = true := by decide +kernel
theorem lr_ruleC : lw_C 283 true = true := by decide +kernel
/-! rule, compared -/
theorem ru4_c : ((ai_ex (hk []) 60 50 tb_m50 10 [76] (0, [(0, (0, 0, 0, 0)), (1, (1, 0, 0, 4))], [], [(0, 0, false, 0, 0), (0, 2555, false, 1, 0)], [], [])).any fun xs => xs.all fun x => ([(76, [], [(0, 1, 0, 0)], [], [(0, 0, false, 0, 0), (0, 2555, false, 1, 0)], [])] : List sm_t).any fun y => sm_is [] x y) = true := by decide +kernel
theorem ru5_c : ((ai_ex (hk []) 60 50 tb_m50 10 [84] (0, [(0, (0, 0, 0, 0)), (1, (1, 0, 0, 5))], [], [(0, 0, false, 0, 0), (0, 2555, false, 1, 0)], [], [])).any fun xs => xs.all fun x => ([(84, [], [(0, 1, 0, 0)], [], [(0, 0, false, 0, 0), (0, 2555, false, 1, 0)], [])] : List sm_t).any fun y => sm_is [] x y) = true := by decide +kernel
theorem ru4_m : ((ai_ex (hk []) 60 118 tb_m118 10 [69] (0, [(0, (0, 49, 0, 0)), (1, (1, 0, 0, 4))], [], [(0, 0, false, 0, 0), (0, 2555, false, 1, 0)], [], [])).any fun xs => xs.all fun x => ([(69, [], [(1, 0, 0, 0), (0, 49, 0, 0)], [], [(0, 0, false, 0, 0), (0, 2555, false, 1, 0)], [])] : List sm_t).any fun y => sm_is [] x y) = true := by decide +kernel
theorem ru5_m : ((ai_ex (hk []) 60 118 tb_m118 10 [75] (0, [(0, (0, 49, 0, 0)), (1, (1, 0, 0, 5))], [], [(0, 0, false, 0, 0), (0, 2555, false, 1, 0)], [], [])).any fun xs => xs.all fun x => ([(75, [], [(1, 0, 0, 0), (0, 49, 0, 0)], [], [(0, 0, false, 0, 0), (0, 2555, false, 1, 0)], [])] : List sm_t).any fun y => sm_is [] x y) = true := by decide +kernel
section XRU
variable {ad : List Nat} {M : ai_m} {d : Nat} {p : Program} {l : Launch} {e : Env} {R : Room} {s : State} {m : MethodId} {args : Array Value} {below : List Frame} {meth : Method} {c : Code} {D : va_G} {tys : ai_ty} {A : Nat → Prop} {b L : Nat} {sx : Nat → Int32} {cells slots : Nat} {Q : State → Prop}
theorem ru4_call {a a1 n : Nat} {E : Nat → Int} {z : Int32} {ws : va_W} (C : ai_cx tb_m50 10 p R s m args c D tys A b L sx cells slots) (ha : ad[0]? = some a) (ha1 : ad[1]? = some a1) (hz : z.toInt = 4) (hn : n ≤ 4) (hg : good n E) (hw : ai_wd tb_TY ad tys ws) (hh : vi ws 1 0 n ∧ cev ws 1 n E)
    (kk : ∀ (ws' : va_W) (z : Int32) (lv' : List (Nat × Value)), ai_wd tb_TY ad tys ws' → ai_fr [] ws ws' → z.toInt = wonF E n 5 0 0 → hG tb_m50 p l e R s m args below meth c D A cells slots Q 79 lv' [.int z] ws') : hG tb_m50 p l e R s m args below meth c D A cells slots Q 0 [(0, .ref a), (1, .int z)] [] ws := by
  refine hsum (st := (0, [(0, (0, 0, 0, 0)), (1, (1, 0, 0, 4))], [], [(0, 0, false, 0, 0), (0, 2555, false, 1, 0)], [], [])) ru4_c rfl C (r := [0, 0]) ⟨en_mk (by simp only [en_b, and_true]; omega) rfl, sb0, ⟨rfl, Or.inl ⟨rfl, a, ha, rfl⟩, rfl, int_dv (z := 0) rfl (by omega), trivial⟩, trivial, hw, k0, fun _ _ _ _ h => h, fun h => by cases h⟩ (fun x hx r' lv' sk' ws1 hx' hb hl hs hlo hsk hw1 hv' hf1 _ => ?_)
  rw [List.mem_singleton.mp hx] at hsk ⊢
  dsimp only at hsk ⊢
  obtain ⟨x1, s1, rfl, d1, g4⟩ := hsk.cons
  cases g4.nil
  have f1 := ref_of ha1 d1
  subst f1
  refine hcallI (q := (106, 0, 5, 0, 0)) (M' := tb_m5) (cl := 1) (a := a1) (As := []) (rest := []) (rets := [33]) (P := fun w z => ai_wd tb_TY ad tys w ∧ ai_fr [] ws1 w ∧ z.toInt = wonF E n 5 0 0) C (by decide) (tv_m50.1.1.1 (76, .invokevirtual 106, 3) (List.mem_of_getElem? (i := 20) rfl)) (tv_m50.2 _ (List.mem_of_getElem? (i := 4) rfl)) rfl rfl rfl rfl (by decide) (Nat.le_of_ble_eq_true rfl) rfl rfl rfl rfl hw1 ha1 (by decide) ?_ ?_ ?_
  · intro pcr hp
    rw [List.mem_singleton.mp hp]
    exact tv_m5.1.1.1 (33, .ireturn, 1) (List.mem_of_getElem? (i := 21) rfl)
  · intro p2 e2 R2 s2 m2 args2 below2 meth2 c2 Q2 C2 kk2
    exact wb_all (mm_cx (by decide) C2) (Or.inl rfl) ha1 hn hg hw1 ⟨hh.1.fr hf1 rfl, hh.2.fr hf1 rfl⟩ (fun w z lv2 h1 h2 h3 => kk2 33 w z lv2 (by decide) ⟨h1, h2, h3⟩)
  · intro ws2 z2 hP
    exact kk ws2 z2 _ hP.1 (hf1.tr hP.2.1) hP.2.2
theorem ru5_call {a a1 n : Nat} {E : Nat → Int} {z : Int32} {ws : va_W} (C : ai_cx tb_m50 10 p R s m args c D tys A b L sx cells slots) (ha : ad[0]? = some a) (ha1 : ad[1]? = some a1) (hz : z.toInt = 5) (hn : n ≤ 4) (hg : good n E) (hw : ai_wd tb_TY ad tys ws) (hh : vi ws 1 0 n ∧ ∀ i, i < n → vi ws 4 i (E (8 + i)))
    (kk : ∀ (ws' : va_W) (z : Int32) (lv' : List (Nat × Value)), ai_wd tb_TY ad tys ws' → ai_fr [] ws ws' → z.toInt = sumF (fun i => E (8 + i)) n 5 0 0 → hG tb_m50 p l e R s m args below meth c D A cells slots Q 87 lv' [.int z] ws') : hG tb_m50 p l e R s m args below meth c D A cells slots Q 0 [(0, .ref a), (1, .int z)] [] ws := by
  refine hsum (st := (0, [(0, (0, 0, 0, 0)), (1, (1, 0, 0, 5))], [], [(0, 0, false, 0, 0), (0, 2555, false, 1, 0)], [], [])) ru5_c rfl C (r := [0, 0]) ⟨en_mk (by simp only [en_b, and_true]; omega) rfl, sb0, ⟨rfl, Or.inl ⟨rfl, a, ha, rfl⟩, rfl, int_dv (z := 0) rfl (by omega), trivial⟩, trivial, hw, k0, fun _ _ _ _ h => h, fun h => by cases h⟩ (fun x hx r' lv' sk' ws1 hx' hb hl hs hlo hsk hw1 hv' hf1 _ => ?_)
  rw [List.mem_singleton.mp hx] at hsk ⊢
  dsimp only at hsk ⊢
  obtain ⟨x1, s1, rfl, d1, g4⟩ := hsk.cons
  cases g4.nil
  have f1 := ref_of ha1 d1
  subst f1
  refine hcallI (q := (110, 0, 7, 0, 0)) (M' := tb_m7) (cl := 1) (a := a1) (As := []) (rest := []) (rets := [8]) (P := fun w z => ai_wd tb_TY ad tys w ∧ ai_fr [] ws1 w ∧ z.toInt = sumF (fun i => E (8 + i)) n 5 0 0) C (by decide) (tv_m50.1.1.1 (84, .invokevirtual 110, 3) (List.mem_of_getElem? (i := 24) rfl)) (tv_m50.2 _ (List.mem_of_getElem? (i := 5) rfl)) rfl rfl rfl rfl (by decide) (Nat.le_of_ble_eq_true rfl) rfl rfl rfl rfl hw1 ha1 (by decide) ?_ ?_ ?_
  · intro pcr hp
    rw [List.mem_singleton.mp hp]
    exact tv_m7.1.1.1 (8, .ireturn, 1) (List.mem_of_getElem? (i := 4) rfl)
  · intro p2 e2 R2 s2 m2 args2 below2 meth2 c2 Q2 C2 kk2
    exact al7_all (mm_cx (by decide) C2) (Or.inl rfl) ha1 hn (fun i hi => by have := hg.1 i hi; show 0 ≤ E (8 + i) ∧ E (8 + i) ≤ 99; omega) hw1 ⟨hh.1.fr hf1 rfl, fun i hi => (hh.2 i hi).fr hf1 rfl⟩ (fun w z lv2 h1 h2 h3 => kk2 8 w z lv2 (by decide) ⟨h1, h2, h3⟩)
  · intro ws2 z2 hP
    exact kk ws2 z2 _ hP.1 (hf1.tr hP.2.1) hP.2.2
theorem ru4_mall {a n : Nat} {E : Nat → Int} {z : Int32} {ws : va_W} (C : ai_cx tb_m118 10 p R s m args c D tys A b L sx cells slots) (ha : ad[49]? = some a) (hz : z.toInt = 4) (hn : n ≤ 4) (hg : good n E) (hw : ai_wd tb_TY ad tys ws) (hh : vi ws 49 1 n ∧ pev ws 0 n E)
    (kk : ∀ (ws' : va_W) (z : Int32) (lv' : List (Nat × Value)), ai_wd tb_TY ad tys ws' → ai_fr [] ws ws' → z.toInt = wonF E n 5 0 0 → hG tb_m118 p l e R s m args below meth c D A cells slots Q 72 lv' [.int z] ws') : hG tb_m118 p l e R s m args below meth c D A cells slots Q 0 [(0, .ref a), (1, .int z)] [] ws := by
  refine hsum (st := (0, [(0, (0, 49, 0, 0)), (1, (1, 0, 0, 4))], [], [(0, 0, false, 0, 0), (0, 2555, false, 1, 0)], [], [])) ru4_m rfl C (r := [0, 0]) ⟨en_mk (by simp only [en_b, and_true]; omega) rfl, sb0, ⟨rfl, Or.inl ⟨rfl, a, ha, rfl⟩, rfl, int_dv (z := 0) rfl (by omega), trivial⟩, trivial, hw, k0, fun _ _ _ _ h => h, fun h => by cases h⟩ (fun x hx r' lv' sk' ws1 hx' hb hl hs hlo hsk hw1 hv' hf1 _ => ?_)
  rw [List.mem_singleton.mp hx] at hsk ⊢
  dsimp only at hsk ⊢
  obtain ⟨x0, s0, rfl, d0, g3⟩ := hsk.cons
  obtain ⟨x1, s1, rfl, d1, g4⟩ := g3.cons
  cases g4.nil
  obtain ⟨u0, rfl, w0⟩ := dvn d0 (hx'.at (k := 0) rfl)
  have f1 := ref_of ha d1
  subst f1
  refine hcallI (q := (136, 0, 116, 1, 6)) (M' := tb_m116) (cl := 49) (a := a) (As := [.int u0]) (rest := []) (rets := [38]) (P := fun w z => ai_wd tb_TY ad tys w ∧ ai_fr [] ws1 w ∧ z.toInt = wonF E n 5 0 0) C (by decide) (tv_m118.1.1.1 (69, .invokevirtual 136, 3) (List.mem_of_getElem? (i := 21) rfl)) (tv_m118.2 _ (List.mem_of_getElem? (i := 12) rfl)) rfl rfl rfl rfl (by decide) (Nat.le_of_ble_eq_true rfl) rfl rfl rfl rfl hw1 ha (by decide) ?_ ?_ ?_
  · intro pcr hp
    rw [List.mem_singleton.mp hp]
    exact tv_m116.1.1.1 (38, .ireturn, 1) (List.mem_of_getElem? (i := 24) rfl)
  · intro p2 e2 R2 s2 m2 args2 below2 meth2 c2 Q2 C2 kk2
    exact wo_all (mm_cx (by decide) C2) (Or.inl rfl) ha (by omega) hn hg hw1 ⟨hh.1.fr hf1 rfl, hh.2.fr hn hf1 (fun _ _ => rfl)⟩ (fun w z lv2 h1 h2 h3 => kk2 38 w z lv2 (by decide) ⟨h1, h2, h3⟩)
  · intro ws2 z2 hP
    exact kk ws2 z2 _ hP.1 (hf1.tr hP.2.1) hP.2.2
theorem ru5_mall {a n : Nat} {E : Nat → Int} {z : Int32} {ws : va_W} (C : ai_cx tb_m118 10 p R s m args c D tys A b L sx cells slots) (ha : ad[49]? = some a) (hz : z.toInt = 5) (hn : n ≤ 4) (hg : good n E) (hw : ai_wd tb_TY ad tys ws) (hh : vi ws 49 1 n ∧ ∀ i, i < n → vi ws 50 (8 + i) (E (8 + i)))
    (kk : ∀ (ws' : va_W) (z : Int32) (lv' : List (Nat × Value)), ai_wd tb_TY ad tys ws' → ai_fr [] ws ws' → z.toInt = sumF (fun i => E (8 + i)) n 5 0 0 → hG tb_m118 p l e R s m args below meth c D A cells slots Q 78 lv' [.int z] ws') : hG tb_m118 p l e R s m args below meth c D A cells slots Q 0 [(0, .ref a), (1, .int z)] [] ws := by
  refine hsum (st := (0, [(0, (0, 49, 0, 0)), (1, (1, 0, 0, 5))], [], [(0, 0, false, 0, 0), (0, 2555, false, 1, 0)], [], [])) ru5_m rfl C (r := [0, 0]) ⟨en_mk (by simp only [en_b, and_true]; omega) rfl, sb0, ⟨rfl, Or.inl ⟨rfl, a, ha, rfl⟩, rfl, int_dv (z := 0) rfl (by omega), trivial⟩, trivial, hw, k0, fun _ _ _ _ h => h, fun h => by cases h⟩ (fun x hx r' lv' sk' ws1 hx' hb hl hs hlo hsk hw1 hv' hf1 _ => ?_)
  rw [List.mem_singleton.mp hx] at hsk ⊢
  dsimp only at hsk ⊢
  obtain ⟨x0, s0, rfl, d0, g3⟩ := hsk.cons
  obtain ⟨x1, s1, rfl, d1, g4⟩ := g3.cons
  cases g4.nil
  obtain ⟨u0, rfl, w0⟩ := dvn d0 (hx'.at (k := 0) rfl)
  have f1 := ref_of ha d1
  subst f1
  refine hcallI (q := (139, 0, 117, 1, 6)) (M' := tb_m117) (cl := 49) (a := a) (As := [.int u0]) (rest := []) (rets := [33]) (P := fun w z => ai_wd tb_TY ad tys w ∧ ai_fr [] ws1 w ∧ z.toInt = sumF (fun i => E (8 + i)) n 5 0 0) C (by decide) (tv_m118.1.1.1 (75, .invokevirtual 139, 3) (List.mem_of_getElem? (i := 25) rfl)) (tv_m118.2 _ (List.mem_of_getElem? (i := 13) rfl)) rfl rfl rfl rfl (by decide) (Nat.le_of_ble_eq_true rfl) rfl rfl rfl rfl hw1 ha (by decide) ?_ ?_ ?_
  · intro pcr hp
    rw [List.mem_singleton.mp hp]
    exact tv_m117.1.1.1 (33, .ireturn, 1) (List.mem_of_getElem? (i := 22) rfl)
  · intro p2 e2 R2 s2 m2 args2 below2 meth2 c2 Q2 C2 kk2
    exact mo_all (mm_cx (by decide) C2) (Or.inl rfl) ha (by omega) hn (fun i hi => by have := hg.1 i hi; show 0 ≤ E (8 + i) ∧ E (8 + i) ≤ 99; omega) hw1 ⟨hh.1.fr hf1 rfl, fun i hi => (hh.2 i hi).fr hf1 rfl⟩ (fun w z lv2 h1 h2 h3 => kk2 33 w z lv2 (by decide) ⟨h1, h2, h3⟩)
  · intro ws2 z2 hP
    exact kk ws2 z2 _ hP.1 (hf1.tr hP.2.1) hP.2.2
end XRU
def ru7_x : List ai_e := [(0, 4, false, 8, 0), (0, 20, false, 9, 0), (0, 999, false, 10, 0), (0, 8, false, 11, 0)]
def ru7_kn : List ai_k := [(1, 0, (1, 8, 0, 0)), (49, 1, (1, 8, 0, 0)), (1, 1, (1, 9, 0, 0)), (50, 16, (1, 9, 0, -10)), (1, 2, (1, 10, 0, 0)), (50, 17, (1, 10, 0, 0)), (1, 3, (1, 11, 0, 0)), (50, 26, (1, 11, 0, 0))]
theorem ru7_r : ((List.range 4).all fun w => (ai_ex (hk []) 300 169 tb_m169 11 [1297] (268, lw_lo, [], lw_eb (w : Int) (w : Int) ++ ru7_x, ru7_kn, [])).any fun xs => xs.all lw_un) = true := by decide +kernel
theorem ru7_n : ((ai_ex (hk []) 300 169 tb_m169 11 [1297] (268, lw_lo, [], lw_eb (-2147483648) (-1) ++ ru7_x, ru7_kn, [])).any fun xs => xs.all lw_un) = true := by decide +kernel
theorem ru7_o : ((ai_ex (hk []) 300 169 tb_m169 11 [1297] (268, lw_lo, [], lw_eb 6 2147483647 ++ ru7_x, ru7_kn, [])).any fun xs => xs.all lw_un) = true := by decide +kernel
section XRV
variable {ad : List Nat} {M : ai_m} {d : Nat} {p : Program} {l : Launch} {e : Env} {R : Room} {s : State} {m : MethodId} {args : Array Value} {below : List Frame} {meth : Method} {c : Code} {D : va_G} {tys : ai_ty} {A : Nat → Prop} {b L : Nat} {sx : Nat → Int32} {cells slots : Nat} {Q : State → Prop}
set_option maxRecDepth 20000 in
theorem lw_rule {i q0 q49 : Nat} {ws : va_W} (C : ai_cx tb_m169 11 p R s m args c D tys A b L sx cells slots) (e0 : ad[0]? = some q0) (e49 : ad[49]? = some q49) (hi : i + 5 ≤ L) (hL : L ≤ 2560) (hw : ai_wd tb_TY ad tys ws) (hI : Inv ws)
    (k : ∀ wc, ai_wd tb_TY ad tys wc → Inv wc → hG tb_m169 p l e R s m args below meth c D A cells slots Q 1297 [(0, .ref b), (1, .ref q0), (2, .ref q49), (3, .int (nI i))] [] wc) : hG tb_m169 p l e R s m args below meth c D A cells slots Q 268 [(0, .ref b), (1, .ref q0), (2, .ref q49), (3, .int (nI i))] [] ws := by
  have b0 := ai_irg (sx i)
  have b1 := ai_irg (sx (i + 1))
  have b2 := ai_irg (sx (i + 2))
  have b3 := ai_irg (sx (i + 3))
  have b4 := ai_irg (sx (i + 4))
  obtain ⟨t, g, u, q, y, n, j0, j1, E, a, P, hb, hp, hi0, hi1, hs⟩ := id hI
  obtain ⟨hn1, hn2, hn4⟩ := hb.2.2.2.2.1
  obtain ⟨hc, he, hg⟩ := hp.1
  obtain ⟨p3, p26, p8⟩ := hp.2.1
  have b16 := hg.2.1
  have b17 := hg.2.2
  obtain ⟨a1, -, -, e1, -⟩ := hw.get (c := 1) rfl
  have kn : ai_kn ad b (lw_r sx i ++ [(n : Int), E 16, E 17, (a : Int)]) ws ru7_kn := kc (hn1.kn (n := 8) (t := (n : Int)) rfl (by omega)) (kc (hn2.kn (n := 8) (t := (n : Int)) rfl (by omega)) (kc (hc.2.1.kn (n := 9) (t := E 16) rfl (by omega)) (kc (he.2.1.kn (n := 9) (t := E 16) rfl (by omega)) (kc (hc.2.2.kn (n := 10) (t := E 17) rfl (by omega)) (kc (he.2.2.kn (n := 10) (t := E 17) rfl (by omega)) (kc (p3.kn (n := 11) (t := (a : Int)) rfl (by omega)) (kc (p26.kn (n := 11) (t := (a : Int)) rfl (by omega)) k0)))))))
  by_cases h1 : (sx (i + 1)).toInt < 0
  · exact lw_no C e0 e49 hi hL hw hI ru7_n (en_mk (by simp only [lw_r, ru7_x, lw_eb, List.cons_append, List.nil_append, en_b, and_true]; omega) rfl) sb0 kn k
  by_cases h2 : 5 < (sx (i + 1)).toInt
  · exact lw_no C e0 e49 hi hL hw hI ru7_o (en_mk (by simp only [lw_r, ru7_x, lw_eb, List.cons_append, List.nil_append, en_b, and_true]; omega) rfl) sb0 kn k
  by_cases h3 : (sx (i + 1)).toInt = 4
  · have cv : ∀ {w : va_W}, ai_fr [] ws w → vi w 1 0 n ∧ cev w 1 n E := fun hf => ⟨hn1.fr hf rfl, hc.fr hf rfl⟩
    refine law2 (P1 := fun w z1 => ai_wd tb_TY ad tys w ∧ ai_fr [] ws w ∧ z1.toInt = ((wonF E n 5 0 0 : Nat) : Int)) (P2 := fun wa _ w z1 => ai_wd tb_TY ad tys w ∧ ai_fr [] wa w ∧ z1.toInt = ((wonF E n 5 0 0 : Nat) : Int)) (rets1 := [79]) (rets2 := [72]) C e0 e49 hi hL hw (n := 1) (cmp := true) (by decide) lr_ruleA lr_ruleB lr_ruleC (q1 := (31, 0, 50, 1, 5)) (tv_m169.1.1.1 (274, .invokevirtual 31, 3) (List.mem_of_getElem? (i := 76) rfl)) (tv_m169.2 _ (List.mem_of_getElem? (i := 8) rfl)) rfl rfl rfl rfl (by decide) (Nat.le_of_ble_eq_true rfl) rfl rfl (q2 := (34, 0, 118, 1, 6)) (tv_m169.1.1.1 (283, .invokevirtual 34, 3) (List.mem_of_getElem? (i := 83) rfl)) (tv_m169.2 _ (List.mem_of_getElem? (i := 9) rfl)) rfl rfl rfl rfl (by decide) (Nat.le_of_ble_eq_true rfl) rfl rfl ?_ ?_ ?_ (fun wa z1 h => h.1) ?_ (fun wa z1 wb z2 h1 h2 => ⟨h2.1, fun _ => Int32.toInt_inj.mp (by rw [h1.2.2, h2.2.2])⟩) (fun wa z1 wb z2 wc h1 h2 hwc hf => k wc hwc (hI.fr0 hwc ((h1.2.1.tr h2.2.1).tr hf)))
    · intro pcr hpc
      rw [List.mem_singleton.mp hpc]
      exact tv_m50.1.1.1 (79, .ireturn, 1) (List.mem_of_getElem? (i := 21) rfl)
    · intro pcr hpc
      rw [List.mem_singleton.mp hpc]
      exact tv_m118.1.1.1 (72, .ireturn, 1) (List.mem_of_getElem? (i := 22) rfl)
    · intro p e R s m args below meth c Q w hw' hf C2 kk
      exact ru4_call C2 e0 e1 h3 hn4 hg hw' (cv hf) (fun w' z lv g1 g2 g3 => kk 79 w' z lv (by decide) ⟨g1, hf.tr g2, g3⟩)
    · intro p e R s m args below meth c Q wa z1 w hP1 hw' hf C2 kk
      have hfa := hP1.2.1.tr hf
      exact ru4_mall C2 e49 h3 hn4 hg hw' ⟨hn2.fr hfa rfl, he.fr hn4 hfa (fun _ _ => rfl)⟩ (fun w' z lv g1 g2 g3 => kk 72 w' z lv (by decide) ⟨g1, hf.tr g2, g3⟩)
  by_cases h4 : (sx (i + 1)).toInt = 5
  · skip
    refine law2 (P1 := fun w z1 => ai_wd tb_TY ad tys w ∧ ai_fr [] ws w ∧ z1.toInt = sumF (fun i => E (8 + i)) n 5 0 0) (P2 := fun wa _ w z1 => ai_wd tb_TY ad tys w ∧ ai_fr [] wa w ∧ z1.toInt = sumF (fun i => E (8 + i)) n 5 0 0) (rets1 := [87]) (rets2 := [78]) C e0 e49 hi hL hw (n := 1) (cmp := true) (by decide) lr_ruleA lr_ruleB lr_ruleC (q1 := (31, 0, 50, 1, 5)) (tv_m169.1.1.1 (274, .invokevirtual 31, 3) (List.mem_of_getElem? (i := 76) rfl)) (tv_m169.2 _ (List.mem_of_getElem? (i := 8) rfl)) rfl rfl rfl rfl (by decide) (Nat.le_of_ble_eq_true rfl) rfl rfl (q2 := (34, 0, 118, 1, 6)) (tv_m169.1.1.1 (283, .invokevirtual 34, 3) (List.mem_of_getElem? (i := 83) rfl)) (tv_m169.2 _ (List.mem_of_getElem? (i := 9) rfl)) rfl rfl rfl rfl (by decide) (Nat.le_of_ble_eq_true rfl) rfl rfl ?_ ?_ ?_ (fun wa z1 h => h.1) ?_ (fun wa z1 wb z2 h1 h2 => ⟨h2.1, fun _ => Int32.toInt_inj.mp (by rw [h1.2.2, h2.2.2])⟩) (fun wa z1 wb z2 wc h1 h2 hwc hf => k wc hwc (hI.fr0 hwc ((h1.2.1.tr h2.2.1).tr hf)))
    · intro pcr hpc
      rw [List.mem_singleton.mp hpc]
      exact tv_m50.1.1.1 (87, .ireturn, 1) (List.mem_of_getElem? (i := 25) rfl)
    · intro pcr hpc
      rw [List.mem_singleton.mp hpc]
      exact tv_m118.1.1.1 (78, .ireturn, 1) (List.mem_of_getElem? (i := 26) rfl)
    · intro p e R s m args below meth c Q w hw' hf C2 kk
      exact ru5_call C2 e0 e1 h4 hn4 hg hw' ⟨hn1.fr hf rfl, fun i hi => (hc.1 i hi).2.2.1.fr hf rfl⟩ (fun w' z lv g1 g2 g3 => kk 87 w' z lv (by decide) ⟨g1, hf.tr g2, g3⟩)
    · intro p e R s m args below meth c Q wa z1 w hP1 hw' hf C2 kk
      have hfa := hP1.2.1.tr hf
      exact ru5_mall C2 e49 h4 hn4 hg hw' ⟨hn2.fr hfa rfl, fun i hi => (he.1 i hi).2.2.1.fr hfa rfl⟩ (fun w' z lv g1 g2 g3 => kk 78 w' z lv (by decide) ⟨g1, hf.tr g2, g3⟩)
  obtain ⟨j, hj⟩ : ∃ j : Nat, (sx (i + 1)).toInt = (j : Int) := ⟨(sx (i + 1)).toInt.toNat, by omega⟩
  exact lw_no C e0 e49 hi hL hw hI (List.all_eq_true.mp ru7_r j (List.mem_range.mpr (by omega))) (en_mk (by simp only [lw_r, ru7_x, lw_eb, List.cons_append, List.nil_append, en_b, and_true]; omega) rfl) sb0 kn k
end XRV
