theorem lr_testA : lw_A 291 302 2 = true := by decide +kernel
theorem lr_testB : lw_B 302 316 2 true = true := by decide +kernel
theorem lr_testC : lw_C 316 true = true := by decide +kernel
/-! test, compared -/
def ts_en (t : Nat) : List ai_e := [(0, 0, false, 0, 0), (0, 2555, false, 1, 0), (0, 3, false, 2, 0), (0, 20, false, 3, 0), (0, 99, false, 4, 0), ((t : Int) + 1, 4, false, 5, 0)]
def tc_S (t : Nat) : List sm_t := [(96, [], [(1, 8, 0, 0)], [], [(0, 0, false, 0, 0), (0, 2555, false, 1, 0), (3, 3, false, 2, 0), (0, 20, false, 3, 0), (0, 99, false, 4, 0), (((t : Int) + 1), 4, false, 5, 0), (0, 198, false, 6, 0), (-198, 20, false, 7, 0), (0, 20, false, 8, 0)], [(142, 0, 7, 8, 0), (0, 3, 6, 7, 0), (502, 4, 4, 6, 0)]),
  (96, [], [(1, 3, 0, 0)], [], [(0, 0, false, 0, 0), (0, 2555, false, 1, 0), (0, 0, false, 2, 0), (0, 20, false, 3, 0), (0, 99, false, 4, 0), (((t : Int) + 1), 4, false, 5, 0)], []),
  (96, [], [(1, 6, 0, 0)], [], [(0, 0, false, 0, 0), (0, 2555, false, 1, 0), (1, 1, false, 2, 0), (0, 20, false, 3, 0), (0, 99, false, 4, 0), (((t : Int) + 1), 4, false, 5, 0), (0, 10, false, 6, 0)], [(152, 3, 3, 6, 0)]),
  (96, [], [(1, 7, 0, 0)], [], [(0, 0, false, 0, 0), (0, 2555, false, 1, 0), (2, 2, false, 2, 0), (0, 20, false, 3, 0), (0, 99, false, 4, 0), (((t : Int) + 1), 4, false, 5, 0), (0, 10, false, 6, 0), (0, 2, false, 7, 0)], [(154, 6, 6, 7, 0), (152, 3, 3, 6, 0)])]
theorem tc_r : ((List.range 4).all fun t => (ai_ex (hk []) 300 51 tb_m51 10 [] (0, [(0, (0, 0, 0, 0)), (1, (1, 0, 0, (t : Int))), (2, (1, 0, 0, 4))], [], ts_en t, [(2, t, (1, 2, 0, 0)), (1, 1, (1, 3, 0, 0)), (5, t, (1, 4, 0, 0)), (1, 0, (1, 5, 0, 0))], [])).any fun xs => xs.all fun x => (tc_S t).any fun y => sm_is [] x y) = true := by decide +kernel
section Xtc
variable {ad : List Nat} {M : ai_m} {d : Nat} {p : Program} {l : Launch} {e : Env} {R : Room} {s : State} {m : MethodId} {args : Array Value} {below : List Frame} {meth : Method} {c : Code} {D : va_G} {tys : ai_ty} {A : Nat → Prop} {b L : Nat} {sx : Nat → Int32} {cells slots : Nat} {Q : State → Prop}
theorem tc_all {a n t : Nat} {E : Nat → Int} {z1 z2 : Int32} {ws : va_W} (C : ai_cx tb_m51 10 p R s m args c D tys A b L sx cells slots) (ha : ad[0]? = some a) (ez : z1.toInt = t) (ez2 : z2.toInt = 4) (hn : n ≤ 4) (htn : t < n) (hg : good n E) (hw : ai_wd tb_TY ad tys ws) (hh : vi ws 1 0 n ∧ cev ws 1 n E)
    (kk : ∀ (ws' : va_W) (z : Int32) (lv' : List (Nat × Value)), ai_wd tb_TY ad tys ws' → ai_fr [] ws ws' → z.toInt = yl (E t) (E 16) (E (12 + t)) → hG tb_m51 p l e R s m args below meth c D A cells slots Q 96 lv' [.int z] ws') : hG tb_m51 p l e R s m args below meth c D A cells slots Q 0 [(0, .ref a), (1, .int z1), (2, .int z2)] [] ws := by
  obtain ⟨g1, -, -, g4⟩ := hg.1 t htn
  have g16 := hg.2.1
  obtain ⟨c1, -, -, c4⟩ := hh.2.1 t htn
  refine hsum (st := (0, [(0, (0, 0, 0, 0)), (1, (1, 0, 0, (t : Int))), (2, (1, 0, 0, 4))], [], ts_en t, [(2, t, (1, 2, 0, 0)), (1, 1, (1, 3, 0, 0)), (5, t, (1, 4, 0, 0)), (1, 0, (1, 5, 0, 0))], [])) (List.all_eq_true.mp tc_r t (List.mem_range.mpr (by omega))) rfl C (r := [0, 0, E t, E 16, E (12 + t), (n : Int)]) ⟨en_mk (by simp only [ts_en, en_b, and_true]; omega) rfl, sb0, ⟨rfl, Or.inl ⟨rfl, a, ha, rfl⟩, rfl, int_dv (z := 0) rfl (by omega), rfl, int_dv (z := 0) rfl (by omega), trivial⟩, trivial, hw, kc (c1.kn (n := 2) (t := E t) rfl (by omega)) (kc (hh.2.2.1.kn (n := 3) (t := E 16) rfl (by omega)) (kc (c4.kn (n := 4) (t := E (12 + t)) rfl (by omega)) (kc (hh.1.kn (n := 5) (t := (n : Int)) rfl (by omega)) k0))), fun _ _ _ _ h => h, fun h => by cases h⟩ (fun x hx r' lv' sk' ws1 hx' hb hl hs hlo hsk hw1 hv' hf1 _ => ?_)
  have n0 := nm_x hx' (k := 0) rfl
  have n2 := nm_x hx' (k := 2) rfl
  have n3 := nm_x hx' (k := 3) rfl
  have n4 := nm_x hx' (k := 4) rfl
  have hy := yl_eq (E t) (E 16) (E (12 + t))
  unfold tc_S at hx
  rcases List.mem_cons.mp hx with rfl | hx
  · obtain ⟨z, rfl, hz⟩ := sk1 rfl hsk
    unfold vn at hz
    dsimp only at hz
    simp (config := { decide := true }) only [bnd_b, lin_b, lin_q, Nat.reduceAdd, Nat.zero_add, Nat.reduceEqDiff, reduceIte, and_true, Int.add_zero] at hb hl
    refine kk ws1 z lv' hw1 hf1 ?_
    rw [hy]
    omega
  rcases List.mem_cons.mp hx with rfl | hx
  · obtain ⟨z, rfl, hz⟩ := sk1 rfl hsk
    unfold vn at hz
    dsimp only at hz
    simp (config := { decide := true }) only [bnd_b, lin_b, lin_q, Nat.reduceAdd, Nat.zero_add, Nat.reduceEqDiff, reduceIte, and_true, Int.add_zero] at hb hl
    refine kk ws1 z lv' hw1 hf1 ?_
    rw [hy]
    omega
  rcases List.mem_cons.mp hx with rfl | hx
  · obtain ⟨z, rfl, hz⟩ := sk1 rfl hsk
    unfold vn at hz
    dsimp only at hz
    simp (config := { decide := true }) only [bnd_b, lin_b, lin_q, Nat.reduceAdd, Nat.zero_add, Nat.reduceEqDiff, reduceIte, and_true, Int.add_zero] at hb hl
    refine kk ws1 z lv' hw1 hf1 ?_
    rw [hy]
    omega
  rcases List.mem_cons.mp hx with rfl | hx
  · obtain ⟨z, rfl, hz⟩ := sk1 rfl hsk
    unfold vn at hz
    dsimp only at hz
    simp (config := { decide := true }) only [bnd_b, lin_b, lin_q, Nat.reduceAdd, Nat.zero_add, Nat.reduceEqDiff, reduceIte, and_true, Int.add_zero] at hb hl
    refine kk ws1 z lv' hw1 hf1 ?_
    rw [hy]
    omega
  cases hx
end Xtc
def tm_S (t : Nat) : List sm_t := [(46, [], [(1, 0, 0, 0)], [], [(0, 0, false, 0, 0), (0, 2555, false, 1, 0), (3, 3, false, 2, 0), (0, 20, false, 3, 0), (0, 99, false, 4, 0), (((t : Int) + 1), 4, false, 5, 0), (0, 198, false, 6, 0)], [(4, 3, 6, 3, 1), (502, 4, 4, 6, 0)]),
  (46, [], [(1, 8, 0, 0)], [], [(0, 0, false, 0, 0), (0, 2555, false, 1, 0), (3, 3, false, 2, 0), (1, 20, false, 3, 0), (0, 99, false, 4, 0), (((t : Int) + 1), 4, false, 5, 0), (0, 19, false, 6, 0), (0, 198, false, 7, 0), (-197, 20, false, 8, 0)], [(0, 3, 7, 8, 0), (502, 4, 4, 7, 0), (5, 3, 6, 3, 1), (502, 4, 4, 6, 0)]),
  (46, [], [(1, 3, 0, 0)], [], [(0, 0, false, 0, 0), (0, 2555, false, 1, 0), (0, 0, false, 2, 0), (0, 20, false, 3, 0), (0, 99, false, 4, 0), (((t : Int) + 1), 4, false, 5, 0)], []),
  (46, [], [(1, 6, 0, 0)], [], [(0, 0, false, 0, 0), (0, 2555, false, 1, 0), (1, 1, false, 2, 0), (0, 20, false, 3, 0), (0, 99, false, 4, 0), (((t : Int) + 1), 4, false, 5, 0), (0, 10, false, 6, 0)], [(152, 3, 3, 6, 0)]),
  (46, [], [(1, 7, 0, 0)], [], [(0, 0, false, 0, 0), (0, 2555, false, 1, 0), (2, 2, false, 2, 0), (0, 20, false, 3, 0), (0, 99, false, 4, 0), (((t : Int) + 1), 4, false, 5, 0), (0, 10, false, 6, 0), (0, 2, false, 7, 0)], [(154, 6, 6, 7, 0), (152, 3, 3, 6, 0)])]
theorem tm_r : ((List.range 4).all fun t => (ai_ex (hk []) 300 119 tb_m119 10 [] (0, [(0, (0, 49, 0, 0)), (1, (1, 0, 0, (t : Int))), (2, (1, 0, 0, 4))], [], ts_en t, [(50, t, (1, 2, 0, 0)), (50, 16, (1, 3, 0, -10)), (50, 12 + t, (1, 4, 0, 0)), (49, 1, (1, 5, 0, 0))], [])).any fun xs => xs.all fun x => (tm_S t).any fun y => sm_is [] x y) = true := by decide +kernel
section Xtm
variable {ad : List Nat} {M : ai_m} {d : Nat} {p : Program} {l : Launch} {e : Env} {R : Room} {s : State} {m : MethodId} {args : Array Value} {below : List Frame} {meth : Method} {c : Code} {D : va_G} {tys : ai_ty} {A : Nat → Prop} {b L : Nat} {sx : Nat → Int32} {cells slots : Nat} {Q : State → Prop}
theorem tm_all {a n t : Nat} {E : Nat → Int} {z1 z2 : Int32} {ws : va_W} (C : ai_cx tb_m119 10 p R s m args c D tys A b L sx cells slots) (ha : ad[49]? = some a) (ez : z1.toInt = t) (ez2 : z2.toInt = 4) (hn : n ≤ 4) (htn : t < n) (hg : good n E) (hw : ai_wd tb_TY ad tys ws) (hh : vi ws 49 1 n ∧ pev ws 0 n E)
    (kk : ∀ (ws' : va_W) (z : Int32) (lv' : List (Nat × Value)), ai_wd tb_TY ad tys ws' → ai_fr [] ws ws' → z.toInt = yl (E t) (E 16) (E (12 + t)) → hG tb_m119 p l e R s m args below meth c D A cells slots Q 46 lv' [.int z] ws') : hG tb_m119 p l e R s m args below meth c D A cells slots Q 0 [(0, .ref a), (1, .int z1), (2, .int z2)] [] ws := by
  obtain ⟨g1, -, -, g4⟩ := hg.1 t htn
  have g16 := hg.2.1
  obtain ⟨c1, -, -, c4⟩ := hh.2.1 t htn
  refine hsum (st := (0, [(0, (0, 49, 0, 0)), (1, (1, 0, 0, (t : Int))), (2, (1, 0, 0, 4))], [], ts_en t, [(50, t, (1, 2, 0, 0)), (50, 16, (1, 3, 0, -10)), (50, 12 + t, (1, 4, 0, 0)), (49, 1, (1, 5, 0, 0))], [])) (List.all_eq_true.mp tm_r t (List.mem_range.mpr (by omega))) rfl C (r := [0, 0, E t, E 16, E (12 + t), (n : Int)]) ⟨en_mk (by simp only [ts_en, en_b, and_true]; omega) rfl, sb0, ⟨rfl, Or.inl ⟨rfl, a, ha, rfl⟩, rfl, int_dv (z := 0) rfl (by omega), rfl, int_dv (z := 0) rfl (by omega), trivial⟩, trivial, hw, kc (c1.kn (n := 2) (t := E t) rfl (by omega)) (kc (hh.2.2.1.kn (n := 3) (t := E 16) rfl (by omega)) (kc (c4.kn (n := 4) (t := E (12 + t)) rfl (by omega)) (kc (hh.1.kn (n := 5) (t := (n : Int)) rfl (by omega)) k0))), fun _ _ _ _ h => h, fun h => by cases h⟩ (fun x hx r' lv' sk' ws1 hx' hb hl hs hlo hsk hw1 hv' hf1 _ => ?_)
  have n0 := nm_x hx' (k := 0) rfl
  have n2 := nm_x hx' (k := 2) rfl
  have n3 := nm_x hx' (k := 3) rfl
  have n4 := nm_x hx' (k := 4) rfl
  have hy := yl_eq (E t) (E 16) (E (12 + t))
  unfold tm_S at hx
  rcases List.mem_cons.mp hx with rfl | hx
  · obtain ⟨z, rfl, hz⟩ := sk1 rfl hsk
    unfold vn at hz
    dsimp only at hz
    simp (config := { decide := true }) only [bnd_b, lin_b, lin_q, Nat.reduceAdd, Nat.zero_add, Nat.reduceEqDiff, reduceIte, and_true, Int.add_zero] at hb hl
    refine kk ws1 z lv' hw1 hf1 ?_
    rw [hy]
    omega
  rcases List.mem_cons.mp hx with rfl | hx
  · obtain ⟨z, rfl, hz⟩ := sk1 rfl hsk
    unfold vn at hz
    dsimp only at hz
    simp (config := { decide := true }) only [bnd_b, lin_b, lin_q, Nat.reduceAdd, Nat.zero_add, Nat.reduceEqDiff, reduceIte, and_true, Int.add_zero] at hb hl
    refine kk ws1 z lv' hw1 hf1 ?_
    rw [hy]
    omega
  rcases List.mem_cons.mp hx with rfl | hx
  · obtain ⟨z, rfl, hz⟩ := sk1 rfl hsk
    unfold vn at hz
    dsimp only at hz
    simp (config := { decide := true }) only [bnd_b, lin_b, lin_q, Nat.reduceAdd, Nat.zero_add, Nat.reduceEqDiff, reduceIte, and_true, Int.add_zero] at hb hl
    refine kk ws1 z lv' hw1 hf1 ?_
    rw [hy]
    omega
  rcases List.mem_cons.mp hx with rfl | hx
  · obtain ⟨z, rfl, hz⟩ := sk1 rfl hsk
    unfold vn at hz
    dsimp only at hz
    simp (config := { decide := true }) only [bnd_b, lin_b, lin_q, Nat.reduceAdd, Nat.zero_add, Nat.reduceEqDiff, reduceIte, and_true, Int.add_zero] at hb hl
    refine kk ws1 z lv' hw1 hf1 ?_
    rw [hy]
    omega
  rcases List.mem_cons.mp hx with rfl | hx
  · obtain ⟨z, rfl, hz⟩ := sk1 rfl hsk
    unfold vn at hz
    dsimp only at hz
    simp (config := { decide := true }) only [bnd_b, lin_b, lin_q, Nat.reduceAdd, Nat.zero_add, Nat.reduceEqDiff, reduceIte, and_true, Int.add_zero] at hb hl
    refine kk ws1 z lv' hw1 hf1 ?_
    rw [hy]
    omega
  cases hx
end Xtm
def ts7_e (t1 t2 w1 w2 : Int) : List ai_e := [(0, 0, false, 0, 0), (0, 2555, false, 1, 0), (0, 0, false, 2, 0), (-2147483648, 2147483647, false, 3, 0), (t1, t2, false, 4, 0), (w1, w2, false, 5, 0), (-2147483648, 2147483647, false, 6, 0), (-2147483648, 2147483647, false, 7, 0)]
def ts7_kn : List ai_k := [(1, 0, (1, 8, 0, 0)), (49, 1, (1, 8, 0, 0))]
theorem ts7_n : ((ai_ex (hk []) 400 169 tb_m169 11 [1297] (291, lw_lo, [], lw_eb (-2147483648) (-1), [], [])).any fun xs => xs.all lw_un) = true := by decide +kernel
theorem ts7_o : ((ai_ex (hk []) 400 169 tb_m169 11 [1297] (291, lw_lo, [], lw_eb 0 2147483647 ++ [(0, 4, false, 8, 0)], ts7_kn, [(5, 4, 8, 4, 0)])).any fun xs => xs.all lw_un) = true := by decide +kernel
theorem ts7_wn : ((List.range 4).all fun t => (ai_ex (hk []) 400 169 tb_m169 11 [1297] (291, lw_lo, [], ts7_e (t : Int) (t : Int) (-2147483648) (-1) ++ [((t : Int) + 1, 4, false, 8, 0)], ts7_kn, [])).any fun xs => xs.all lw_un) = true := by decide +kernel
theorem ts7_wo : ((List.range 4).all fun t => (ai_ex (hk []) 400 169 tb_m169 11 [1297] (291, lw_lo, [], ts7_e (t : Int) (t : Int) 5 2147483647 ++ [((t : Int) + 1, 4, false, 8, 0)], ts7_kn, [])).any fun xs => xs.all lw_un) = true := by decide +kernel
theorem ts7_r : ((List.range 4).all fun t => (List.range 4).all fun w => (ai_ex (hk []) 400 169 tb_m169 11 [1297] (291, lw_lo, [], ts7_e (t : Int) (t : Int) (w : Int) (w : Int) ++ [((t : Int) + 1, 4, false, 8, 0), (0, 99, false, 9, 0)], ts7_kn ++ [(2 + w, t, (1, 9, 0, 0)), (50, 4 * w + t, (1, 9, 0, 0))], [])).any fun xs => xs.all lw_un) = true := by decide +kernel
section XTV
variable {ad : List Nat} {M : ai_m} {d : Nat} {p : Program} {l : Launch} {e : Env} {R : Room} {s : State} {m : MethodId} {args : Array Value} {below : List Frame} {meth : Method} {c : Code} {D : va_G} {tys : ai_ty} {A : Nat → Prop} {b L : Nat} {sx : Nat → Int32} {cells slots : Nat} {Q : State → Prop}
theorem lw_test {i q0 q49 : Nat} {ws : va_W} (C : ai_cx tb_m169 11 p R s m args c D tys A b L sx cells slots) (e0 : ad[0]? = some q0) (e49 : ad[49]? = some q49) (hi : i + 5 ≤ L) (hL : L ≤ 2560) (hw : ai_wd tb_TY ad tys ws) (hI : Inv ws)
    (k : ∀ wc, ai_wd tb_TY ad tys wc → Inv wc → hG tb_m169 p l e R s m args below meth c D A cells slots Q 1297 [(0, .ref b), (1, .ref q0), (2, .ref q49), (3, .int (nI i))] [] wc) : hG tb_m169 p l e R s m args below meth c D A cells slots Q 291 [(0, .ref b), (1, .ref q0), (2, .ref q49), (3, .int (nI i))] [] ws := by
  have b0 := ai_irg (sx i)
  have b1 := ai_irg (sx (i + 1))
  have b2 := ai_irg (sx (i + 2))
  have b3 := ai_irg (sx (i + 3))
  have b4 := ai_irg (sx (i + 4))
  obtain ⟨t, g, u, q, y, n, j0, j1, E, a, P, hb, hp, hi0, hi1, hs⟩ := id hI
  obtain ⟨hn1, hn2, hn4⟩ := hb.2.2.2.2.1
  obtain ⟨hc, he, hg⟩ := hp.1
  by_cases h1 : (sx (i + 1)).toInt < 0
  · exact lw_no (rr := []) C e0 e49 hi hL hw hI ts7_n (en_mk (by simp only [lw_r, lw_eb, List.append_nil, en_b, and_true]; omega) rfl) sb0 k0 k
  by_cases h2 : (n : Int) ≤ (sx (i + 1)).toInt
  · refine lw_no (rr := [(n : Int)]) C e0 e49 hi hL hw hI ts7_o (en_mk (by simp only [lw_r, lw_eb, List.cons_append, List.nil_append, en_b, and_true]; omega) rfl) (fun q hq => ?_) (kc (hn1.kn (n := 8) (t := (n : Int)) rfl (by omega)) (kc (hn2.kn (n := 8) (t := (n : Int)) rfl (by omega)) k0)) k
    rw [List.mem_singleton.mp hq]
    refine ⟨(sx (i + 1)).toInt, (n : Int), (sx (i + 1)).toInt, rfl, rfl, rfl, fun h0 => ?_, fun h0 => ?_, fun h0 => ?_, fun h0 => ?_, fun h0 => ?_, fun h0 => ?_⟩
    all_goals dsimp only at h0 ⊢
    all_goals omega
  obtain ⟨tn, htt⟩ : ∃ tn : Nat, (sx (i + 1)).toInt = (tn : Int) := ⟨(sx (i + 1)).toInt.toNat, by omega⟩
  have htn : tn < n := by omega
  have kn : ai_kn ad b (lw_r sx i ++ [(n : Int)]) ws ts7_kn := kc (hn1.kn (n := 8) (t := (n : Int)) rfl (by omega)) (kc (hn2.kn (n := 8) (t := (n : Int)) rfl (by omega)) k0)
  by_cases h3 : (sx (i + 2)).toInt < 0
  · exact lw_no C e0 e49 hi hL hw hI (List.all_eq_true.mp ts7_wn tn (List.mem_range.mpr (by omega))) (en_mk (by simp only [lw_r, ts7_e, List.cons_append, List.nil_append, en_b, and_true]; omega) rfl) sb0 kn k
  by_cases h4 : 4 < (sx (i + 2)).toInt
  · exact lw_no C e0 e49 hi hL hw hI (List.all_eq_true.mp ts7_wo tn (List.mem_range.mpr (by omega))) (en_mk (by simp only [lw_r, ts7_e, List.cons_append, List.nil_append, en_b, and_true]; omega) rfl) sb0 kn k
  by_cases h5 : (sx (i + 2)).toInt = 4
  · skip
    refine law2 (P1 := fun w z1 => ai_wd tb_TY ad tys w ∧ ai_fr [] ws w ∧ z1.toInt = yl (E tn) (E 16) (E (12 + tn))) (P2 := fun wa _ w z1 => ai_wd tb_TY ad tys w ∧ ai_fr [] wa w ∧ z1.toInt = yl (E tn) (E 16) (E (12 + tn))) (rets1 := [96]) (rets2 := [46]) C e0 e49 hi hL hw (n := 2) (cmp := true) (by decide) lr_testA lr_testB lr_testC (q1 := (35, 0, 51, 2, 5)) (tv_m169.1.1.1 (302, .invokevirtual 35, 3) (List.mem_of_getElem? (i := 98) rfl)) (tv_m169.2 _ (List.mem_of_getElem? (i := 10) rfl)) rfl rfl rfl rfl (by decide) (Nat.le_of_ble_eq_true rfl) rfl rfl (q2 := (39, 0, 119, 2, 6)) (tv_m169.1.1.1 (316, .invokevirtual 39, 3) (List.mem_of_getElem? (i := 110) rfl)) (tv_m169.2 _ (List.mem_of_getElem? (i := 11) rfl)) rfl rfl rfl rfl (by decide) (Nat.le_of_ble_eq_true rfl) rfl rfl ?_ ?_ ?_ (fun wa z1 h => h.1) ?_ (fun wa z1 wb z2 h1 h2 => ⟨h2.1, fun _ => Int32.toInt_inj.mp (by rw [h1.2.2, h2.2.2])⟩) (fun wa z1 wb z2 wc h1 h2 hwc hf => k wc hwc (hI.fr0 hwc ((h1.2.1.tr h2.2.1).tr hf)))
    · intro pcr hpc
      rw [List.mem_singleton.mp hpc]
      exact tv_m51.1.1.1 (96, .ireturn, 1) (List.mem_of_getElem? (i := 37) rfl)
    · intro pcr hpc
      rw [List.mem_singleton.mp hpc]
      exact tv_m119.1.1.1 (46, .ireturn, 1) (List.mem_of_getElem? (i := 28) rfl)
    · intro p e R s m args below meth c Q w hw' hf C2 kk
      exact tc_all C2 e0 htt h5 hn4 htn hg hw' ⟨hn1.fr hf rfl, hc.fr hf rfl⟩ (fun w' z lv g1 g2 g3 => kk 96 w' z lv (by decide) ⟨g1, hf.tr g2, g3⟩)
    · intro p e R s m args below meth c Q wa z1 w hP1 hw' hf C2 kk
      have hfa := hP1.2.1.tr hf
      exact tm_all C2 e49 htt h5 hn4 htn hg hw' ⟨hn2.fr hfa rfl, he.fr hn4 hfa (fun _ _ => rfl)⟩ (fun w' z lv g1 g2 g3 => kk 46 w' z lv (by decide) ⟨g1, hf.tr g2, g3⟩)
  obtain ⟨j, hj⟩ : ∃ j : Nat, (sx (i + 2)).toInt = (j : Int) := ⟨(sx (i + 2)).toInt.toNat, by omega⟩
  have hj4 : j < 4 := by omega
  obtain ⟨c1, c2, c3, c4⟩ := hc.1 tn htn
  obtain ⟨m1, m2, m3, m4⟩ := he.1 tn htn
  obtain ⟨g1, g2, g3, g4⟩ := hg.1 tn htn
  have fin : ∀ {v : Int}, (0 ≤ v ∧ v ≤ 99) → vi ws (2 + j) tn v → vi ws 50 (4 * j + tn) v → hG tb_m169 p l e R s m args below meth c D A cells slots Q 291 [(0, .ref b), (1, .ref q0), (2, .ref q49), (3, .int (nI i))] [] ws := fun {v} hv w1 w2 => lw_no (rr := [(n : Int), v]) C e0 e49 hi hL hw hI (List.all_eq_true.mp (List.all_eq_true.mp ts7_r tn (List.mem_range.mpr (by omega))) j (List.mem_range.mpr hj4)) (en_mk (by simp only [lw_r, ts7_e, List.cons_append, List.nil_append, en_b, and_true]; omega) rfl) sb0 (kc (hn1.kn (n := 8) (t := (n : Int)) rfl (by omega)) (kc (hn2.kn (n := 8) (t := (n : Int)) rfl (by omega)) (kc (w1.kn (n := 9) (t := v) rfl (by omega)) (kc (w2.kn (n := 9) (t := v) rfl (by omega)) k0)))) k
  match j, hj4, @fin with
  | 0, _, fin => exact fin (v := E tn) (by omega) c1 (by rw [show 4 * 0 + tn = tn + 0 by omega]; exact m1)
  | 1, _, fin => exact fin (v := E (4 + tn)) (by omega) c2 m2
  | 2, _, fin => exact fin (v := E (8 + tn)) (by omega) c3 m3
  | 3, _, fin => exact fin (v := E (12 + tn)) (by omega) c4 m4
  | j + 4, h, _ => exact absurd h (by omega)
end XTV
