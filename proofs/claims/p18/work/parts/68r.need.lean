theorem lr_needA : lw_A 574 580 1 = true := by decide +kernel
theorem lr_needB : lw_B 580 589 1 true = true := by decide +kernel
theorem lr_needC : lw_C 589 true = true := by decide +kernel
/-! need, compared -/
theorem off9n {j : Nat} (hj : j < 81) : ai_wr tb_WR7 50 j j = false := wr_no fun q hq => by
  unfold tb_WR7 at hq
  simp only [List.mem_cons, List.not_mem_nil, or_false] at hq
  rcases hq with rfl | rfl | rfl | rfl | rfl | rfl | rfl | rfl | rfl | rfl <;> dsimp only <;> omega
theorem pevn {ad : List Nat} {tys : ai_ty} {ws ws' : va_W} {n : Nat} {E : Nat → Int} (hn : n ≤ 4) (h : cs_P ad tys 0 108 ws ws') (hc : pev ws 0 n E) : pev ws' 108 n E := by
  have cp : ∀ {j : Nat} {z : Int}, j < 27 → vi ws 50 (j + 0) z → vi ws' 50 (j + 108) z := fun {j z} hj hz => by
    have h1 := h.2.2 j z hj (by rw [Nat.add_comm]; exact hz)
    rw [Nat.add_comm] at h1
    exact h1
  refine ⟨fun i hi => ?_, cp (by decide) hc.2.1, cp (by decide) hc.2.2⟩
  obtain ⟨x1, x2, x3, x4⟩ := hc.1 i hi
  exact ⟨cp (by omega) x1, cp (by omega) x2, cp (by omega) x3, cp (by omega) x4⟩
theorem nd9_c0 : ((List.range 4).all fun t => (ai_ex (hk []) 200 64 tb_m64 10 [32] (0, [(0, (0, 0, 0, 0)), (1, (1, 0, 0, (t : Int)))], [], [(0, 0, false, 0, 0), (0, 2555, false, 1, 0), ((t : Int) + 1, 4, false, 2, 0), (0, 3, false, 3, 0), (0, 20, false, 4, 0)], [(1, 0, (1, 2, 0, 0)), (2, t, (1, 3, 0, 0)), (1, 1, (1, 4, 0, 0))], [])).any fun xs => xs.all fun x => ([(32, [], [(1, 4, 0, 0), (1, 3, 0, 0), (1, 0, 0, (t : Int)), (0, 1, 0, 0)], [], [(0, 0, false, 0, 0), (0, 2555, false, 1, 0), ((t : Int) + 1, 4, false, 2, 0), (0, 3, false, 3, 0), (0, 20, false, 4, 0)], [])] : List sm_t).any fun y => sm_is [] x y) = true := by decide +kernel
theorem nd9_c1 : ((ai_ex (hk []) 200 64 tb_m64 10 [] (35, [], [(1, 2, 0, 0)], [(0, 0, false, 0, 0), (0, 2555, false, 1, 0), (-4, 20, false, 2, 0)], [], [])).any fun xs => xs.all fun x => ([(39, [], [(1, 2, 0, 0)], [], [(0, 0, false, 0, 0), (0, 2555, false, 1, 0), (-4, 20, false, 2, 0)], [])] : List sm_t).any fun y => sm_is [] x y) = true := by decide +kernel
theorem nd9_m0 : ((List.range 4).all fun t => (ai_ex (hk []) 200 140 tb_m140 10 [14] (0, [(0, (0, 49, 0, 0)), (1, (1, 0, 0, (t : Int)))], [], [(0, 0, false, 0, 0), (0, 2555, false, 1, 0), ((t : Int) + 1, 4, false, 2, 0)], [(49, 1, (1, 2, 0, 0))], [])).any fun xs => xs.all fun x => ([(14, [(0, (0, 49, 0, 0)), (1, (1, 0, 0, (t : Int)))], [(1, 0, 0, 108), (1, 0, 0, 0), (0, 49, 0, 0)], [], [(0, 0, false, 0, 0), (0, 2555, false, 1, 0), ((t : Int) + 1, 4, false, 2, 0)], [])] : List sm_t).any fun y => sm_is [] x y) = true := by decide +kernel
theorem nd9_m1 : ((List.range 4).all fun t => (ai_ex (hk []) 200 140 tb_m140 10 [19] (17, [(0, (0, 49, 0, 0)), (1, (1, 0, 0, (t : Int)))], [], [(0, 0, false, 0, 0), (0, 2555, false, 1, 0)], [], [])).any fun xs => xs.all fun x => ([(19, [], [(1, 0, 0, (t : Int)), (0, 49, 0, 0)], [], [(0, 0, false, 0, 0), (0, 2555, false, 1, 0)], [])] : List sm_t).any fun y => sm_is [] x y) = true := by decide +kernel
section XND
variable {ad : List Nat} {M : ai_m} {d : Nat} {p : Program} {l : Launch} {e : Env} {R : Room} {s : State} {m : MethodId} {args : Array Value} {below : List Frame} {meth : Method} {c : Code} {D : va_G} {tys : ai_ty} {A : Nat → Prop} {b L : Nat} {sx : Nat → Int32} {cells slots : Nat} {Q : State → Prop}
theorem nd9_cls {a0 a1 n t : Nat} {E : Nat → Int} {zt : Int32} {ws : va_W} (C : ai_cx tb_m64 10 p R s m args c D tys A b L sx cells slots) (ha0 : ad[0]? = some a0) (ha1 : ad[1]? = some a1) (hn : n ≤ 4) (hg : good n E) (ht : t < n) (et : zt.toInt = t) (hw : ai_wd tb_TY ad tys ws) (hv0 : vi ws 1 0 n) (hc : cev ws 1 n E)
    (kk : ∀ (pcr : Nat) (ws' : va_W) (z : Int32) (lv' : List (Nat × Value)), pcr ∈ [39] → ai_wd tb_TY ad tys ws' → ai_fr [] ws ws' → z.toInt = paF (E (4 + t)) (E t) (E 16).toNat (E (8 + t)) (E (12 + t)) 0 → hG tb_m64 p l e R s m args below meth c D A cells slots Q pcr lv' [.int z] ws') : hG tb_m64 p l e R s m args below meth c D A cells slots Q 0 [(0, .ref a0), (1, .int zt)] [] ws := by
  obtain ⟨b1, b2, b3, b4⟩ := hg.1 t ht
  obtain ⟨b5, b6⟩ := hg.2
  obtain ⟨v1, v2, v3, v4⟩ := hc.1 t ht
  refine hsum (st := (0, [(0, (0, 0, 0, 0)), (1, (1, 0, 0, (t : Int)))], [], [(0, 0, false, 0, 0), (0, 2555, false, 1, 0), ((t : Int) + 1, 4, false, 2, 0), (0, 3, false, 3, 0), (0, 20, false, 4, 0)], [(1, 0, (1, 2, 0, 0)), (2, t, (1, 3, 0, 0)), (1, 1, (1, 4, 0, 0))], [])) (List.all_eq_true.mp nd9_c0 t (List.mem_range.mpr (by omega))) rfl C (r := [0, 0, (n : Int), E t, E 16]) ⟨en_mk (by simp only [en_b, and_true]; omega) rfl, sb0, ⟨rfl, Or.inl ⟨rfl, a0, ha0, rfl⟩, rfl, int_dv (z := 0) rfl (by omega), trivial⟩, trivial, hw, kc (hv0.kn (n := 2) (t := (n : Int)) rfl (by omega)) (kc (v1.kn (n := 3) (t := E t) rfl (by omega)) (kc (hc.2.1.kn (n := 4) (t := E 16) rfl (by omega)) k0)), fun _ _ _ _ h => h, fun h => by cases h⟩ (fun x hx r1 lv1 st1 ws1 hx' hb1 hl1 hs1 hlo1 hsk hw1 hv1 hf1 _ => ?_)
  have hx9 := List.mem_singleton.mp hx
  subst hx9
  dsimp only at hsk ⊢
  obtain ⟨x0, s0, rfl, c0, g3⟩ := hsk.cons
  obtain ⟨x1, s1, rfl, c1, g4⟩ := g3.cons
  obtain ⟨x2, s2, rfl, c2, g5⟩ := g4.cons
  obtain ⟨x3, s3, rfl, c3, g6⟩ := g5.cons
  cases g6.nil
  obtain ⟨u0, rfl, w0⟩ := dvn c0 (hx'.at (k := 4) rfl)
  obtain ⟨u1, rfl, w1⟩ := dvn c1 (hx'.at (k := 3) rfl)
  obtain ⟨u2, rfl, w2⟩ := dvn c2 (hx'.at (k := 0) rfl)
  have f3 := ref_of ha1 c3
  subst f3
  refine hcallI (q := (156, 0, 17, 3, 0)) (M' := tb_m17) (cl := 1) (a := a1) (As := [.int u2, .int u1, .int u0]) (rest := []) (rets := [90]) (P := fun w i => ai_wd tb_TY ad tys w ∧ ai_fr [] ws1 w ∧ i.toInt = paF (E (4 + t)) (E t) (E 16).toNat (E (8 + t)) (E (12 + t)) 0) C (by decide) (tv_m64.1.1.1 (32, .invokevirtual 156, 3) (List.mem_of_getElem? (i := 16) rfl)) (tv_m64.2 _ (List.mem_of_getElem? (i := 14) rfl)) rfl rfl rfl rfl (by decide) (Nat.le_of_ble_eq_true rfl) rfl rfl rfl rfl hw1 ha1 (Nat.le_of_ble_eq_true rfl) ?_ ?_ ?_
  · intro pcr hp
    rw [List.mem_singleton.mp hp]
    exact tv_m17.1.1.1 (90, .ireturn, 1) (List.mem_of_getElem? (i := 48) rfl)
  · intro p2 e2 R2 s2 m2 args2 below2 meth2 c2 Q2 C2 kk2
    exact pq_all (mm_cx (by decide) C2) ha1 (t := t) (by omega) (by omega) (by omega) (by omega) b1 b2 (by omega) b4 b5 hw1 (v2.fr hf1 rfl) (v3.fr hf1 rfl) (v4.fr hf1 rfl) (fun w i lv2 h1 h2 h3 => kk2 90 w i lv2 (by decide) ⟨h1, h2, h3⟩)
  · intro ws2 i hP
    have bi := paF_b (z := E (4 + t)) (k := E t) (E 16).toNat (E (8 + t)) (E (12 + t)) 0 (by omega)
    have hi2 := hP.2.2
    refine hG_sub (lv2 := []) (fun q hq => by cases hq) ?_
    refine hsum (st := (35, [], [(1, 2, 0, 0)], [(0, 0, false, 0, 0), (0, 2555, false, 1, 0), (-4, 20, false, 2, 0)], [], [])) nd9_c1 rfl C (r := [0, 0, i.toInt]) ⟨en_mk (by simp only [en_b, and_true]; omega) rfl, sb0, trivial, ⟨int_dv (z := i.toInt) rfl (by omega), trivial⟩, hP.1, k0, fun _ _ _ _ h => h, fun h => by cases h⟩ (fun x hx r3 lv3 st3 ws3 hx3 hb3 hl3 hs3 hlo3 hsk3 hw3 hv3 hf3 _ => ?_)
    have hx9 := List.mem_singleton.mp hx
    subst hx9
    obtain ⟨w, rfl, hw'⟩ := sk1 rfl hsk3
    rw [vn_at hx3 (n := 2) (z := i.toInt) rfl] at hw'
    exact kk 39 ws3 w lv3 (by decide) hw3 ((hf1.tr hP.2.1).tr hf3) (by omega)
theorem nd9_mdl {ar n t : Nat} {E : Nat → Int} {zt : Int32} {ws : va_W} (C : ai_cx tb_m140 10 p R s m args c D tys A b L sx cells slots) (ha : ad[49]? = some ar) (hn : n ≤ 4) (hg : good n E) (ht : t < n) (et : zt.toInt = t) (hw : ai_wd tb_TY ad tys ws) (hv0 : vi ws 49 1 n) (hc : pev ws 0 n E)
    (kk : ∀ (pcr : Nat) (ws' : va_W) (z : Int32) (lv' : List (Nat × Value)), pcr ∈ [22] → ai_wd tb_TY ad tys ws' → ai_fr alW9 ws ws' → z.toInt = paF (E (4 + t)) (E t) (E 16).toNat (E (8 + t)) (E (12 + t)) 0 → hG tb_m140 p l e R s m args below meth c D A cells slots Q pcr lv' [.int z] ws') : hG tb_m140 p l e R s m args below meth c D A cells slots Q 0 [(0, .ref ar), (1, .int zt)] [] ws := by
  refine hsum (st := (0, [(0, (0, 49, 0, 0)), (1, (1, 0, 0, (t : Int)))], [], [(0, 0, false, 0, 0), (0, 2555, false, 1, 0), ((t : Int) + 1, 4, false, 2, 0)], [(49, 1, (1, 2, 0, 0))], [])) (List.all_eq_true.mp nd9_m0 t (List.mem_range.mpr (by omega))) rfl C (r := [0, 0, (n : Int)]) ⟨en_mk (by simp only [en_b, and_true]; omega) rfl, sb0, ⟨rfl, Or.inl ⟨rfl, ar, ha, rfl⟩, rfl, int_dv (z := 0) rfl (by omega), trivial⟩, trivial, hw, kc (hv0.kn (n := 2) (t := (n : Int)) rfl (by omega)) k0, fun _ _ _ _ h => h, fun h => by cases h⟩ (fun x hx r1 lv1 st1 ws1 hx1 hb1 hl1 hs1 hlo1 hsk1 hw1 hv1 hf1 _ => ?_)
  have hx9 := List.mem_singleton.mp hx
  subst hx9
  dsimp only at hlo1 hsk1 ⊢
  obtain ⟨l1, rfl, p1⟩ := lo_ref ha hlo1
  obtain ⟨yt1, l2, rfl, dt1, p2⟩ := lo_int rfl p1
  cases lo_nil p2
  rw [vn_at hx1 (n := 0) (z := 0) rfl] at dt1
  have et1 : zt = yt1 := Int32.toInt_inj.mp (by omega)
  subst et1
  obtain ⟨x0, s0, rfl, c0, g3⟩ := hsk1.cons
  obtain ⟨x1, s1, rfl, c1, g4⟩ := g3.cons
  obtain ⟨x2, s2, rfl, c2, g5⟩ := g4.cons
  cases g5.nil
  obtain ⟨u0, rfl, w0⟩ := dvn c0 (hx1.at (k := 0) rfl)
  obtain ⟨u1, rfl, w1⟩ := dvn c1 (hx1.at (k := 0) rfl)
  have f2 := ref_of49 ha c2
  subst f2
  refine hcallV (q := (174, 0, 134, 2, 6)) (M' := tb_m134) (cl := 49) (a := ar) (As := [.int u1, .int u0]) (rest := []) (rets := [30]) (P := cs_P ad tys 0 108 ws1) C (by decide) (tv_m140.1.1.1 (14, .invokevirtual 174, 3) (List.mem_of_getElem? (i := 9) rfl)) (tv_m140.2 _ (List.mem_of_getElem? (i := 21) rfl)) rfl rfl rfl rfl (by decide) (Nat.le_of_ble_eq_true rfl) rfl rfl rfl rfl hw1 ha (by decide) ?_ ?_ ?_
  · intro pcr hp
    rw [List.mem_singleton.mp hp]
    exact tv_m134.1.1.1 (30, .return_, 1) (List.mem_of_getElem? (i := 19) rfl)
  · intro p2 e2 R2 s2 m2 args2 below2 meth2 c2 Q2 C2 kk2
    exact cs_all cs_r7 (by decide +kernel) (by decide) (mm_cx (by decide) C2) hw1 ha (by omega) (by omega) (fun pcr w lv2 hp hP => kk2 pcr w lv2 hp hP)
  · intro ws2 hcs
    have hc2 := pevn hn hcs (hc.fr hn hf1 (fun _ _ => rfl))
    have f02 : ai_fr alW9 ws ws2 := (wsub_ok (V := []) (by rfl) hf1).tr (wsub_ok (V := [(50, 108, 135)]) (by decide) hcs.2.1)
    refine hsum (st := (17, [(0, (0, 49, 0, 0)), (1, (1, 0, 0, (t : Int)))], [], [(0, 0, false, 0, 0), (0, 2555, false, 1, 0)], [], [])) (List.all_eq_true.mp nd9_m1 t (List.mem_range.mpr (by omega))) rfl C (r := [0, 0]) ⟨en_mk (by simp only [en_b, and_true]; omega) rfl, sb0, ⟨rfl, Or.inl ⟨rfl, ar, ha, rfl⟩, rfl, int_dv (z := 0) rfl (by omega), trivial⟩, trivial, hcs.1, k0, fun _ _ _ _ h => h, fun h => by cases h⟩ (fun x hx r3 lv3 st3 ws3 hx3 hb3 hl3 hs3 hlo3 hsk3 hw3 hv3 hf3 _ => ?_)
    have hx9 := List.mem_singleton.mp hx
    subst hx9
    dsimp only at hsk3 ⊢
    obtain ⟨x4, s4, rfl, c4, g7⟩ := hsk3.cons
    obtain ⟨x5, s5, rfl, c5, g8⟩ := g7.cons
    cases g8.nil
    obtain ⟨u4, rfl, w4⟩ := dvn c4 (hx3.at (k := 0) rfl)
    have f5 := ref_of49 ha c5
    subst f5
    refine hcallI (q := (190, 0, 139, 1, 6)) (M' := tb_m139) (cl := 49) (a := ar) (As := [.int u4]) (rest := []) (rets := [43]) (P := fun w i => ai_wd tb_TY ad tys w ∧ ai_fr alW9 ws3 w ∧ i.toInt = paF (E (4 + t)) (E t) (E 16).toNat (E (8 + t)) (E (12 + t)) 0) C (by decide) (tv_m140.1.1.1 (19, .invokevirtual 190, 3) (List.mem_of_getElem? (i := 12) rfl)) (tv_m140.2 _ (List.mem_of_getElem? (i := 25) rfl)) rfl rfl rfl rfl (by decide) (Nat.le_of_ble_eq_true rfl) rfl rfl rfl rfl hw3 ha (by decide) ?_ ?_ ?_
    · intro pcr hp
      rw [List.mem_singleton.mp hp]
      exact tv_m139.1.1.1 (43, .ireturn, 1) (List.mem_of_getElem? (i := 23) rfl)
    · intro p2 e2 R2 s2 m2 args2 below2 meth2 c2 Q2 C2 kk2
      exact al_all (mm_cx (by decide) C2) ha hn ht (by omega) hg hw3 ((hv0.fr f02 rfl).fr hf3 rfl) (hc2.fr hn hf3 (fun _ _ => rfl)) (fun w i lv2 h1 h2 h3 => kk2 43 w i lv2 (by decide) ⟨h1, h2, h3⟩)
    · intro ws4 i hP
      exact kk 22 ws4 i _ (by decide) hP.1 ((f02.tr (wsub_ok (V := []) (by rfl) hf3)).tr hP.2.1) hP.2.2
end XND
theorem nd9_t1 : ((ai_ex (hk []) 600 169 tb_m169 11 [1297] (574, lw_lo, [], se8_en (-2147483648) (-1) (-2147483648) 2147483647 (-2147483648) 2147483647 (-2147483648) 2147483647, se8_n, [])).any fun xs => xs.all lw_un) = true := by decide +kernel
theorem nd9_t2 : ((ai_ex (hk []) 600 169 tb_m169 11 [1297] (574, lw_lo, [], se8_en 0 2147483647 (-2147483648) 2147483647 (-2147483648) 2147483647 (-2147483648) 2147483647, se8_n, [(5, 4, 8, 4, 0)])).any fun xs => xs.all lw_un) = true := by decide +kernel
section XNL
variable {ad : List Nat} {M : ai_m} {d : Nat} {p : Program} {l : Launch} {e : Env} {R : Room} {s : State} {m : MethodId} {args : Array Value} {below : List Frame} {meth : Method} {c : Code} {D : va_G} {tys : ai_ty} {A : Nat → Prop} {b L : Nat} {sx : Nat → Int32} {cells slots : Nat} {Q : State → Prop}
set_option maxRecDepth 20000 in
theorem lw_need {i q0 q49 : Nat} {ws : va_W} (C : ai_cx tb_m169 11 p R s m args c D tys A b L sx cells slots) (e0 : ad[0]? = some q0) (e49 : ad[49]? = some q49) (hi : i + 5 ≤ L) (hL : L ≤ 2560) (hw : ai_wd tb_TY ad tys ws) (hI : Inv ws)
    (k : ∀ wc, ai_wd tb_TY ad tys wc → Inv wc → hG tb_m169 p l e R s m args below meth c D A cells slots Q 1297 [(0, .ref b), (1, .ref q0), (2, .ref q49), (3, .int (nI i))] [] wc) : hG tb_m169 p l e R s m args below meth c D A cells slots Q 574 [(0, .ref b), (1, .ref q0), (2, .ref q49), (3, .int (nI i))] [] ws := by
  have b0 := ai_irg (sx i)
  have b1 := ai_irg (sx (i + 1))
  have b2 := ai_irg (sx (i + 2))
  have b3 := ai_irg (sx (i + 3))
  have b4 := ai_irg (sx (i + 4))
  obtain ⟨t, g, u, q, y, n, j0, j1, E, a, P, hb, hp, hi0, hi1, hs⟩ := id hI
  obtain ⟨hn1, hn2, hn4⟩ := hb.2.2.2.2.1
  obtain ⟨hc, he, hg⟩ := hp.1
  obtain ⟨a1, -, -, e1, -⟩ := hw.get (c := 1) rfl
  have kn0 : ai_kn ad b (lw_r sx i ++ [(n : Int)]) ws se8_n := kc (hn1.kn (n := 8) (t := (n : Int)) rfl (by omega)) (kc (hn2.kn (n := 8) (t := (n : Int)) rfl (by omega)) k0)
  have ok : ∀ {t1 t2 s1 s2 p1 p2 y1 y2 : Int}, (t1 ≤ (sx (i + 1)).toInt ∧ (sx (i + 1)).toInt ≤ t2) → (s1 ≤ (sx (i + 2)).toInt ∧ (sx (i + 2)).toInt ≤ s2) → (p1 ≤ (sx (i + 3)).toInt ∧ (sx (i + 3)).toInt ≤ p2) → (y1 ≤ (sx (i + 4)).toInt ∧ (sx (i + 4)).toInt ≤ y2) → ai_ok (lw_r sx i ++ [(n : Int)]) (se8_en t1 t2 s1 s2 p1 p2 y1 y2) := fun h1 h2 h3 h4 => en_mk (by simp only [lw_r, se8_en, List.cons_append, List.nil_append, en_b, and_true]; omega) rfl
  by_cases c1 : (sx (i + 1)).toInt < 0
  · exact lw_no C e0 e49 hi hL hw hI nd9_t1 (ok (by omega) (by omega) (by omega) (by omega)) sb0 kn0 k
  by_cases c2 : (n : Int) ≤ (sx (i + 1)).toInt
  · exact lw_no C e0 e49 hi hL hw hI nd9_t2 (ok (by omega) (by omega) (by omega) (by omega)) (se8_sb (Or.inr ⟨rfl, c2⟩)) kn0 k
  have sb4 : ai_sb ws (lw_r sx i ++ [(n : Int)]) [(4, 4, 8, 4, 0)] := se8_sb (Or.inl ⟨rfl, by omega⟩)
  obtain ⟨j, hj⟩ : ∃ j : Nat, (sx (i + 1)).toInt = (j : Int) := ⟨(sx (i + 1)).toInt.toNat, by omega⟩
  have hjn : j < n := by omega
  refine law2 (P1 := fun w z1 => ai_wd tb_TY ad tys w ∧ ai_fr tb_WR7 ws w ∧ z1.toInt = paF (E (4 + j)) (E j) (E 16).toNat (E (8 + j)) (E (12 + j)) 0) (P2 := fun wa _ w z1 => ai_wd tb_TY ad tys w ∧ ai_fr tb_WR7 wa w ∧ z1.toInt = paF (E (4 + j)) (E j) (E 16).toNat (E (8 + j)) (E (12 + j)) 0) (rets1 := [39]) (rets2 := [22]) C e0 e49 hi hL hw (n := 1) (cmp := true) (by decide) lr_needA lr_needB lr_needC (q1 := (81, 0, 64, 1, 5)) (tv_m169.1.1.1 (580, .invokevirtual 81, 3) (List.mem_of_getElem? (i := 310) rfl)) (tv_m169.2 _ (List.mem_of_getElem? (i := 32) rfl)) rfl rfl rfl rfl (by decide) (Nat.le_of_ble_eq_true rfl) rfl rfl (q2 := (84, 0, 140, 1, 6)) (tv_m169.1.1.1 (589, .invokevirtual 84, 3) (List.mem_of_getElem? (i := 317) rfl)) (tv_m169.2 _ (List.mem_of_getElem? (i := 33) rfl)) rfl rfl rfl rfl (by decide) (Nat.le_of_ble_eq_true rfl) rfl rfl ?_ ?_ ?_ (fun wa z1 h => h.1) ?_ (fun wa z1 wb z2 h1 h2 => ⟨h2.1, fun _ => Int32.toInt_inj.mp (by rw [h1.2.2, h2.2.2])⟩) (fun wa z1 wb z2 wc h1 h2 hwc hf => k wc hwc (hI.rd hwc ((h1.2.1.tr h2.2.1).tr (wsub_ok (V := []) (by rfl) hf))))
  · intro pcr hpc
    simp only [List.mem_cons, List.not_mem_nil, or_false] at hpc
    rcases hpc with rfl
    · exact tv_m64.1.1.1 (39, .ireturn, 1) (List.mem_of_getElem? (i := 19) rfl)
  · intro pcr hpc
    simp only [List.mem_cons, List.not_mem_nil, or_false] at hpc
    rcases hpc with rfl
    · exact tv_m140.1.1.1 (22, .ireturn, 1) (List.mem_of_getElem? (i := 13) rfl)
  · intro p e R s m args below meth c Q w hw' hf C2 kk
    exact nd9_cls C2 e0 e1 hn4 hg hjn hj hw' (hn1.fr hf rfl) (hc.fr hf rfl) (fun pcr w' z lv hpr g1 g2 g3 => kk pcr w' z lv hpr ⟨g1, wsub_ok (V := []) (by rfl) (hf.tr g2), g3⟩)
  · intro p e R s m args below meth c Q wa z1 w hP1 hw' hf C2 kk
    have hfa : ai_fr tb_WR7 ws w := hP1.2.1.tr (wsub_ok (V := []) (by rfl) hf)
    exact nd9_mdl C2 e49 hn4 hg hjn hj hw' (hn2.fr hfa rfl) (he.fr hn4 hfa (fun j hj => off9n (by omega))) (fun pcr w' z lv hpr g1 g2 g3 => kk pcr w' z lv hpr ⟨g1, (wsub_ok (V := []) (by rfl) hf).tr (wsub_ok (V := alW9) (by decide) g2), g3⟩)
end XNL
