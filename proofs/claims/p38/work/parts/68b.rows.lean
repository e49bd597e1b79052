/-! allMoved, allSizes, allPulled -/
theorem cl_T8 {cl : Nat} (h : cl = 1 ∨ cl = 7) : ∃ F : List ai_f, tb_TY[cl]? = some (0, 0, F) := by
  rcases h with rfl | rfl
  · exact ⟨_, rfl⟩
  · exact ⟨_, rfl⟩
theorem cl_R {cl q : Nat} (h : cl = 1 ∨ cl = 7) (hq : q = 2 ∨ q = 3 ∨ q = 4) {ad : List Nat} {tys : ai_ty} {ws : va_W} (hw : ai_wd tb_TY ad tys ws) : ∃ aR, ad[cl + q]? = some aR := by
  have key : ∀ {t : ai_c}, tb_TY[cl + q]? = some t → ∃ aR, ad[cl + q]? = some aR := fun {t} ht => by
    obtain ⟨aR, -, -, eR, -⟩ := hw.get ht
    exact ⟨aR, eR⟩
  rcases h with rfl | rfl <;> rcases hq with rfl | rfl | rfl <;> exact key rfl
theorem al7_1 : (([1, 7] : List Nat).all fun cl => (ai_ex (hk []) 20 7 tb_m7 7 [5] (0, [(0, (0, cl, 0, 0))], [], [(0, 0, false, 0, 0), (0, 2555, false, 1, 0)], [], [])).any fun xs => xs.all fun x => ([(5, [], [(0, cl + 3, 0, 0), (0, cl, 0, 0)], [], [(0, 0, false, 0, 0), (0, 2555, false, 1, 0)], [])] : List sm_t).any fun y => sm_is [] x y) = true := by decide +kernel
section AL7
variable {ad : List Nat} {M : ai_m} {d : Nat} {p : Program} {l : Launch} {e : Env} {R : Room} {s : State} {m : MethodId} {args : Array Value} {below : List Frame} {meth : Method} {c : Code} {D : va_G} {tys : ai_ty} {A : Nat → Prop} {b L : Nat} {sx : Nat → Int32} {cells slots : Nat} {Q : State → Prop}
theorem al7_all {cl a n : Nat} {F : Nat → Int} {ws : va_W} (C : ai_cx tb_m7 7 p R s m args c D tys A b L sx cells slots) (hg0 : cl = 1 ∨ cl = 7) (ha : ad[cl]? = some a) (hn : n ≤ 4) (hF : ∀ i, i < n → 0 ≤ F i ∧ F i ≤ 99) (hw : ai_wd tb_TY ad tys ws) (hh : vi ws cl 0 n ∧ ∀ i, i < n → vi ws (cl + 3) i (F i))
    (kk : ∀ (ws' : va_W) (z : Int32) (lv' : List (Nat × Value)), ai_wd tb_TY ad tys ws' → ai_fr [] ws ws' → z.toInt = sumF F n 5 0 0 → hG tb_m7 p l e R s m args below meth c D A cells slots Q 8 lv' [.int z] ws') : hG tb_m7 p l e R s m args below meth c D A cells slots Q 0 [(0, .ref a)] [] ws := by
  have hq : 3 = 2 ∨ 3 = 3 ∨ 3 = 4 := by decide
  obtain ⟨aR, haR⟩ := cl_R hg0 hq hw
  obtain ⟨F0, hT⟩ := cl_T8 hg0
  refine hsum (st := (0, [(0, (0, cl, 0, 0))], [], [(0, 0, false, 0, 0), (0, 2555, false, 1, 0)], [], [])) (List.all_eq_true.mp al7_1 cl (by rcases hg0 with rfl | rfl <;> simp)) rfl C (r := [0, 0]) ⟨en_mk (by simp only [en_b, and_true]; omega) rfl, sb0, ⟨rfl, Or.inl ⟨rfl, a, ha, rfl⟩, trivial⟩, trivial, hw, k0, fun _ _ _ _ h => h, fun h => by cases h⟩ (fun x hx r' lv' sk' ws1 hx' hb hl hs hlo hsk hw1 hv' hf1 _ => ?_)
  rw [List.mem_singleton.mp hx] at hsk ⊢
  dsimp only at hsk ⊢
  obtain ⟨x1, s1, rfl, d1, g4⟩ := hsk.cons
  obtain ⟨x2, s2, rfl, d2, g5⟩ := g4.cons
  cases g5.nil
  have f1 := ref_of haR d1
  have f2 := ref_of ha d2
  subst f1 f2
  refine hcallI (q := (60, 0, 10, 1, 0)) (M' := tb_m10) (cl := cl) (a := a) (t := (0, 0, F0)) (As := [.ref aR]) (rest := []) (rets := [25]) (P := fun w z => ai_wd tb_TY ad tys w ∧ ai_fr [] ws1 w ∧ z.toInt = sumF F n 5 0 0) C (by decide) (tv_m7.1.1.1 (5, .invokevirtual 60, 3) (List.mem_of_getElem? (i := 3) rfl)) (tv_m7.2 _ (List.mem_of_getElem? (i := 4) rfl)) rfl rfl rfl rfl (by decide) (Nat.le_of_ble_eq_true rfl) rfl hT rfl rfl hw1 ha (by decide) ?_ ?_ ?_
  · intro pcr hp
    rw [List.mem_singleton.mp hp]
    exact tv_m10.1.1.1 (25, .ireturn, 1) (List.mem_of_getElem? (i := 17) rfl)
  · intro p2 e2 R2 s2 m2 args2 below2 meth2 c2 Q2 C2 kk2
    exact su_all C2 hg0 ha hq haR hn hF hw1 ⟨hh.1.fr hf1 rfl, fun i hi => (hh.2 i hi).fr hf1 rfl⟩ (fun w z lv2 h1 h2 h3 => kk2 25 w z lv2 (by decide) ⟨h1, h2, h3⟩)
  · intro ws2 z hP
    exact kk ws2 z _ hP.1 (hf1.tr hP.2.1) hP.2.2
end AL7
theorem al8_1 : (([1, 7] : List Nat).all fun cl => (ai_ex (hk []) 20 8 tb_m8 7 [5] (0, [(0, (0, cl, 0, 0))], [], [(0, 0, false, 0, 0), (0, 2555, false, 1, 0)], [], [])).any fun xs => xs.all fun x => ([(5, [], [(0, cl + 2, 0, 0), (0, cl, 0, 0)], [], [(0, 0, false, 0, 0), (0, 2555, false, 1, 0)], [])] : List sm_t).any fun y => sm_is [] x y) = true := by decide +kernel
section AL8
variable {ad : List Nat} {M : ai_m} {d : Nat} {p : Program} {l : Launch} {e : Env} {R : Room} {s : State} {m : MethodId} {args : Array Value} {below : List Frame} {meth : Method} {c : Code} {D : va_G} {tys : ai_ty} {A : Nat → Prop} {b L : Nat} {sx : Nat → Int32} {cells slots : Nat} {Q : State → Prop}
theorem al8_all {cl a n : Nat} {F : Nat → Int} {ws : va_W} (C : ai_cx tb_m8 7 p R s m args c D tys A b L sx cells slots) (hg0 : cl = 1 ∨ cl = 7) (ha : ad[cl]? = some a) (hn : n ≤ 4) (hF : ∀ i, i < n → 0 ≤ F i ∧ F i ≤ 99) (hw : ai_wd tb_TY ad tys ws) (hh : vi ws cl 0 n ∧ ∀ i, i < n → vi ws (cl + 2) i (F i))
    (kk : ∀ (ws' : va_W) (z : Int32) (lv' : List (Nat × Value)), ai_wd tb_TY ad tys ws' → ai_fr [] ws ws' → z.toInt = sumF F n 5 0 0 → hG tb_m8 p l e R s m args below meth c D A cells slots Q 8 lv' [.int z] ws') : hG tb_m8 p l e R s m args below meth c D A cells slots Q 0 [(0, .ref a)] [] ws := by
  have hq : 2 = 2 ∨ 2 = 3 ∨ 2 = 4 := by decide
  obtain ⟨aR, haR⟩ := cl_R hg0 hq hw
  obtain ⟨F0, hT⟩ := cl_T8 hg0
  refine hsum (st := (0, [(0, (0, cl, 0, 0))], [], [(0, 0, false, 0, 0), (0, 2555, false, 1, 0)], [], [])) (List.all_eq_true.mp al8_1 cl (by rcases hg0 with rfl | rfl <;> simp)) rfl C (r := [0, 0]) ⟨en_mk (by simp only [en_b, and_true]; omega) rfl, sb0, ⟨rfl, Or.inl ⟨rfl, a, ha, rfl⟩, trivial⟩, trivial, hw, k0, fun _ _ _ _ h => h, fun h => by cases h⟩ (fun x hx r' lv' sk' ws1 hx' hb hl hs hlo hsk hw1 hv' hf1 _ => ?_)
  rw [List.mem_singleton.mp hx] at hsk ⊢
  dsimp only at hsk ⊢
  obtain ⟨x1, s1, rfl, d1, g4⟩ := hsk.cons
  obtain ⟨x2, s2, rfl, d2, g5⟩ := g4.cons
  cases g5.nil
  have f1 := ref_of haR d1
  have f2 := ref_of ha d2
  subst f1 f2
  refine hcallI (q := (60, 0, 10, 1, 0)) (M' := tb_m10) (cl := cl) (a := a) (t := (0, 0, F0)) (As := [.ref aR]) (rest := []) (rets := [25]) (P := fun w z => ai_wd tb_TY ad tys w ∧ ai_fr [] ws1 w ∧ z.toInt = sumF F n 5 0 0) C (by decide) (tv_m8.1.1.1 (5, .invokevirtual 60, 3) (List.mem_of_getElem? (i := 3) rfl)) (tv_m8.2 _ (List.mem_of_getElem? (i := 4) rfl)) rfl rfl rfl rfl (by decide) (Nat.le_of_ble_eq_true rfl) rfl hT rfl rfl hw1 ha (by decide) ?_ ?_ ?_
  · intro pcr hp
    rw [List.mem_singleton.mp hp]
    exact tv_m10.1.1.1 (25, .ireturn, 1) (List.mem_of_getElem? (i := 17) rfl)
  · intro p2 e2 R2 s2 m2 args2 below2 meth2 c2 Q2 C2 kk2
    exact su_all C2 hg0 ha hq haR hn hF hw1 ⟨hh.1.fr hf1 rfl, fun i hi => (hh.2 i hi).fr hf1 rfl⟩ (fun w z lv2 h1 h2 h3 => kk2 25 w z lv2 (by decide) ⟨h1, h2, h3⟩)
  · intro ws2 z hP
    exact kk ws2 z _ hP.1 (hf1.tr hP.2.1) hP.2.2
end AL8
theorem al9_1 : (([1, 7] : List Nat).all fun cl => (ai_ex (hk []) 20 9 tb_m9 7 [5] (0, [(0, (0, cl, 0, 0))], [], [(0, 0, false, 0, 0), (0, 2555, false, 1, 0)], [], [])).any fun xs => xs.all fun x => ([(5, [], [(0, cl + 4, 0, 0), (0, cl, 0, 0)], [], [(0, 0, false, 0, 0), (0, 2555, false, 1, 0)], [])] : List sm_t).any fun y => sm_is [] x y) = true := by decide +kernel
section AL9
variable {ad : List Nat} {M : ai_m} {d : Nat} {p : Program} {l : Launch} {e : Env} {R : Room} {s : State} {m : MethodId} {args : Array Value} {below : List Frame} {meth : Method} {c : Code} {D : va_G} {tys : ai_ty} {A : Nat → Prop} {b L : Nat} {sx : Nat → Int32} {cells slots : Nat} {Q : State → Prop}
theorem al9_all {cl a n : Nat} {F : Nat → Int} {ws : va_W} (C : ai_cx tb_m9 7 p R s m args c D tys A b L sx cells slots) (hg0 : cl = 1 ∨ cl = 7) (ha : ad[cl]? = some a) (hn : n ≤ 4) (hF : ∀ i, i < n → 0 ≤ F i ∧ F i ≤ 99) (hw : ai_wd tb_TY ad tys ws) (hh : vi ws cl 0 n ∧ ∀ i, i < n → vi ws (cl + 4) i (F i))
    (kk : ∀ (ws' : va_W) (z : Int32) (lv' : List (Nat × Value)), ai_wd tb_TY ad tys ws' → ai_fr [] ws ws' → z.toInt = sumF F n 5 0 0 → hG tb_m9 p l e R s m args below meth c D A cells slots Q 8 lv' [.int z] ws') : hG tb_m9 p l e R s m args below meth c D A cells slots Q 0 [(0, .ref a)] [] ws := by
  have hq : 4 = 2 ∨ 4 = 3 ∨ 4 = 4 := by decide
  obtain ⟨aR, haR⟩ := cl_R hg0 hq hw
  obtain ⟨F0, hT⟩ := cl_T8 hg0
  refine hsum (st := (0, [(0, (0, cl, 0, 0))], [], [(0, 0, false, 0, 0), (0, 2555, false, 1, 0)], [], [])) (List.all_eq_true.mp al9_1 cl (by rcases hg0 with rfl | rfl <;> simp)) rfl C (r := [0, 0]) ⟨en_mk (by simp only [en_b, and_true]; omega) rfl, sb0, ⟨rfl, Or.inl ⟨rfl, a, ha, rfl⟩, trivial⟩, trivial, hw, k0, fun _ _ _ _ h => h, fun h => by cases h⟩ (fun x hx r' lv' sk' ws1 hx' hb hl hs hlo hsk hw1 hv' hf1 _ => ?_)
  rw [List.mem_singleton.mp hx] at hsk ⊢
  dsimp only at hsk ⊢
  obtain ⟨x1, s1, rfl, d1, g4⟩ := hsk.cons
  obtain ⟨x2, s2, rfl, d2, g5⟩ := g4.cons
  cases g5.nil
  have f1 := ref_of haR d1
  have f2 := ref_of ha d2
  subst f1 f2
  refine hcallI (q := (60, 0, 10, 1, 0)) (M' := tb_m10) (cl := cl) (a := a) (t := (0, 0, F0)) (As := [.ref aR]) (rest := []) (rets := [25]) (P := fun w z => ai_wd tb_TY ad tys w ∧ ai_fr [] ws1 w ∧ z.toInt = sumF F n 5 0 0) C (by decide) (tv_m9.1.1.1 (5, .invokevirtual 60, 3) (List.mem_of_getElem? (i := 3) rfl)) (tv_m9.2 _ (List.mem_of_getElem? (i := 4) rfl)) rfl rfl rfl rfl (by decide) (Nat.le_of_ble_eq_true rfl) rfl hT rfl rfl hw1 ha (by decide) ?_ ?_ ?_
  · intro pcr hp
    rw [List.mem_singleton.mp hp]
    exact tv_m10.1.1.1 (25, .ireturn, 1) (List.mem_of_getElem? (i := 17) rfl)
  · intro p2 e2 R2 s2 m2 args2 below2 meth2 c2 Q2 C2 kk2
    exact su_all C2 hg0 ha hq haR hn hF hw1 ⟨hh.1.fr hf1 rfl, fun i hi => (hh.2 i hi).fr hf1 rfl⟩ (fun w z lv2 h1 h2 h3 => kk2 25 w z lv2 (by decide) ⟨h1, h2, h3⟩)
  · intro ws2 z hP
    exact kk ws2 z _ hP.1 (hf1.tr hP.2.1) hP.2.2
end AL9
