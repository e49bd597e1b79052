theorem lr_countA : lw_A 1274 1280 1 = true := by decide +kernel
theorem lr_countB : lw_B 1280 1289 1 true = true := by decide +kernel
theorem lr_countC : lw_C 1289 true = true := by decide +kernel
/-! count, compared -/
theorem co4_c : ((ai_ex (hk []) 60 93 tb_m93 10 [116] (0, [(0, (0, 0, 0, 0)), (1, (1, 0, 0, 4))], [], [(0, 0, false, 0, 0), (0, 2555, false, 1, 0)], [], [])).any fun xs => xs.all fun x => ([(116, [], [(0, 1, 0, 0)], [], [(0, 0, false, 0, 0), (0, 2555, false, 1, 0)], [])] : List sm_t).any fun y => sm_is [] x y) = true := by decide +kernel
theorem co5_c : ((ai_ex (hk []) 60 93 tb_m93 10 [124] (0, [(0, (0, 0, 0, 0)), (1, (1, 0, 0, 5))], [], [(0, 0, false, 0, 0), (0, 2555, false, 1, 0)], [], [])).any fun xs => xs.all fun x => ([(124, [], [(0, 1, 0, 0)], [], [(0, 0, false, 0, 0), (0, 2555, false, 1, 0)], [])] : List sm_t).any fun y => sm_is [] x y) = true := by decide +kernel
def co_lo : List (Nat × ai_v) := [(0, (0, 49, 0, 0)), (1, (1, 7, 0, 0)), (2, (1, 4, 0, 0)), (3, (1, 6, 0, 0))]
def co_en (n1 n2 s2 p2 : Int) : List ai_e := [(0, 0, false, 0, 0), (0, 2555, false, 1, 0), (n1, n2, false, 2, 0), (1, 99, false, 3, 0), (0, s2, false, 4, 0), (0, 99, false, 5, 0), (0, p2, false, 6, 0), (4, 5, false, 7, 0)]
theorem co_0 : ((ai_ex (hk []) 40 168 tb_m168 10 [7] (0, [(0, (0, 49, 0, 0)), (1, (1, 2, 0, 0))], [], [(0, 0, false, 0, 0), (0, 2555, false, 1, 0), (4, 5, false, 2, 0)], [], [])).any fun xs => xs.all fun x => ([(7, [(0, (0, 49, 0, 0)), (1, (1, 2, 0, 0)), (2, (1, 0, 0, 0)), (3, (1, 0, 0, 0)), (4, (1, 0, 0, 0))], [], [], [(0, 0, false, 0, 0), (0, 2555, false, 1, 0), (4, 5, false, 2, 0)], [])] : List sm_t).any fun y => sm_is [] x y) = true := by decide +kernel
theorem co_m : ((List.range 4).all fun t => (ai_ex (hk []) 60 168 tb_m168 10 [7, 47] (9, co_lo ++ [(4, (1, 0, 0, (t : Int)))], [(1, 0, 0, (t : Int))], co_en ((t : Int) + 1) 4 297 297, [(49, 1, (1, 2, 0, 0)), (50, 4 + t, (1, 3, 0, 0)), (50, 12 + t, (1, 5, 0, 0))], [])).any fun xs => xs.all fun x => ([(7, [(0, (0, 49, 0, 0)), (1, (1, 7, 0, 0)), (2, (1, 8, 0, 0)), (3, (1, 9, 0, 0)), (4, (1, 0, 0, (t : Int) + 1))], [], [], co_en ((t : Int) + 1) 4 297 297 ++ [(1, 396, false, 8, 0), (0, 396, false, 9, 0)], [(1, 6, 5, 9, 0), (1, 4, 3, 8, 0)])] : List sm_t).any fun y => sm_is [] x y) = true := by decide +kernel
theorem co_e : ((List.range 5).all fun t => (ai_ex (hk []) 60 168 tb_m168 10 [7, 47] (9, co_lo ++ [(4, (1, 0, 0, (t : Int)))], [(1, 0, 0, (t : Int))], co_en 0 (t : Int) 396 396, [(49, 1, (1, 2, 0, 0))], [])).any fun xs => xs.all fun x => ([(47, co_lo, [], [], co_en 0 (t : Int) 396 396, [])] : List sm_t).any fun y => sm_is [] x y) = true := by decide +kernel
def co_ex (w : Nat) : List ai_e := [(0, 0, false, 0, 0), (0, 2555, false, 1, 0), (0, 396, false, 2, 0), (0, 396, false, 3, 0)]
theorem co_x : (([4, 5] : List Nat).all fun w => (ai_ex (hk []) 20 168 tb_m168 10 [] (47, [(0, (0, 49, 0, 0)), (1, (1, 0, 0, (w : Int))), (2, (1, 2, 0, 0)), (3, (1, 3, 0, 0))], [], co_ex w, [], [])).any fun xs => xs.all fun x => ([(if w = 4 then 152 else 154, [], [(1, if w = 4 then 2 else 3, 0, 0)], [], co_ex w, [])] : List sm_t).any fun y => sm_is [] x y) = true := by decide +kernel
section XCO
variable {ad : List Nat} {M : ai_m} {d : Nat} {p : Program} {l : Launch} {e : Env} {R : Room} {s : State} {m : MethodId} {args : Array Value} {below : List Frame} {meth : Method} {c : Code} {D : va_G} {tys : ai_ty} {A : Nat → Prop} {b L : Nat} {sx : Nat → Int32} {cells slots : Nat} {Q : State → Prop}
theorem co4_call {a a1 n : Nat} {E : Nat → Int} {z : Int32} {ws : va_W} (C : ai_cx tb_m93 10 p R s m args c D tys A b L sx cells slots) (ha : ad[0]? = some a) (ha1 : ad[1]? = some a1) (hz : z.toInt = 4) (hn : n ≤ 4) (hg : good n E) (hw : ai_wd tb_TY ad tys ws) (hh : vi ws 1 0 n ∧ ∀ i, i < n → vi ws 3 i (E (4 + i)))
    (kk : ∀ (ws' : va_W) (z : Int32) (lv' : List (Nat × Value)), ai_wd tb_TY ad tys ws' → ai_fr [] ws ws' → z.toInt = sumF (fun i => E (4 + i)) n 5 0 0 → hG tb_m93 p l e R s m args below meth c D A cells slots Q 119 lv' [.int z] ws') : hG tb_m93 p l e R s m args below meth c D A cells slots Q 0 [(0, .ref a), (1, .int z)] [] ws := by
  refine hsum (st := (0, [(0, (0, 0, 0, 0)), (1, (1, 0, 0, 4))], [], [(0, 0, false, 0, 0), (0, 2555, false, 1, 0)], [], [])) co4_c rfl C (r := [0, 0]) ⟨en_mk (by simp only [en_b, and_true]; omega) rfl, sb0, ⟨rfl, Or.inl ⟨rfl, a, ha, rfl⟩, rfl, int_dv (z := 0) rfl (by omega), trivial⟩, trivial, hw, k0, fun _ _ _ _ h => h, fun h => by cases h⟩ (fun x hx r' lv' sk' ws1 hx' hb hl hs hlo hsk hw1 hv' hf1 _ => ?_)
  rw [List.mem_singleton.mp hx] at hsk ⊢
  dsimp only at hsk ⊢
  obtain ⟨x1, s1, rfl, d1, g4⟩ := hsk.cons
  cases g4.nil
  have f1 := ref_of ha1 d1
  subst f1
  refine hcallI (q := (266, 0, 8, 0, 0)) (M' := tb_m8) (cl := 1) (a := a1) (As := []) (rest := []) (rets := [8]) (P := fun w z => ai_wd tb_TY ad tys w ∧ ai_fr [] ws1 w ∧ z.toInt = sumF (fun i => E (4 + i)) n 5 0 0) C (by decide) (tv_m93.1.1.1 (116, .invokevirtual 266, 3) (List.mem_of_getElem? (i := 43) rfl)) (tv_m93.2 _ (List.mem_of_getElem? (i := 43) rfl)) rfl rfl rfl rfl (by decide) (Nat.le_of_ble_eq_true rfl) rfl rfl rfl rfl hw1 ha1 (by decide) ?_ ?_ ?_
  · intro pcr hp
    rw [List.mem_singleton.mp hp]
    exact tv_m8.1.1.1 (8, .ireturn, 1) (List.mem_of_getElem? (i := 4) rfl)
  · intro p2 e2 R2 s2 m2 args2 below2 meth2 c2 Q2 C2 kk2
    exact al8_all (mm_cx (by decide) C2) (Or.inl rfl) ha1 hn (fun i hi => by have := hg.1 i hi; show 0 ≤ E (4 + i) ∧ E (4 + i) ≤ 99; omega) hw1 ⟨hh.1.fr hf1 rfl, fun i hi => (hh.2 i hi).fr hf1 rfl⟩ (fun w z lv2 h1 h2 h3 => kk2 8 w z lv2 (by decide) ⟨h1, h2, h3⟩)
  · intro ws2 z2 hP
    exact kk ws2 z2 _ hP.1 (hf1.tr hP.2.1) hP.2.2
theorem co5_call {a a1 n : Nat} {E : Nat → Int} {z : Int32} {ws : va_W} (C : ai_cx tb_m93 10 p R s m args c D tys A b L sx cells slots) (ha : ad[0]? = some a) (ha1 : ad[1]? = some a1) (hz : z.toInt = 5) (hn : n ≤ 4) (hg : good n E) (hw : ai_wd tb_TY ad tys ws) (hh : vi ws 1 0 n ∧ ∀ i, i < n → vi ws 5 i (E (12 + i)))
    (kk : ∀ (ws' : va_W) (z : Int32) (lv' : List (Nat × Value)), ai_wd tb_TY ad tys ws' → ai_fr [] ws ws' → z.toInt = sumF (fun i => E (12 + i)) n 5 0 0 → hG tb_m93 p l e R s m args below meth c D A cells slots Q 127 lv' [.int z] ws') : hG tb_m93 p l e R s m args below meth c D A cells slots Q 0 [(0, .ref a), (1, .int z)] [] ws := by
  refine hsum (st := (0, [(0, (0, 0, 0, 0)), (1, (1, 0, 0, 5))], [], [(0, 0, false, 0, 0), (0, 2555, false, 1, 0)], [], [])) co5_c rfl C (r := [0, 0]) ⟨en_mk (by simp only [en_b, and_true]; omega) rfl, sb0, ⟨rfl, Or.inl ⟨rfl, a, ha, rfl⟩, rfl, int_dv (z := 0) rfl (by omega), trivial⟩, trivial, hw, k0, fun _ _ _ _ h => h, fun h => by cases h⟩ (fun x hx r' lv' sk' ws1 hx' hb hl hs hlo hsk hw1 hv' hf1 _ => ?_)
  rw [List.mem_singleton.mp hx] at hsk ⊢
  dsimp only at hsk ⊢
  obtain ⟨x1, s1, rfl, d1, g4⟩ := hsk.cons
  cases g4.nil
  have f1 := ref_of ha1 d1
  subst f1
  refine hcallI (q := (269, 0, 9, 0, 0)) (M' := tb_m9) (cl := 1) (a := a1) (As := []) (rest := []) (rets := [8]) (P := fun w z => ai_wd tb_TY ad tys w ∧ ai_fr [] ws1 w ∧ z.toInt = sumF (fun i => E (12 + i)) n 5 0 0) C (by decide) (tv_m93.1.1.1 (124, .invokevirtual 269, 3) (List.mem_of_getElem? (i := 47) rfl)) (tv_m93.2 _ (List.mem_of_getElem? (i := 44) rfl)) rfl rfl rfl rfl (by decide) (Nat.le_of_ble_eq_true rfl) rfl rfl rfl rfl hw1 ha1 (by decide) ?_ ?_ ?_
  · intro pcr hp
    rw [List.mem_singleton.mp hp]
    exact tv_m9.1.1.1 (8, .ireturn, 1) (List.mem_of_getElem? (i := 4) rfl)
  · intro p2 e2 R2 s2 m2 args2 below2 meth2 c2 Q2 C2 kk2
    exact al9_all (mm_cx (by decide) C2) (Or.inl rfl) ha1 hn (fun i hi => by have := hg.1 i hi; show 0 ≤ E (12 + i) ∧ E (12 + i) ≤ 99; omega) hw1 ⟨hh.1.fr hf1 rfl, fun i hi => (hh.2 i hi).fr hf1 rfl⟩ (fun w z lv2 h1 h2 h3 => kk2 8 w z lv2 (by decide) ⟨h1, h2, h3⟩)
  · intro ws2 z2 hP
    exact kk ws2 z2 _ hP.1 (hf1.tr hP.2.1) hP.2.2
theorem co_loop {a n : Nat} {E : Nat → Int} {zw : Int32} {ws0 : va_W} (C : ai_cx tb_m168 10 p R s m args c D tys A b L sx cells slots) (ha : ad[49]? = some a) (hn : n ≤ 4) (hg : good n E) (hzw : 4 ≤ zw.toInt ∧ zw.toInt ≤ 5)
    (kk : ∀ (ws' : va_W) (z1 z2 : Int32), ai_wd tb_TY ad tys ws' → ai_fr [] ws0 ws' → (0 ≤ z1.toInt ∧ z1.toInt ≤ 396) → (0 ≤ z2.toInt ∧ z2.toInt ≤ 396) → z1.toInt = sumF (fun i => E (4 + i)) n 5 0 0 → z2.toInt = sumF (fun i => E (12 + i)) n 5 0 0 → hG tb_m168 p l e R s m args below meth c D A cells slots Q 47 [(0, .ref a), (1, .int zw), (2, .int z1), (3, .int z2)] [] ws') :
    ∀ (f t : Nat) (x1 x2 : Int) (z1 z2 zt : Int32) (ws : va_W), t + f = 5 → t ≤ 4 → (0 ≤ x1 ∧ x1 ≤ 99 * (t : Int)) → (0 ≤ x2 ∧ x2 ≤ 99 * (t : Int)) → z1.toInt = x1 → z2.toInt = x2 → zt.toInt = t → sumF (fun i => E (4 + i)) n f t x1 = sumF (fun i => E (4 + i)) n 5 0 0 → sumF (fun i => E (12 + i)) n f t x2 = sumF (fun i => E (12 + i)) n 5 0 0 → ai_wd tb_TY ad tys ws → ai_fr [] ws0 ws → vi ws 49 1 n → pev ws 0 n E → hG tb_m168 p l e R s m args below meth c D A cells slots Q 7 [(0, .ref a), (1, .int zw), (2, .int z1), (3, .int z2), (4, .int zt)] [] ws := by
  intro f
  induction f with
  | zero =>
    intro t x1 x2 z1 z2 zt ws hf h4 _ _ _ _ _ _ _ _ _ _ _
    exact absurd hf (by omega)
  | succ f ih =>
    intro t x1 x2 z1 z2 zt ws hf h4 h1 h2 ez1 ez2 ezt hW1 hW2 hw hfr hv he
    refine hild (j := 4) (x := zt) C (tv_m168.1.1.1 (7, .iload 4, 2) (List.mem_of_getElem? (i := 6) rfl)) (by simp) ?_
    by_cases htn : t < n
    · obtain ⟨-, c2, -, c4⟩ := he.1 t htn
      obtain ⟨-, g2, -, g4⟩ := hg.1 t htn
      refine hsum (st := (9, co_lo ++ [(4, (1, 0, 0, (t : Int)))], [(1, 0, 0, (t : Int))], co_en ((t : Int) + 1) 4 297 297, [(49, 1, (1, 2, 0, 0)), (50, 4 + t, (1, 3, 0, 0)), (50, 12 + t, (1, 5, 0, 0))], [])) (List.all_eq_true.mp co_m t (List.mem_range.mpr (by omega))) rfl C (r := [0, 0, (n : Int), E (4 + t), x1, E (12 + t), x2, zw.toInt]) ⟨en_mk (by simp only [co_en, en_b, and_true]; omega) rfl, sb0, ⟨rfl, Or.inl ⟨rfl, a, ha, rfl⟩, rfl, int_dv (z := zw.toInt) rfl (by omega), rfl, int_dv (z := x1) rfl (by omega), rfl, int_dv (z := x2) rfl (by omega), rfl, int_dv (z := 0) rfl (by omega), trivial⟩, ⟨int_dv (z := 0) rfl (by omega), trivial⟩, hw, kc (hv.kn (n := 2) (t := (n : Int)) rfl (by omega)) (kc (c2.kn (n := 3) (t := E (4 + t)) rfl (by omega)) (kc (c4.kn (n := 5) (t := E (12 + t)) rfl (by omega)) k0)), fun _ _ _ _ h => h, fun h => by cases h⟩ (fun x hx r' lv' sk' ws1 hx' hb hl hs hlo hsk hw1 hv' hf1 _ => ?_)
      have hx9 := List.mem_singleton.mp hx
      subst hx9
      dsimp only at hlo hsk ⊢
      cases hsk.nil
      have n3 := nm_x hx' (k := 3) rfl
      have n4 := nm_x hx' (k := 4) rfl
      have n5 := nm_x hx' (k := 5) rfl
      have n6 := nm_x hx' (k := 6) rfl
      obtain ⟨lw1, rfl, pw1⟩ := lo_ref ha hlo
      obtain ⟨yw, lw2, rfl, dw, pw2⟩ := lo_int rfl pw1
      obtain ⟨y1, lw3, rfl, d1, pw3⟩ := lo_int rfl pw2
      obtain ⟨y2, lw4, rfl, d2, pw4⟩ := lo_int rfl pw3
      obtain ⟨yt, lw5, rfl, dt, pw5⟩ := lo_int rfl pw4
      cases lo_nil pw5
      rw [vn_at hx' (n := 7) (z := zw.toInt) rfl] at dw
      have ew : zw = yw := Int32.toInt_inj.mp (by omega)
      subst ew
      rw [vn_at hx' (n := 0) (z := 0) rfl] at dt
      unfold vn at d1 d2
      dsimp only at d1 d2
      simp (config := { decide := true }) only [co_en, List.cons_append, List.nil_append, bnd_b, lin_b, lin_q, Nat.reduceAdd, Nat.zero_add, Nat.reduceEqDiff, reduceIte, and_true, Int.add_zero] at hb hl
      refine ih (t + 1) (x1 + E (4 + t)) (x2 + E (12 + t)) y1 y2 yt ws1 (by omega) (by omega) (by omega) (by omega) (by omega) (by omega) (by omega) ?_ ?_ hw1 (hfr.tr hf1) (hv.fr hf1 rfl) (he.fr hn hf1 (fun _ _ => rfl))
      · rw [← hW1]
        show _ = sumF (fun i => E (4 + i)) n (f + 1) t x1
        rw [show sumF (fun i => E (4 + i)) n (f + 1) t x1 = (if t < n then sumF (fun i => E (4 + i)) n f (t + 1) (x1 + (fun i => E (4 + i)) t) else x1) from rfl, if_pos htn]
      · rw [← hW2]
        show _ = sumF (fun i => E (12 + i)) n (f + 1) t x2
        rw [show sumF (fun i => E (12 + i)) n (f + 1) t x2 = (if t < n then sumF (fun i => E (12 + i)) n f (t + 1) (x2 + (fun i => E (12 + i)) t) else x2) from rfl, if_pos htn]
    · refine hsum (st := (9, co_lo ++ [(4, (1, 0, 0, (t : Int)))], [(1, 0, 0, (t : Int))], co_en 0 (t : Int) 396 396, [(49, 1, (1, 2, 0, 0))], [])) (List.all_eq_true.mp co_e t (List.mem_range.mpr (by omega))) rfl C (r := [0, 0, (n : Int), 1, x1, 0, x2, zw.toInt]) ⟨en_mk (by simp only [co_en, en_b, and_true]; omega) rfl, sb0, ⟨rfl, Or.inl ⟨rfl, a, ha, rfl⟩, rfl, int_dv (z := zw.toInt) rfl (by omega), rfl, int_dv (z := x1) rfl (by omega), rfl, int_dv (z := x2) rfl (by omega), rfl, int_dv (z := 0) rfl (by omega), trivial⟩, ⟨int_dv (z := 0) rfl (by omega), trivial⟩, hw, kc (hv.kn (n := 2) (t := (n : Int)) rfl (by omega)) k0, fun _ _ _ _ h => h, fun h => by cases h⟩ (fun x hx r' lv' sk' ws1 hx' hb hl hs hlo hsk hw1 hv' hf1 _ => ?_)
      rw [List.mem_singleton.mp hx] at hlo hsk ⊢
      dsimp only at hlo hsk ⊢
      cases hsk.nil
      obtain ⟨lw1, rfl, pw1⟩ := lo_ref ha hlo
      obtain ⟨yw, lw2, rfl, dw, pw2⟩ := lo_int rfl pw1
      obtain ⟨y1, lw3, rfl, d1, pw3⟩ := lo_int rfl pw2
      obtain ⟨y2, lw4, rfl, d2, pw4⟩ := lo_int rfl pw3
      cases lo_nil pw4
      rw [vn_at hx' (n := 7) (z := zw.toInt) rfl] at dw
      have ew : zw = yw := Int32.toInt_inj.mp (by omega)
      subst ew
      rw [vn_at hx' (n := 4) (z := x1) rfl] at d1
      rw [vn_at hx' (n := 6) (z := x2) rfl] at d2
      refine kk ws1 y1 y2 hw1 (hfr.tr hf1) (by omega) (by omega) ?_ ?_
      · rw [d1, ← hW1]
        show x1 + 0 = sumF (fun i => E (4 + i)) n (f + 1) t x1
        rw [show sumF (fun i => E (4 + i)) n (f + 1) t x1 = (if t < n then sumF (fun i => E (4 + i)) n f (t + 1) (x1 + (fun i => E (4 + i)) t) else x1) from rfl, if_neg htn]
        exact Int.add_zero _
      · rw [d2, ← hW2]
        show x2 + 0 = sumF (fun i => E (12 + i)) n (f + 1) t x2
        rw [show sumF (fun i => E (12 + i)) n (f + 1) t x2 = (if t < n then sumF (fun i => E (12 + i)) n f (t + 1) (x2 + (fun i => E (12 + i)) t) else x2) from rfl, if_neg htn]
        exact Int.add_zero _
theorem co_all {a n w : Nat} {E : Nat → Int} {zw : Int32} {ws : va_W} (C : ai_cx tb_m168 10 p R s m args c D tys A b L sx cells slots) (ha : ad[49]? = some a) (hn : n ≤ 4) (hg : good n E) (hw4 : w = 4 ∨ w = 5) (hzw : zw.toInt = w) (hw : ai_wd tb_TY ad tys ws) (hv : vi ws 49 1 n) (he : pev ws 0 n E)
    (kk : ∀ (pcr : Nat) (ws' : va_W) (z : Int32) (lv' : List (Nat × Value)), pcr ∈ [152, 154] → ai_wd tb_TY ad tys ws' → ai_fr [] ws ws' → z.toInt = (if w = 4 then sumF (fun i => E (4 + i)) n 5 0 0 else sumF (fun i => E (12 + i)) n 5 0 0) → hG tb_m168 p l e R s m args below meth c D A cells slots Q pcr lv' [.int z] ws') : hG tb_m168 p l e R s m args below meth c D A cells slots Q 0 [(0, .ref a), (1, .int zw)] [] ws := by
  refine hsum (st := (0, [(0, (0, 49, 0, 0)), (1, (1, 2, 0, 0))], [], [(0, 0, false, 0, 0), (0, 2555, false, 1, 0), (4, 5, false, 2, 0)], [], [])) co_0 rfl C (r := [0, 0, zw.toInt]) ⟨en_mk (by simp only [en_b, and_true]; omega) rfl, sb0, ⟨rfl, Or.inl ⟨rfl, a, ha, rfl⟩, rfl, int_dv (z := zw.toInt) rfl (by omega), trivial⟩, trivial, hw, k0, fun _ _ _ _ h => h, fun h => by cases h⟩ (fun x hx r' lv' sk' ws1 hx' hb hl hs hlo hsk hw1 hv' hf1 _ => ?_)
  rw [List.mem_singleton.mp hx] at hlo hsk ⊢
  dsimp only at hlo hsk ⊢
  cases hsk.nil
  obtain ⟨lw1, rfl, pw1⟩ := lo_ref ha hlo
  obtain ⟨yw, lw2, rfl, dw, pw2⟩ := lo_int rfl pw1
  obtain ⟨y1, lw3, rfl, d1, pw3⟩ := lo_int rfl pw2
  obtain ⟨y2, lw4, rfl, d2, pw4⟩ := lo_int rfl pw3
  obtain ⟨yt, lw5, rfl, dt, pw5⟩ := lo_int rfl pw4
  cases lo_nil pw5
  rw [vn_at hx' (n := 2) (z := zw.toInt) rfl] at dw
  have ew : zw = yw := Int32.toInt_inj.mp (by omega)
  subst ew
  rw [vn_at hx' (n := 0) (z := 0) rfl] at d1 d2 dt
  refine co_loop (ws0 := ws) C ha hn hg (by omega) (fun ws2 z1 z2 hw2 hf2 k1 k2 e1 e2 => ?_) 5 0 0 0 y1 y2 yt ws1 rfl (by decide) (by omega) (by omega) (by omega) (by omega) (by omega) rfl rfl hw1 hf1 (hv.fr hf1 rfl) (he.fr hn hf1 (fun _ _ => rfl))
  refine hsum (st := (47, [(0, (0, 49, 0, 0)), (1, (1, 0, 0, (w : Int))), (2, (1, 2, 0, 0)), (3, (1, 3, 0, 0))], [], co_ex w, [], [])) (List.all_eq_true.mp co_x w (by rcases hw4 with rfl | rfl <;> simp)) rfl C (r := [0, 0, z1.toInt, z2.toInt]) ⟨en_mk (by simp only [co_ex, en_b, and_true]; omega) rfl, sb0, ⟨rfl, Or.inl ⟨rfl, a, ha, rfl⟩, rfl, int_dv (z := 0) rfl (by omega), rfl, int_dv (z := z1.toInt) rfl (by omega), rfl, int_dv (z := z2.toInt) rfl (by omega), trivial⟩, trivial, hw2, k0, fun _ _ _ _ h => h, fun h => by cases h⟩ (fun x hx r3 lv3 sk3 ws3 hx3 hb3 hl3 hs3 hlo3 hsk3 hw3 hv3 hf3 _ => ?_)
  have hx9 := List.mem_singleton.mp hx
  subst hx9
  rcases hw4 with rfl | rfl
  · obtain ⟨z, rfl, hz⟩ := sk1 rfl hsk3
    rw [if_pos rfl, vn_at hx3 (n := 2) (z := z1.toInt) rfl] at hz
    refine kk 152 ws3 z lv3 (by decide) hw3 (hf2.tr hf3) ?_
    rw [if_pos rfl, hz, e1]
    exact Int.add_zero _
  · obtain ⟨z, rfl, hz⟩ := sk1 rfl hsk3
    rw [if_neg (by decide), vn_at hx3 (n := 3) (z := z2.toInt) rfl] at hz
    refine kk 154 ws3 z lv3 (by decide) hw3 (hf2.tr hf3) ?_
    rw [if_neg (by decide), hz, e2]
    exact Int.add_zero _
end XCO
def co7_x : List ai_e := [(0, 6, false, 8, 0), (0, 1, false, 9, 0), (0, 1, false, 10, 0), (0, 160, false, 11, 0), (0, 40, false, 12, 0)]
def co7_kn : List ai_k := [(34, 0, (1, 8, 0, 0)), (49, 19, (1, 8, 0, 0)), (25, 0, (1, 9, 0, 0)), (56, 0, (1, 9, 0, 0)), (25, 1, (1, 10, 0, 0)), (56, 1, (1, 10, 0, 0)), (26, 1, (1, 11, 0, 0)), (49, 7, (1, 11, 0, 0)), (43, 0, (1, 12, 0, 0)), (58, 0, (1, 12, 0, 0))]
theorem co7_r : ((List.range 3).all fun w => (ai_ex (hk []) 600 169 tb_m169 11 [1297] (1274, lw_lo, [], lw_eb (w : Int) (w : Int) ++ co7_x, co7_kn, [])).any fun xs => xs.all lw_un) = true := by decide +kernel
theorem co7_3a : ((ai_ex (hk []) 600 169 tb_m169 11 [1297] (1274, lw_lo, [], lw_eb 3 3 ++ co7_x ++ [(0, 2, false, 13, 0)], co7_kn ++ [(42, 0, (1, 13, 0, 0)), (57, 0, (1, 13, 0, 0))], [])).any fun xs => xs.all lw_un) = true := by decide +kernel
theorem co7_3b : ((ai_ex (hk []) 600 169 tb_m169 11 [1297] (1274, lw_lo, [], lw_eb 3 3 ++ co7_x, co7_kn ++ [(42, 0, (1, 0, 0, -1)), (57, 0, (1, 0, 0, -4))], [])).any fun xs => xs.all lw_un) = true := by decide +kernel
theorem co7_n : ((ai_ex (hk []) 600 169 tb_m169 11 [1297] (1274, lw_lo, [], lw_eb (-2147483648) (-1), [], [])).any fun xs => xs.all lw_un) = true := by decide +kernel
theorem co7_o : ((ai_ex (hk []) 600 169 tb_m169 11 [1297] (1274, lw_lo, [], lw_eb 6 2147483647, [], [])).any fun xs => xs.all lw_un) = true := by decide +kernel
theorem vi_f7 {ad : List Nat} {tys : ai_ty} {ws : va_W} {z : Int} (hw : ai_wd tb_TY ad tys ws) (h : vi ws 34 0 z) : 0 ≤ z ∧ z ≤ 6 := by
  obtain ⟨y, h1, h2, h3⟩ := pl_f (k := 34) (i := 0) (lo := 0) (hi := 6) hw rfl rfl
  obtain ⟨j, j1, j2⟩ := h
  have := j1.fun h1
  cases this
  omega
section XCV
variable {ad : List Nat} {M : ai_m} {d : Nat} {p : Program} {l : Launch} {e : Env} {R : Room} {s : State} {m : MethodId} {args : Array Value} {below : List Frame} {meth : Method} {c : Code} {D : va_G} {tys : ai_ty} {A : Nat → Prop} {b L : Nat} {sx : Nat → Int32} {cells slots : Nat} {Q : State → Prop}
set_option maxRecDepth 20000 in
theorem lw_count {i q0 q49 : Nat} {ws : va_W} (C : ai_cx tb_m169 11 p R s m args c D tys A b L sx cells slots) (e0 : ad[0]? = some q0) (e49 : ad[49]? = some q49) (hi : i + 5 ≤ L) (hL : L ≤ 2560) (hw : ai_wd tb_TY ad tys ws) (hI : Inv ws)
    (k : ∀ wc, ai_wd tb_TY ad tys wc → Inv wc → hG tb_m169 p l e R s m args below meth c D A cells slots Q 1297 [(0, .ref b), (1, .ref q0), (2, .ref q49), (3, .int (nI i))] [] wc) : hG tb_m169 p l e R s m args below meth c D A cells slots Q 1274 [(0, .ref b), (1, .ref q0), (2, .ref q49), (3, .int (nI i))] [] ws := by
  have b0 := ai_irg (sx i)
  have b1 := ai_irg (sx (i + 1))
  have b2 := ai_irg (sx (i + 2))
  have b3 := ai_irg (sx (i + 3))
  have b4 := ai_irg (sx (i + 4))
  obtain ⟨t, g, u, q, y, n, j0, j1, E, a, P, hb, hp, hi0, hi1, hs⟩ := id hI
  obtain ⟨hn1, hn2, hn4⟩ := hb.2.2.2.2.1
  obtain ⟨hc, he, hg⟩ := hp.1
  obtain ⟨⟨⟨v1, v7⟩, ht, -⟩, -, ⟨s1, s2⟩, -, -, ⟨f1, f2⟩, f3, f4⟩ := hb
  obtain ⟨⟨Lk, Nk, Xk, hcs, hms⟩, qn, S, sq, sq6, sr⟩ := hs
  obtain ⟨w42, w43, ⟨w40, wL⟩, -⟩ := hcs 0 (by decide)
  obtain ⟨w57, w58, -, -⟩ := hms 0 (by decide)
  have bq := vi_f7 hw s1
  have bj := vi_bl hw f1 rfl (by decide)
  have bk := vi_bl hw f3 rfl (by decide)
  obtain ⟨a1, -, -, e1, -⟩ := hw.get (c := 1) rfl
  have kn : ai_kn ad b (lw_r sx i ++ [q, j0, j1, (t : Int), (Nk 0 : Int)]) ws co7_kn := kc (s1.kn (n := 8) (t := q) rfl (by omega)) (kc (s2.kn (n := 8) (t := q) rfl (by omega)) (kc (f1.kn (n := 9) (t := j0) rfl (by omega)) (kc (f2.kn (n := 9) (t := j0) rfl (by omega)) (kc (f3.kn (n := 10) (t := j1) rfl (by omega)) (kc (f4.kn (n := 10) (t := j1) rfl (by omega)) (kc (v1.kn (n := 11) (t := (t : Int)) rfl (by omega)) (kc (v7.kn (n := 11) (t := (t : Int)) rfl (by omega)) (kc (w43.kn (n := 12) (t := (Nk 0 : Int)) rfl (by omega)) (kc (w58.kn (n := 12) (t := (Nk 0 : Int)) rfl (by omega)) k0)))))))))
  by_cases h1 : (sx (i + 1)).toInt < 0
  · exact lw_no (rr := []) C e0 e49 hi hL hw hI co7_n (en_mk (by simp only [lw_r, lw_eb, List.append_nil, en_b, and_true]; omega) rfl) sb0 k0 k
  by_cases h2 : 5 < (sx (i + 1)).toInt
  · exact lw_no (rr := []) C e0 e49 hi hL hw hI co7_o (en_mk (by simp only [lw_r, lw_eb, List.append_nil, en_b, and_true]; omega) rfl) sb0 k0 k
  by_cases h3 : (sx (i + 1)).toInt = 3
  · by_cases hl : Lk 0 = -1
    · rw [hl] at w42 w57
      rw [if_pos rfl] at w57
      have kn2 : ai_kn ad b (lw_r sx i ++ [q, j0, j1, (t : Int), (Nk 0 : Int)]) ws (co7_kn ++ [(42, 0, (1, 0, 0, -1)), (57, 0, (1, 0, 0, -4))]) := fun x hx => by
        rcases List.mem_append.mp hx with hx | hx
        · exact kn x hx
        · exact (kc (w42.kn (n := 0) (t := 0) (r := lw_r sx i ++ [q, j0, j1, (t : Int), (Nk 0 : Int)]) rfl (by omega)) (kc (w57.kn (n := 0) (t := 0) rfl (by omega)) k0)) x hx
      exact lw_no C e0 e49 hi hL hw hI co7_3b (en_mk (by simp only [lw_r, co7_x, lw_eb, List.cons_append, List.nil_append, en_b, and_true]; omega) rfl) sb0 kn2 k
    · rw [if_neg hl] at w57
      have kn2 : ai_kn ad b (lw_r sx i ++ [q, j0, j1, (t : Int), (Nk 0 : Int), Lk 0]) ws (co7_kn ++ [(42, 0, (1, 13, 0, 0)), (57, 0, (1, 13, 0, 0))]) := fun x hx => by
        rcases List.mem_append.mp hx with hx | hx
        · obtain ⟨y1, y2, y3⟩ := kn x hx
          exact ⟨y1, y2, y3.mono ⟨[Lk 0], by simp⟩⟩
        · exact (kc (w42.kn (n := 13) (t := Lk 0) (r := lw_r sx i ++ [q, j0, j1, (t : Int), (Nk 0 : Int), Lk 0]) rfl (by omega)) (kc (w57.kn (n := 13) (t := Lk 0) rfl (by omega)) k0)) x hx
      exact lw_no C e0 e49 hi hL hw hI co7_3a (en_mk (by simp only [lw_r, co7_x, lw_eb, List.cons_append, List.nil_append, en_b, and_true]; omega) rfl) sb0 kn2 k
  by_cases h4 : (sx (i + 1)).toInt = 4
  · skip
    refine law2 (P1 := fun w z1 => ai_wd tb_TY ad tys w ∧ ai_fr [] ws w ∧ z1.toInt = sumF (fun i => E (4 + i)) n 5 0 0) (P2 := fun wa _ w z1 => ai_wd tb_TY ad tys w ∧ ai_fr [] wa w ∧ z1.toInt = sumF (fun i => E (4 + i)) n 5 0 0) (rets1 := [119]) (rets2 := [152, 154]) C e0 e49 hi hL hw (n := 1) (cmp := true) (by decide) lr_countA lr_countB lr_countC (q1 := (163, 0, 93, 1, 5)) (tv_m169.1.1.1 (1280, .invokevirtual 163, 3) (List.mem_of_getElem? (i := 890) rfl)) (tv_m169.2 _ (List.mem_of_getElem? (i := 72) rfl)) rfl rfl rfl rfl (by decide) (Nat.le_of_ble_eq_true rfl) rfl rfl (q2 := (166, 0, 168, 1, 6)) (tv_m169.1.1.1 (1289, .invokevirtual 166, 3) (List.mem_of_getElem? (i := 897) rfl)) (tv_m169.2 _ (List.mem_of_getElem? (i := 73) rfl)) rfl rfl rfl rfl (by decide) (Nat.le_of_ble_eq_true rfl) rfl rfl ?_ ?_ ?_ (fun wa z1 h => h.1) ?_ (fun wa z1 wb z2 h1 h2 => ⟨h2.1, fun _ => Int32.toInt_inj.mp (by rw [h1.2.2, h2.2.2])⟩) (fun wa z1 wb z2 wc h1 h2 hwc hf => k wc hwc (hI.fr0 hwc ((h1.2.1.tr h2.2.1).tr hf)))
    · intro pcr hpc
      rw [List.mem_singleton.mp hpc]
      exact tv_m93.1.1.1 (119, .ireturn, 1) (List.mem_of_getElem? (i := 44) rfl)
    · intro pcr hpc
      rcases List.mem_cons.mp hpc with rfl | hpc
      · exact tv_m168.1.1.1 (152, .ireturn, 1) (List.mem_of_getElem? (i := 70) rfl)
      · rw [List.mem_singleton.mp hpc]
        exact tv_m168.1.1.1 (154, .ireturn, 1) (List.mem_of_getElem? (i := 72) rfl)
    · intro p e R s m args below meth c Q w hw' hf C2 kk
      exact co4_call C2 e0 e1 h4 hn4 hg hw' ⟨hn1.fr hf rfl, fun i hi => (hc.1 i hi).2.1.fr hf rfl⟩ (fun w' z lv g1 g2 g3 => kk 119 w' z lv (by decide) ⟨g1, hf.tr g2, g3⟩)
    · intro p e R s m args below meth c Q wa z1 w hP1 hw' hf C2 kk
      have hfa := hP1.2.1.tr hf
      exact co_all C2 e49 hn4 hg (Or.inl rfl) h4 hw' (hn2.fr hfa rfl) (he.fr hn4 hfa (fun _ _ => rfl)) (fun pcr w' z lv hpr g1 g2 g3 => kk pcr w' z lv hpr ⟨g1, hf.tr g2, by rw [g3, if_pos rfl]⟩)
  by_cases h5 : (sx (i + 1)).toInt = 5
  · skip
    refine law2 (P1 := fun w z1 => ai_wd tb_TY ad tys w ∧ ai_fr [] ws w ∧ z1.toInt = sumF (fun i => E (12 + i)) n 5 0 0) (P2 := fun wa _ w z1 => ai_wd tb_TY ad tys w ∧ ai_fr [] wa w ∧ z1.toInt = sumF (fun i => E (12 + i)) n 5 0 0) (rets1 := [127]) (rets2 := [152, 154]) C e0 e49 hi hL hw (n := 1) (cmp := true) (by decide) lr_countA lr_countB lr_countC (q1 := (163, 0, 93, 1, 5)) (tv_m169.1.1.1 (1280, .invokevirtual 163, 3) (List.mem_of_getElem? (i := 890) rfl)) (tv_m169.2 _ (List.mem_of_getElem? (i := 72) rfl)) rfl rfl rfl rfl (by decide) (Nat.le_of_ble_eq_true rfl) rfl rfl (q2 := (166, 0, 168, 1, 6)) (tv_m169.1.1.1 (1289, .invokevirtual 166, 3) (List.mem_of_getElem? (i := 897) rfl)) (tv_m169.2 _ (List.mem_of_getElem? (i := 73) rfl)) rfl rfl rfl rfl (by decide) (Nat.le_of_ble_eq_true rfl) rfl rfl ?_ ?_ ?_ (fun wa z1 h => h.1) ?_ (fun wa z1 wb z2 h1 h2 => ⟨h2.1, fun _ => Int32.toInt_inj.mp (by rw [h1.2.2, h2.2.2])⟩) (fun wa z1 wb z2 wc h1 h2 hwc hf => k wc hwc (hI.fr0 hwc ((h1.2.1.tr h2.2.1).tr hf)))
    · intro pcr hpc
      rw [List.mem_singleton.mp hpc]
      exact tv_m93.1.1.1 (127, .ireturn, 1) (List.mem_of_getElem? (i := 48) rfl)
    · intro pcr hpc
      rcases List.mem_cons.mp hpc with rfl | hpc
      · exact tv_m168.1.1.1 (152, .ireturn, 1) (List.mem_of_getElem? (i := 70) rfl)
      · rw [List.mem_singleton.mp hpc]
        exact tv_m168.1.1.1 (154, .ireturn, 1) (List.mem_of_getElem? (i := 72) rfl)
    · intro p e R s m args below meth c Q w hw' hf C2 kk
      exact co5_call C2 e0 e1 h5 hn4 hg hw' ⟨hn1.fr hf rfl, fun i hi => (hc.1 i hi).2.2.2.fr hf rfl⟩ (fun w' z lv g1 g2 g3 => kk 127 w' z lv (by decide) ⟨g1, hf.tr g2, g3⟩)
    · intro p e R s m args below meth c Q wa z1 w hP1 hw' hf C2 kk
      have hfa := hP1.2.1.tr hf
      exact co_all C2 e49 hn4 hg (Or.inr rfl) h5 hw' (hn2.fr hfa rfl) (he.fr hn4 hfa (fun _ _ => rfl)) (fun pcr w' z lv hpr g1 g2 g3 => kk pcr w' z lv hpr ⟨g1, hf.tr g2, by rw [g3, if_neg (by decide)]⟩)
  obtain ⟨j, hj⟩ : ∃ j : Nat, (sx (i + 1)).toInt = (j : Int) := ⟨(sx (i + 1)).toInt.toNat, by omega⟩
  exact lw_no C e0 e49 hi hL hw hI (List.all_eq_true.mp co7_r j (List.mem_range.mpr (by omega))) (en_mk (by simp only [lw_r, co7_x, lw_eb, List.cons_append, List.nil_append, en_b, and_true]; omega) rfl) sb0 kn k
end XCV
