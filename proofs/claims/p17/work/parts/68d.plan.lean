/-! by the plan: runPlan of the class's trial evening, planGoes of the reference -/
def plE (P : Nat → Int) (E : Nat → Int) : Nat → (Nat → Int)
  | 0 => E
  | i + 1 => evA (plE P E i) (P i)
def plF (P : Nat → Int) (E : Nat → Int) : Nat → Int
  | 0 => -4
  | i + 1 => if canB (plE P E i) (P i) = true then plF P E i else if plF P E i = -4 then (i : Int) else plF P E i
theorem plF_b {P E : Nat → Int} : ∀ i, i ≤ 8 → -4 ≤ plF P E i ∧ plF P E i ≤ 7
  | 0, _ => by
    unfold plF
    omega
  | i + 1, h => by
    have := plF_b (P := P) (E := E) i (by omega)
    unfold plF
    split
    · exact this
    · split <;> omega
theorem plE_g {P E : Nat → Int} {n a : Nat} (hn : n ≤ 4) (hg : good n E) (hP : ∀ j, j < a → P j = 4 ∨ (0 ≤ P j ∧ P j < n)) : ∀ i, i ≤ a → good n (plE P E i)
  | 0, _ => hg
  | i + 1, h => good_A hn (plE_g hn hg hP i (by omega)) (hP i (by omega))
def rp_lo (v : ai_v) (i : Nat) : List (Nat × ai_v) := [(0, (0, 7, 0, 0)), (1, v), (2, (1, 0, 0, (i : Int)))]
theorem rp_0 : ((ai_ex (hk []) 20 16 tb_m16 8 [5] (0, [(0, (0, 7, 0, 0))], [], [(0, 0, false, 0, 0), (0, 2555, false, 1, 0)], [], [])).any fun xs => xs.all fun x => ([(5, rp_lo (1, 0, 0, -4) 0, [], [], [(0, 0, false, 0, 0), (0, 2555, false, 1, 0)], [])] : List sm_t).any fun y => sm_is [] x y) = true := by decide +kernel
def rp_en (a1 a2 : Int) : List ai_e := [(0, 0, false, 0, 0), (0, 2555, false, 1, 0), (a1, a2, false, 2, 0), (0, 4, false, 3, 0), (-4, 7, false, 4, 0)]
theorem rp_1 : ((List.range 8).all fun i => (ai_ex (hk []) 20 16 tb_m16 8 [20, 5] (6, rp_lo (1, 4, 0, 0) i, [(1, 0, 0, (i : Int))], rp_en ((i : Int) + 1) 8, [(7, 3, (1, 2, 0, 0)), (12, i, (1, 3, 0, 0))], [])).any fun xs => xs.all fun x => ([(20, rp_lo (1, 4, 0, 0) i, [(1, 3, 0, 0), (0, 7, 0, 0)], [], rp_en ((i : Int) + 1) 8, [])] : List sm_t).any fun y => sm_is [] x y) = true := by decide +kernel
theorem rp_2 : ((List.range 9).all fun i => (ai_ex (hk []) 20 16 tb_m16 8 [20, 5] (6, rp_lo (1, 4, 0, 0) i, [(1, 0, 0, (i : Int))], rp_en 0 (i : Int), [(7, 3, (1, 2, 0, 0))], [])).any fun xs => xs.all fun x => ([(41, [], [(1, 4, 0, 0)], [], rp_en 0 (i : Int), [])] : List sm_t).any fun y => sm_is [] x y) = true := by decide +kernel
def rp_e3 (a1 a2 : Int) : List ai_e := [(0, 0, false, 0, 0), (0, 2555, false, 1, 0), (a1, a2, false, 2, 0)]
theorem rp_3 : ((List.range 8).all fun i => (ai_ex (hk []) 20 16 tb_m16 8 [5] (23, rp_lo (1, 2, 0, 0) i, [(1, 0, 0, 1)], rp_e3 (-4) 7, [], [])).any fun xs => xs.all fun x => ([(5, rp_lo (1, 2, 0, 0) (i + 1), [], [], rp_e3 (-4) 7, [])] : List sm_t).any fun y => sm_is [] x y) = true := by decide +kernel
theorem rp_4 : ((List.range 8).all fun i => (ai_ex (hk []) 20 16 tb_m16 8 [5] (23, rp_lo (1, 2, 0, 0) i, [(1, 0, 0, 0)], rp_e3 (-4) 7, [], [])).any fun xs => xs.all fun x => ([(5, rp_lo (1, 2, 0, 0) (i + 1), [], [], rp_e3 (-3) 7, [(140, 2, 0, 2, -4)]), (5, rp_lo (1, 0, 0, (i : Int)) (i + 1), [], [], rp_e3 (-4) (-4), [])] : List sm_t).any fun y => sm_is [] x y) = true := by decide +kernel
section XRP
variable {ad : List Nat} {p : Program} {l : Launch} {e : Env} {R : Room} {s : State} {m : MethodId} {args : Array Value} {below : List Frame} {meth : Method} {c : Code} {D : va_G} {tys : ai_ty} {A : Nat → Prop} {b L : Nat} {sx : Nat → Int32} {cells slots : Nat} {Q : State → Prop}
/-- what the class's plan comes to -/
def rp_P (ad : List Nat) (tys : ai_ty) (n a : Nat) (E P : Nat → Int) (ws ws' : va_W) (z : Int32) : Prop := ai_wd tb_TY ad tys ws' ∧ ai_fr pf_W ws ws' ∧ cev ws' 7 n (plE P E a) ∧ z.toInt = plF P E a
theorem rp_loopc {ar n a : Nat} {E P : Nat → Int} {ws0 : va_W} (C : ai_cx tb_m16 8 p R s m args c D tys A b L sx cells slots) (ha : ad[7]? = some ar) (hn : n ≤ 4) (ha8 : a ≤ 8) (hg : good n E) (hP : ∀ j, j < a → P j = 4 ∨ (0 ≤ P j ∧ P j < n)) (hv0 : vi ws0 7 0 n) (hv3 : vi ws0 7 3 a) (hp : ∀ j, j < a → vi ws0 12 j (P j))
    (kk : ∀ (ws' : va_W) (z : Int32) (lv' : List (Nat × Value)), rp_P ad tys n a E P ws0 ws' z → hG tb_m16 p l e R s m args below meth c D A cells slots Q 41 lv' [.int z] ws') :
    ∀ (f i : Nat) (zf zi : Int32) (ws : va_W), i + f = 9 → i ≤ a → zf.toInt = plF P E i → zi.toInt = i → ai_wd tb_TY ad tys ws → ai_fr pf_W ws0 ws → cev ws 7 n (plE P E i) → hG tb_m16 p l e R s m args below meth c D A cells slots Q 5 [(0, .ref ar), (1, .int zf), (2, .int zi)] [] ws := by
  intro f
  induction f with
  | zero =>
    intro i zf zi ws hf hi _ _ _ _ _
    exact absurd hf (by omega)
  | succ f ih =>
    intro i zf zi ws hf hi ezf ezi hw hfr hc
    have bF := plF_b (P := P) (E := E) i (by omega)
    have v0 : vi ws 7 0 n := hv0.fr hfr rfl
    have v3 : vi ws 7 3 a := hv3.fr hfr rfl
    refine hild2 (j := 2) (x := zi) C (tv_m16.1.1.1 (5, .iload_n 2, 1) (List.mem_of_getElem? (i := 4) rfl)) (List.mem_of_getElem? (i := 2) rfl) ?_
    by_cases hia : i < a
    · have vp : vi ws 12 i (P i) := (hp i hia).fr hfr (nowr_ok (c := 12) rfl i i)
      have bP : 0 ≤ P i ∧ P i ≤ 4 := by
        have := hP i hia
        omega
      have hgi := plE_g hn hg hP i (by omega)
      refine hsum (st := (6, rp_lo (1, 4, 0, 0) i, [(1, 0, 0, (i : Int))], rp_en ((i : Int) + 1) 8, [(7, 3, (1, 2, 0, 0)), (12, i, (1, 3, 0, 0))], [])) (List.all_eq_true.mp rp_1 i (List.mem_range.mpr (by omega))) rfl C (r := [0, 0, (a : Int), P i, zf.toInt]) ⟨en_mk (by simp only [rp_en, en_b, and_true]; omega) rfl, sb0, ⟨rfl, Or.inl ⟨rfl, ar, ha, rfl⟩, rfl, int_dv (z := zf.toInt) rfl (by omega), rfl, int_dv (z := 0) rfl (by omega), trivial⟩, ⟨int_dv (z := 0) rfl (by omega), trivial⟩, hw, kc (v3.kn (n := 2) (t := (a : Int)) rfl (by omega)) (kc (vp.kn (n := 3) (t := P i) rfl (by omega)) k0), fun _ _ _ _ h => h, fun h => by cases h⟩ (fun x hx r' lv' sk' ws1 hx' hb hl hs hlo hsk hw1 hv' hf1 _ => ?_)
      rw [List.mem_singleton.mp hx] at hlo hsk ⊢
      dsimp only at hlo hsk ⊢
      obtain ⟨l1, rfl, p1⟩ := lo_ref ha hlo
      obtain ⟨yf, l2, rfl, df, p2⟩ := lo_int rfl p1
      obtain ⟨yi, l3, rfl, di, p3⟩ := lo_int rfl p2
      cases lo_nil p3
      rw [vn_at hx' (n := 4) (z := zf.toInt) rfl] at df
      rw [vn_at hx' (n := 0) (z := 0) rfl] at di
      obtain ⟨x1, s1, rfl, d1, g4⟩ := hsk.cons
      obtain ⟨x2, s2, rfl, d2, g5⟩ := g4.cons
      cases g5.nil
      obtain ⟨ya, rfl, wa⟩ := dvn d1 (hx'.at (k := 3) rfl)
      have f2 := ref_of49 ha d2
      subst f2
      refine hcallZ (q := (89, 0, 15, 1, 0)) (M' := tb_m15) (cl := 7) (a := ar) (As := [.int ya]) (rest := []) (rets := [10, 20, 28]) (P := pf_P ad tys n (plE P E i) (P i) ws1) C (by decide) (tv_m16.1.1.1 (20, .invokevirtual 89, 3) (List.mem_of_getElem? (i := 13) rfl)) (tv_m16.2 _ (List.mem_of_getElem? (i := 11) rfl)) rfl rfl rfl rfl (by decide) (Nat.le_of_ble_eq_true rfl) rfl rfl rfl rfl hw1 ha (by decide) ?_ ?_ ?_ ?_
      · intro pcr hpc
        simp only [List.mem_cons, List.not_mem_nil, or_false] at hpc
        rcases hpc with rfl | rfl | rfl
        · exact tv_m15.1.1.1 (10, .ireturn, 1) (List.mem_of_getElem? (i := 6) rfl)
        · exact tv_m15.1.1.1 (20, .ireturn, 1) (List.mem_of_getElem? (i := 12) rfl)
        · exact tv_m15.1.1.1 (28, .ireturn, 1) (List.mem_of_getElem? (i := 18) rfl)
      · intro w z hPz
        have h := hPz.2.2.2
        by_cases hcb : canB (plE P E i) (P i) = true
        · rw [if_pos hcb] at h
          exact Or.inr (i11 h)
        · rw [if_neg hcb] at h
          exact Or.inl (i01 h)
      · intro p2 e2 R2 s2 m2 args2 below2 meth2 c2 Q2 C2 kk2
        exact pf_all C2 ha hn hgi (hP i hia) (by omega) hw1 (v0.fr hf1 rfl) (hc.fr hf1 rfl) kk2
      · intro ws2 z hPz
        obtain ⟨hw2, hf2, hc2, hz⟩ := hPz
        have hfr2 : ai_fr pf_W ws0 ws2 := (hfr.tr (wsub_ok (V := []) (by rfl) hf1)).tr hf2
        have go : ∀ (ws3 : va_W) (yf3 yi3 : Int32), ai_wd tb_TY ad tys ws3 → ai_fr [] ws2 ws3 → yf3.toInt = plF P E (i + 1) → yi3.toInt = ((i + 1 : Nat) : Int) → hG tb_m16 p l e R s m args below meth c D A cells slots Q 5 [(0, .ref ar), (1, .int yf3), (2, .int yi3)] [] ws3 := fun ws3 yf3 yi3 hw3 hf3 e1 e2 => ih (i + 1) yf3 yi3 ws3 (by omega) (by omega) e1 e2 hw3 (hfr2.tr (wsub_ok (V := []) (by rfl) hf3)) (hc2.fr hf3 rfl)
        by_cases hcb : canB (plE P E i) (P i) = true
        · rw [if_pos hcb] at hz
          have e1 : plF P E (i + 1) = plF P E i := by
            show (if canB (plE P E i) (P i) = true then plF P E i else if plF P E i = -4 then (i : Int) else plF P E i) = _
            rw [if_pos hcb]
          refine hsum (st := (23, rp_lo (1, 2, 0, 0) i, [(1, 0, 0, 1)], rp_e3 (-4) 7, [], [])) (List.all_eq_true.mp rp_3 i (List.mem_range.mpr (by omega))) rfl C (r := [0, 0, yf.toInt]) ⟨en_mk (by simp only [rp_e3, en_b, and_true]; omega) rfl, sb0, ⟨rfl, Or.inl ⟨rfl, ar, ha, rfl⟩, rfl, int_dv (z := yf.toInt) rfl (by omega), rfl, int_dv (z := 0) rfl (by omega), trivial⟩, ⟨int_dv (z := 0) rfl (by omega), trivial⟩, hw2, k0, fun _ _ _ _ h => h, fun h => by cases h⟩ (fun x hx r3 lv3 sk3 ws3 hx3 hb3 hl3 hs3 hlo3 hsk3 hw3 hv3' hf3 _ => ?_)
          rw [List.mem_singleton.mp hx] at hlo3 hsk3 ⊢
          dsimp only at hlo3 hsk3 ⊢
          cases hsk3.nil
          obtain ⟨l1, rfl, p1⟩ := lo_ref ha hlo3
          obtain ⟨yf3, l2, rfl, df3, p2⟩ := lo_int rfl p1
          obtain ⟨yi3, l3, rfl, di3, p3⟩ := lo_int rfl p2
          cases lo_nil p3
          rw [vn_at hx3 (n := 2) (z := yf.toInt) rfl] at df3
          rw [vn_at hx3 (n := 0) (z := 0) rfl] at di3
          exact go ws3 yf3 yi3 hw3 hf3 (by omega) (by omega)
        · rw [if_neg hcb] at hz
          have e1 : plF P E (i + 1) = if plF P E i = -4 then (i : Int) else plF P E i := by
            show (if canB (plE P E i) (P i) = true then plF P E i else if plF P E i = -4 then (i : Int) else plF P E i) = _
            rw [if_neg hcb]
          refine hsum (st := (23, rp_lo (1, 2, 0, 0) i, [(1, 0, 0, 0)], rp_e3 (-4) 7, [], [])) (List.all_eq_true.mp rp_4 i (List.mem_range.mpr (by omega))) rfl C (r := [0, 0, yf.toInt]) ⟨en_mk (by simp only [rp_e3, en_b, and_true]; omega) rfl, sb0, ⟨rfl, Or.inl ⟨rfl, ar, ha, rfl⟩, rfl, int_dv (z := yf.toInt) rfl (by omega), rfl, int_dv (z := 0) rfl (by omega), trivial⟩, ⟨int_dv (z := 0) rfl (by omega), trivial⟩, hw2, k0, fun _ _ _ _ h => h, fun h => by cases h⟩ (fun x hx r3 lv3 sk3 ws3 hx3 hb hl hs3 hlo3 hsk3 hw3 hv3' hf3 _ => ?_)
          have m0 := nm_x hx3 (k := 0) rfl
          have m2 := nm_x hx3 (k := 2) rfl
          rcases List.mem_cons.mp hx with rfl | hx
          · dsimp only at hlo3 hsk3 ⊢
            cases hsk3.nil
            obtain ⟨l1, rfl, p1⟩ := lo_ref ha hlo3
            obtain ⟨yf3, l2, rfl, df3, p2⟩ := lo_int rfl p1
            obtain ⟨yi3, l3, rfl, di3, p3⟩ := lo_int rfl p2
            cases lo_nil p3
            rw [vn_at hx3 (n := 2) (z := yf.toInt) rfl] at df3
            rw [vn_at hx3 (n := 0) (z := 0) rfl] at di3
            simp (config := { decide := true }) only [rp_e3, bnd_b, lin_b, lin_q, Nat.reduceAdd, Nat.zero_add, Nat.reduceEqDiff, reduceIte, and_true, Int.add_zero] at hb hl
            exact go ws3 yf3 yi3 hw3 hf3 (by rw [e1, if_neg (by omega)]; omega) (by omega)
          · have hx9 := List.mem_singleton.mp hx
            subst hx9
            dsimp only at hlo3 hsk3 ⊢
            cases hsk3.nil
            obtain ⟨l1, rfl, p1⟩ := lo_ref ha hlo3
            obtain ⟨yf3, l2, rfl, df3, p2⟩ := lo_int rfl p1
            obtain ⟨yi3, l3, rfl, di3, p3⟩ := lo_int rfl p2
            cases lo_nil p3
            rw [vn_at hx3 (n := 0) (z := 0) rfl] at df3 di3
            simp (config := { decide := true }) only [rp_e3, bnd_b, lin_b, lin_q, Nat.reduceAdd, Nat.zero_add, Nat.reduceEqDiff, reduceIte, and_true, Int.add_zero] at hb hl
            exact go ws3 yf3 yi3 hw3 hf3 (by rw [e1, if_pos (by omega)]; omega) (by omega)
    · have hia' : i = a := by omega
      subst hia'
      refine hsum (st := (6, rp_lo (1, 4, 0, 0) i, [(1, 0, 0, (i : Int))], rp_en 0 (i : Int), [(7, 3, (1, 2, 0, 0))], [])) (List.all_eq_true.mp rp_2 i (List.mem_range.mpr (by omega))) rfl C (r := [0, 0, (i : Int), 0, zf.toInt]) ⟨en_mk (by simp only [rp_en, en_b, and_true]; omega) rfl, sb0, ⟨rfl, Or.inl ⟨rfl, ar, ha, rfl⟩, rfl, int_dv (z := zf.toInt) rfl (by omega), rfl, int_dv (z := 0) rfl (by omega), trivial⟩, ⟨int_dv (z := 0) rfl (by omega), trivial⟩, hw, kc (v3.kn (n := 2) (t := (i : Int)) rfl (by omega)) k0, fun _ _ _ _ h => h, fun h => by cases h⟩ (fun x hx r' lv' sk' ws1 hx' hb hl hs hlo hsk hw1 hv' hf1 _ => ?_)
      have hx9 := List.mem_singleton.mp hx
      subst hx9
      obtain ⟨z, rfl, hz⟩ := sk1 rfl hsk
      rw [vn_at hx' (n := 4) (z := zf.toInt) rfl] at hz
      exact kk ws1 z lv' ⟨hw1, hfr.tr (wsub_ok (V := []) (by rfl) hf1), hc.fr hf1 rfl, by omega⟩
theorem rp_all {ar n a : Nat} {E P : Nat → Int} {ws : va_W} (C : ai_cx tb_m16 8 p R s m args c D tys A b L sx cells slots) (ha : ad[7]? = some ar) (hn : n ≤ 4) (ha8 : a ≤ 8) (hg : good n E) (hP : ∀ j, j < a → P j = 4 ∨ (0 ≤ P j ∧ P j < n)) (hw : ai_wd tb_TY ad tys ws) (hv0 : vi ws 7 0 n) (hv3 : vi ws 7 3 a) (hp : ∀ j, j < a → vi ws 12 j (P j)) (hc : cev ws 7 n E)
    (kk : ∀ (ws' : va_W) (z : Int32) (lv' : List (Nat × Value)), rp_P ad tys n a E P ws ws' z → hG tb_m16 p l e R s m args below meth c D A cells slots Q 41 lv' [.int z] ws') : hG tb_m16 p l e R s m args below meth c D A cells slots Q 0 [(0, .ref ar)] [] ws := by
  refine hsum (st := (0, [(0, (0, 7, 0, 0))], [], [(0, 0, false, 0, 0), (0, 2555, false, 1, 0)], [], [])) rp_0 rfl C (r := [0, 0]) ⟨en_mk (by simp only [en_b, and_true]; omega) rfl, sb0, ⟨rfl, Or.inl ⟨rfl, ar, ha, rfl⟩, trivial⟩, trivial, hw, k0, fun _ _ _ _ h => h, fun h => by cases h⟩ (fun x hx r' lv' sk' ws1 hx' hb hl hs hlo hsk hw1 hv' hf1 _ => ?_)
  rw [List.mem_singleton.mp hx] at hlo hsk ⊢
  dsimp only at hlo hsk ⊢
  cases hsk.nil
  obtain ⟨l1, rfl, p1⟩ := lo_ref ha hlo
  obtain ⟨yf, l2, rfl, df, p2⟩ := lo_int rfl p1
  obtain ⟨yi, l3, rfl, di, p3⟩ := lo_int rfl p2
  cases lo_nil p3
  rw [vn_at hx' (n := 0) (z := 0) rfl] at df di
  exact rp_loopc (ws0 := ws) C ha hn ha8 hg hP hv0 hv3 hp kk 9 0 yf yi ws1 rfl (Nat.zero_le _) (by show yf.toInt = -4; omega) (by omega) hw1 (wsub_ok (V := []) (by rfl) hf1) (hc.fr hf1 rfl)
end XRP
/-! planGoes -/
def pg_W : List (Nat × Nat × Nat) := [(49, 17, 18), (50, 108, 135)]
def pgl (pg i : Nat) : List (Nat × ai_v) := [(0, (0, 49, 0, 0)), (1, (1, 0, 0, (pg : Int))), (2, (1, 0, 0, (i : Int)))]
noncomputable def pg_g (N : Nat) (f : Nat → Nat → Bool) : Bool := ([0, 135] : List Nat).all fun pg => (List.range N).all fun i => f pg i
theorem pg_at {N : Nat} {f : Nat → Nat → Bool} (h : pg_g N f = true) {pg i : Nat} (hg : pg = 0 ∨ pg = 135) (hi : i < N) : f pg i = true := List.all_eq_true.mp (List.all_eq_true.mp h pg (by rcases hg with rfl | rfl <;> simp)) i (List.mem_range.mpr hi)
theorem pg_0 : pg_g 1 (fun pg _ => (ai_ex (hk []) 20 135 tb_m135 8 [4] (0, [(0, (0, 49, 0, 0)), (1, (1, 0, 0, (pg : Int)))], [], [(0, 0, false, 0, 0), (0, 2555, false, 1, 0)], [], [])).any fun xs => xs.all fun x => ([(4, [(0, (0, 49, 0, 0)), (1, (1, 0, 0, (pg : Int)))], [(1, 0, 0, 108), (1, 0, 0, (pg : Int)), (0, 49, 0, 0)], [], [(0, 0, false, 0, 0), (0, 2555, false, 1, 0)], [])] : List sm_t).any fun y => sm_is [] x y) = true := by decide +kernel
theorem pg_1 : pg_g 1 (fun pg _ => (ai_ex (hk [(49, 17, 18)]) 20 135 tb_m135 8 [15] (7, [(0, (0, 49, 0, 0)), (1, (1, 0, 0, (pg : Int)))], [], [(0, 0, false, 0, 0), (0, 2555, false, 1, 0)], [], [])).any fun xs => xs.all fun x => ([(15, pgl pg 0, [], [(1, 0, 0, -4)], [(0, 0, false, 0, 0), (0, 2555, false, 1, 0)], [])] : List sm_t).any fun y => sm_is [(49, 17)] x y) = true := by decide +kernel
def pg_en (a1 a2 : Int) : List ai_e := [(0, 0, false, 0, 0), (0, 2555, false, 1, 0), (a1, a2, false, 2, 0), (0, 4, false, 3, 0)]
theorem pg_2 : pg_g 8 (fun pg i => (ai_ex (hk []) 20 135 tb_m135 8 [42, 15] (16, pgl pg i, [(1, 0, 0, (i : Int))], pg_en ((i : Int) + 1) 8, [(50, 26 + pg, (1, 2, 0, 0)), (50, 18 + i + pg, (1, 3, 0, 0))], [])).any fun xs => xs.all fun x => ([(42, pgl pg i, [(1, 3, 0, 0), (1, 0, 0, 108), (0, 49, 0, 0)], [], pg_en ((i : Int) + 1) 8, [])] : List sm_t).any fun y => sm_is [] x y) = true := by decide +kernel
theorem pg_3 : pg_g 9 (fun pg i => (ai_ex (hk []) 20 135 tb_m135 8 [42, 15] (16, pgl pg i, [(1, 0, 0, (i : Int))], pg_en 0 (i : Int), [(50, 26 + pg, (1, 2, 0, 0))], [])).any fun xs => xs.all fun x => ([(77, [], [], [], pg_en 0 (i : Int), [])] : List sm_t).any fun y => sm_is [] x y) = true := by decide +kernel
theorem pg_4 : pg_g 8 (fun pg i => (ai_ex (hk [(49, 17, 18)]) 30 135 tb_m135 8 [15] (45, pgl pg i, [(1, 0, 0, 1)], rp_e3 (-4) 7, [(49, 17, (1, 2, 0, 0))], [])).any fun xs => xs.all fun x => ([(15, pgl pg (i + 1), [], [(1, 2, 0, 0)], rp_e3 (-4) 7, [])] : List sm_t).any fun y => sm_is [(49, 17)] x y) = true := by decide +kernel
theorem pg_5 : pg_g 8 (fun pg i => (ai_ex (hk [(49, 17, 18)]) 30 135 tb_m135 8 [15] (45, pgl pg i, [(1, 0, 0, 0)], rp_e3 (-4) 7, [(49, 17, (1, 2, 0, 0))], [])).any fun xs => xs.all fun x => ([(15, pgl pg (i + 1), [], [(1, 2, 0, 0)], rp_e3 (-3) 7, [(140, 2, 0, 2, -4)]), (15, pgl pg (i + 1), [], [(1, 0, 0, (i : Int))], rp_e3 (-4) (-4), [])] : List sm_t).any fun y => sm_is [(49, 17)] x y) = true := by decide +kernel
section XPG
variable {ad : List Nat} {p : Program} {l : Launch} {e : Env} {R : Room} {s : State} {m : MethodId} {args : Array Value} {below : List Frame} {meth : Method} {c : Code} {D : va_G} {tys : ai_ty} {A : Nat → Prop} {b L : Nat} {sx : Nat → Int32} {cells slots : Nat} {Q : State → Prop}
def pg_P (ad : List Nat) (tys : ai_ty) (n a : Nat) (E P : Nat → Int) (ws ws' : va_W) : Prop := ai_wd tb_TY ad tys ws' ∧ ai_fr pg_W ws ws' ∧ pev ws' 108 n (plE P E a) ∧ vi ws' 49 17 (plF P E a)
theorem pg_loop {ar pg n a : Nat} {E P : Nat → Int} {zp : Int32} {ws0 : va_W} (C : ai_cx tb_m135 8 p R s m args c D tys A b L sx cells slots) (hpg : pg = 0 ∨ pg = 135) (ha : ad[49]? = some ar) (hzp : zp.toInt = pg) (hn : n ≤ 4) (ha8 : a ≤ 8) (hg : good n E) (hP : ∀ j, j < a → P j = 4 ∨ (0 ≤ P j ∧ P j < n)) (hv0 : vi ws0 49 1 n) (hv3 : vi ws0 50 (26 + pg) a) (hp : ∀ j, j < a → vi ws0 50 (18 + j + pg) (P j))
    (kk : ∀ (ws' : va_W) (lv' : List (Nat × Value)), pg_P ad tys n a E P ws0 ws' → hG tb_m135 p l e R s m args below meth c D A cells slots Q 77 lv' [] ws') :
    ∀ (f i : Nat) (zi : Int32) (ws : va_W), i + f = 9 → i ≤ a → zi.toInt = i → ai_wd tb_TY ad tys ws → ai_fr pg_W ws0 ws → pev ws 108 n (plE P E i) → vi ws 49 17 (plF P E i) → hG tb_m135 p l e R s m args below meth c D A cells slots Q 15 [(0, .ref ar), (1, .int zp), (2, .int zi)] [] ws := by
  have off : ∀ {j : Nat}, j < 27 → ai_wr pg_W 50 (j + pg) (j + pg) = false := fun {j} hj => wr_no fun q hq => by
    unfold pg_W at hq
    simp only [List.mem_cons, List.not_mem_nil, or_false] at hq
    rcases hq with rfl | rfl <;> dsimp only <;> omega
  intro f
  induction f with
  | zero =>
    intro i zi ws hf hi _ _ _ _ _
    exact absurd hf (by omega)
  | succ f ih =>
    intro i zi ws hf hi ezi hw hfr hc hv17
    have bF := plF_b (P := P) (E := E) i (by omega)
    have v0 : vi ws 49 1 n := hv0.fr hfr rfl
    have v3 : vi ws 50 (26 + pg) a := hv3.fr hfr (off (by omega))
    refine hild2 (j := 2) (x := zi) C (tv_m135.1.1.1 (15, .iload_n 2, 1) (List.mem_of_getElem? (i := 9) rfl)) (List.mem_of_getElem? (i := 2) rfl) ?_
    by_cases hia : i < a
    · have vp : vi ws 50 (18 + i + pg) (P i) := (hp i hia).fr hfr (off (by omega))
      have bP : 0 ≤ P i ∧ P i ≤ 4 := by
        have := hP i hia
        omega
      have hgi := plE_g hn hg hP i (by omega)
      refine hsum (st := (16, pgl pg i, [(1, 0, 0, (i : Int))], pg_en ((i : Int) + 1) 8, [(50, 26 + pg, (1, 2, 0, 0)), (50, 18 + i + pg, (1, 3, 0, 0))], [])) (pg_at pg_2 hpg (by omega)) rfl C (r := [0, 0, (a : Int), P i]) ⟨en_mk (by simp only [pg_en, en_b, and_true]; omega) rfl, sb0, ⟨rfl, Or.inl ⟨rfl, ar, ha, rfl⟩, rfl, int_dv (z := 0) rfl (by omega), rfl, int_dv (z := 0) rfl (by omega), trivial⟩, ⟨int_dv (z := 0) rfl (by omega), trivial⟩, hw, kc (v3.kn (n := 2) (t := (a : Int)) rfl (by omega)) (kc (vp.kn (n := 3) (t := P i) rfl (by omega)) k0), fun _ _ _ _ h => h, fun h => by cases h⟩ (fun x hx r' lv' sk' ws1 hx' hb hl hs hlo hsk hw1 hv' hf1 _ => ?_)
      rw [List.mem_singleton.mp hx] at hlo hsk ⊢
      dsimp only at hlo hsk ⊢
      obtain ⟨l1, rfl, p1⟩ := lo_ref ha hlo
      obtain ⟨yp, l2, rfl, dp, p2⟩ := lo_int rfl p1
      obtain ⟨yi, l3, rfl, di, p3⟩ := lo_int rfl p2
      cases lo_nil p3
      rw [vn_at hx' (n := 0) (z := 0) rfl] at dp di
      have ep : zp = yp := Int32.toInt_inj.mp (by omega)
      subst ep
      obtain ⟨x1, s1, rfl, d1, g4⟩ := hsk.cons
      obtain ⟨x2, s2, rfl, d2, g5⟩ := g4.cons
      obtain ⟨x3, s3, rfl, d3, g6⟩ := g5.cons
      cases g6.nil
      obtain ⟨ya, rfl, wa⟩ := dvn d1 (hx'.at (k := 3) rfl)
      obtain ⟨yq, rfl, wq⟩ := dvn d2 (hx'.at (k := 0) rfl)
      have f3 := ref_of49 ha d3
      subst f3
      refine hcallZ (q := (181, 0, 130, 2, 6)) (M' := tb_m130) (cl := 49) (a := ar) (As := [.int yq, .int ya]) (rest := []) (rets := [11, 22, 32]) (P := ma_P ad tys n (plE P E i) (P i) ws1) C (by decide) (tv_m135.1.1.1 (42, .invokevirtual 181, 3) (List.mem_of_getElem? (i := 27) rfl)) (tv_m135.2 _ (List.mem_of_getElem? (i := 22) rfl)) rfl rfl rfl rfl (by decide) (Nat.le_of_ble_eq_true rfl) rfl rfl rfl rfl hw1 ha (by decide) ?_ ?_ ?_ ?_
      · intro pcr hpc
        simp only [List.mem_cons, List.not_mem_nil, or_false] at hpc
        rcases hpc with rfl | rfl | rfl
        · exact tv_m130.1.1.1 (11, .ireturn, 1) (List.mem_of_getElem? (i := 7) rfl)
        · exact tv_m130.1.1.1 (22, .ireturn, 1) (List.mem_of_getElem? (i := 14) rfl)
        · exact tv_m130.1.1.1 (32, .ireturn, 1) (List.mem_of_getElem? (i := 22) rfl)
      · intro w z hPz
        have h := hPz.2.2.2
        by_cases hcb : canB (plE P E i) (P i) = true
        · rw [if_pos hcb] at h
          exact Or.inr (i11 h)
        · rw [if_neg hcb] at h
          exact Or.inl (i01 h)
      · intro p2 e2 R2 s2 m2 args2 below2 meth2 c2 Q2 C2 kk2
        exact ma_all C2 ha hn hgi (hP i hia) (by omega) (by omega) hw1 (v0.fr hf1 rfl) (hc.fr hn hf1 (fun _ _ => rfl)) kk2
      · intro ws2 z hPz
        obtain ⟨hw2, hf2, hc2, hz⟩ := hPz
        have v17 : vi ws2 49 17 (plF P E i) := (hv17.fr hf1 rfl).fr hf2 rfl
        have hfr2 : ai_fr pg_W ws0 ws2 := (hfr.tr (wsub_ok (V := []) (by rfl) hf1)).tr (wsub_ok (by decide) hf2)
        have go : ∀ (ws3 : va_W) (yi3 : Int32), ai_wd tb_TY ad tys ws3 → ai_fr [(49, 17, 18)] ws2 ws3 → vi ws3 49 17 (plF P E (i + 1)) → yi3.toInt = ((i + 1 : Nat) : Int) → hG tb_m135 p l e R s m args below meth c D A cells slots Q 15 [(0, .ref ar), (1, .int zp), (2, .int yi3)] [] ws3 := fun ws3 yi3 hw3 hf3 e1 e2 => ih (i + 1) yi3 ws3 (by omega) (by omega) e2 hw3 (hfr2.tr (wsub_ok (by decide) hf3)) (hc2.fr hn hf3 (fun _ _ => rfl)) e1
        by_cases hcb : canB (plE P E i) (P i) = true
        · rw [if_pos hcb] at hz
          have e1 : plF P E (i + 1) = plF P E i := by
            show (if canB (plE P E i) (P i) = true then plF P E i else if plF P E i = -4 then (i : Int) else plF P E i) = _
            rw [if_pos hcb]
          refine hsum (st := (45, pgl pg i, [(1, 0, 0, 1)], rp_e3 (-4) 7, [(49, 17, (1, 2, 0, 0))], [])) (pg_at pg_4 hpg (by omega)) rfl C (r := [0, 0, plF P E i]) ⟨en_mk (by simp only [rp_e3, en_b, and_true]; omega) rfl, sb0, ⟨rfl, Or.inl ⟨rfl, ar, ha, rfl⟩, rfl, int_dv (z := 0) rfl (by omega), rfl, int_dv (z := 0) rfl (by omega), trivial⟩, ⟨int_dv (z := 0) rfl (by omega), trivial⟩, hw2, kc (v17.kn (n := 2) (t := plF P E i) rfl (by omega)) k0, fun _ _ _ _ h => h, fun h => by cases h⟩ (fun x hx r3 lv3 sk3 ws3 hx3 hb3 hl3 hs3 hlo3 hsk3 hw3 hv3' hf3 _ => ?_)
          have hx9 := List.mem_singleton.mp hx
          subst hx9
          dsimp only at hlo3 hsk3 ⊢
          cases hsk3.nil
          obtain ⟨q1, -⟩ := hv3'
          obtain ⟨l1, rfl, p1⟩ := lo_ref ha hlo3
          obtain ⟨yp, l2, rfl, dp3, p2⟩ := lo_int rfl p1
          obtain ⟨yi3, l3, rfl, di3, p3⟩ := lo_int rfl p2
          cases lo_nil p3
          rw [vn_at hx3 (n := 0) (z := 0) rfl] at dp3 di3
          have ep : zp = yp := Int32.toInt_inj.mp (by omega)
          subst ep
          exact go ws3 yi3 hw3 hf3 (q1.eq (by rw [nm_x hx3 (k := 2) rfl, e1]; exact Int.add_zero _)) (by omega)
        · rw [if_neg hcb] at hz
          have e1 : plF P E (i + 1) = if plF P E i = -4 then (i : Int) else plF P E i := by
            show (if canB (plE P E i) (P i) = true then plF P E i else if plF P E i = -4 then (i : Int) else plF P E i) = _
            rw [if_neg hcb]
          refine hsum (st := (45, pgl pg i, [(1, 0, 0, 0)], rp_e3 (-4) 7, [(49, 17, (1, 2, 0, 0))], [])) (pg_at pg_5 hpg (by omega)) rfl C (r := [0, 0, plF P E i]) ⟨en_mk (by simp only [rp_e3, en_b, and_true]; omega) rfl, sb0, ⟨rfl, Or.inl ⟨rfl, ar, ha, rfl⟩, rfl, int_dv (z := 0) rfl (by omega), rfl, int_dv (z := 0) rfl (by omega), trivial⟩, ⟨int_dv (z := 0) rfl (by omega), trivial⟩, hw2, kc (v17.kn (n := 2) (t := plF P E i) rfl (by omega)) k0, fun _ _ _ _ h => h, fun h => by cases h⟩ (fun x hx r3 lv3 sk3 ws3 hx3 hb hl hs3 hlo3 hsk3 hw3 hv3' hf3 _ => ?_)
          have m0 := nm_x hx3 (k := 0) rfl
          have m2 := nm_x hx3 (k := 2) rfl
          rcases List.mem_cons.mp hx with rfl | hx
          · dsimp only at hlo3 hsk3 ⊢
            cases hsk3.nil
            obtain ⟨q1, -⟩ := hv3'
            obtain ⟨l1, rfl, p1⟩ := lo_ref ha hlo3
            obtain ⟨yp, l2, rfl, dp3, p2⟩ := lo_int rfl p1
            obtain ⟨yi3, l3, rfl, di3, p3⟩ := lo_int rfl p2
            cases lo_nil p3
            rw [vn_at hx3 (n := 0) (z := 0) rfl] at dp3 di3
            have ep : zp = yp := Int32.toInt_inj.mp (by omega)
            subst ep
            simp (config := { decide := true }) only [rp_e3, bnd_b, lin_b, lin_q, Nat.reduceAdd, Nat.zero_add, Nat.reduceEqDiff, reduceIte, and_true, Int.add_zero] at hb hl
            exact go ws3 yi3 hw3 hf3 (q1.eq (by rw [e1, if_neg (by omega)]; dsimp only; omega)) (by omega)
          · have hx9 := List.mem_singleton.mp hx
            subst hx9
            dsimp only at hlo3 hsk3 ⊢
            cases hsk3.nil
            obtain ⟨q1, -⟩ := hv3'
            obtain ⟨l1, rfl, p1⟩ := lo_ref ha hlo3
            obtain ⟨yp, l2, rfl, dp3, p2⟩ := lo_int rfl p1
            obtain ⟨yi3, l3, rfl, di3, p3⟩ := lo_int rfl p2
            cases lo_nil p3
            rw [vn_at hx3 (n := 0) (z := 0) rfl] at dp3 di3
            have ep : zp = yp := Int32.toInt_inj.mp (by omega)
            subst ep
            simp (config := { decide := true }) only [rp_e3, bnd_b, lin_b, lin_q, Nat.reduceAdd, Nat.zero_add, Nat.reduceEqDiff, reduceIte, and_true, Int.add_zero] at hb hl
            exact go ws3 yi3 hw3 hf3 (q1.eq (by rw [e1, if_pos (by omega)]; dsimp only; omega)) (by omega)
    · have hia' : i = a := by omega
      subst hia'
      refine hsum (st := (16, pgl pg i, [(1, 0, 0, (i : Int))], pg_en 0 (i : Int), [(50, 26 + pg, (1, 2, 0, 0))], [])) (pg_at pg_3 hpg (by omega)) rfl C (r := [0, 0, (i : Int), 0]) ⟨en_mk (by simp only [pg_en, en_b, and_true]; omega) rfl, sb0, ⟨rfl, Or.inl ⟨rfl, ar, ha, rfl⟩, rfl, int_dv (z := 0) rfl (by omega), rfl, int_dv (z := 0) rfl (by omega), trivial⟩, ⟨int_dv (z := 0) rfl (by omega), trivial⟩, hw, kc (v3.kn (n := 2) (t := (i : Int)) rfl (by omega)) k0, fun _ _ _ _ h => h, fun h => by cases h⟩ (fun x hx r' lv' sk' ws1 hx' hb hl hs hlo hsk hw1 hv' hf1 _ => ?_)
      have hx9 := List.mem_singleton.mp hx
      subst hx9
      cases hsk.nil
      exact kk ws1 lv' ⟨hw1, hfr.tr (wsub_ok (V := []) (by rfl) hf1), hc.fr hn hf1 (fun _ _ => rfl), hv17.fr hf1 rfl⟩
theorem pg_all {ar pg n a : Nat} {E P : Nat → Int} {zp : Int32} {ws : va_W} (C : ai_cx tb_m135 8 p R s m args c D tys A b L sx cells slots) (hpg : pg = 0 ∨ pg = 135) (hcs : cs_r pg 108 = true) (hct : cs_pt pg = true) (ha : ad[49]? = some ar) (hzp : zp.toInt = pg) (hn : n ≤ 4) (ha8 : a ≤ 8) (hg : good n E) (hP : ∀ j, j < a → P j = 4 ∨ (0 ≤ P j ∧ P j < n)) (hw : ai_wd tb_TY ad tys ws) (hv0 : vi ws 49 1 n) (hv3 : vi ws 50 (26 + pg) a) (hp : ∀ j, j < a → vi ws 50 (18 + j + pg) (P j)) (hc : pev ws pg n E)
    (kk : ∀ (ws' : va_W) (lv' : List (Nat × Value)), pg_P ad tys n a E P ws ws' → hG tb_m135 p l e R s m args below meth c D A cells slots Q 77 lv' [] ws') : hG tb_m135 p l e R s m args below meth c D A cells slots Q 0 [(0, .ref ar), (1, .int zp)] [] ws := by
  refine hsum (st := (0, [(0, (0, 49, 0, 0)), (1, (1, 0, 0, (pg : Int)))], [], [(0, 0, false, 0, 0), (0, 2555, false, 1, 0)], [], [])) (pg_at (i := 0) pg_0 hpg (by decide)) rfl C (r := [0, 0]) ⟨en_mk (by simp only [en_b, and_true]; omega) rfl, sb0, ⟨rfl, Or.inl ⟨rfl, ar, ha, rfl⟩, rfl, int_dv (z := 0) rfl (by omega), trivial⟩, trivial, hw, k0, fun _ _ _ _ h => h, fun h => by cases h⟩ (fun x hx r' lv' sk' ws1 hx' hb hl hs hlo hsk hw1 hv' hf1 _ => ?_)
  rw [List.mem_singleton.mp hx] at hlo hsk ⊢
  dsimp only at hlo hsk ⊢
  obtain ⟨l1, rfl, p1⟩ := lo_ref ha hlo
  obtain ⟨yp, l2, rfl, dp, p2⟩ := lo_int rfl p1
  cases lo_nil p2
  rw [vn_at hx' (n := 0) (z := 0) rfl] at dp
  have ep : zp = yp := Int32.toInt_inj.mp (by omega)
  subst ep
  obtain ⟨x1, s1, rfl, d1, g4⟩ := hsk.cons
  obtain ⟨x2, s2, rfl, d2, g5⟩ := g4.cons
  obtain ⟨x3, s3, rfl, d3, g6⟩ := g5.cons
  cases g6.nil
  obtain ⟨yt, rfl, wt⟩ := dvn d1 (hx'.at (k := 0) rfl)
  obtain ⟨yf, rfl, wf⟩ := dvn d2 (hx'.at (k := 0) rfl)
  have f3 := ref_of49 ha d3
  subst f3
  refine hcallV (q := (174, 0, 134, 2, 6)) (M' := tb_m134) (cl := 49) (a := ar) (As := [.int yf, .int yt]) (rest := []) (rets := [30]) (P := cs_P ad tys pg 108 ws1) C (by decide) (tv_m135.1.1.1 (4, .invokevirtual 174, 3) (List.mem_of_getElem? (i := 3) rfl)) (tv_m135.2 _ (List.mem_of_getElem? (i := 21) rfl)) rfl rfl rfl rfl (by decide) (Nat.le_of_ble_eq_true rfl) rfl rfl rfl rfl hw1 ha (by decide) ?_ ?_ ?_
  · intro pcr hp
    rw [List.mem_singleton.mp hp]
    exact tv_m134.1.1.1 (30, .return_, 1) (List.mem_of_getElem? (i := 19) rfl)
  · intro p2 e2 R2 s2 m2 args2 below2 meth2 c2 Q2 C2 kk2
    exact cs_all hcs hct (by omega) (mm_cx (by decide) C2) hw1 ha (by omega) (by omega) (fun pcr w lv2 hp hP => kk2 pcr w lv2 hp hP)
  · intro ws2 hcsP
    obtain ⟨hw2, hf2, hV⟩ := hcsP
    have hf2' : ai_fr [(50, 108, 135)] ws1 ws2 := hf2
    refine hsum (st := (7, [(0, (0, 49, 0, 0)), (1, (1, 0, 0, (pg : Int)))], [], [(0, 0, false, 0, 0), (0, 2555, false, 1, 0)], [], [])) (pg_at (i := 0) pg_1 hpg (by decide)) rfl C (r := [0, 0]) ⟨en_mk (by simp only [en_b, and_true]; omega) rfl, sb0, ⟨rfl, Or.inl ⟨rfl, ar, ha, rfl⟩, rfl, int_dv (z := 0) rfl (by omega), trivial⟩, trivial, hw2, k0, fun _ _ _ _ h => h, fun h => by cases h⟩ (fun x hx r3 lv3 sk3 ws3 hx3 hb3 hl3 hs3 hlo3 hsk3 hw3 hv3' hf3 _ => ?_)
    have hx9 := List.mem_singleton.mp hx
    subst hx9
    dsimp only at hlo3 hsk3 ⊢
    cases hsk3.nil
    obtain ⟨q1, -⟩ := hv3'
    obtain ⟨l1, rfl, p1⟩ := lo_ref ha hlo3
    obtain ⟨yp, l2, rfl, dp3, p2⟩ := lo_int rfl p1
    obtain ⟨yi3, l3, rfl, di3, p3⟩ := lo_int rfl p2
    cases lo_nil p3
    rw [vn_at hx3 (n := 0) (z := 0) rfl] at dp3 di3
    have ep : zp = yp := Int32.toInt_inj.mp (by omega)
    subst ep
    have cp : ∀ {j : Nat} {z : Int}, j < 27 → vi ws 50 (j + pg) z → vi ws3 50 (j + 108) z := fun {j z} hj hz => by
      have h1 := hV j z hj (by rw [Nat.add_comm]; exact hz.fr hf1 rfl)
      rw [Nat.add_comm] at h1
      exact h1.fr hf3 rfl
    refine pg_loop (ws0 := ws) C hpg ha hzp hn ha8 hg hP hv0 hv3 hp kk 9 0 yi3 ws3 rfl (Nat.zero_le _) (by omega) hw3 (((wsub_ok (V := []) (by rfl) hf1).tr (wsub_ok (by decide) hf2')).tr (wsub_ok (by decide) hf3)) ⟨fun i hi => ?_, cp (by decide) hc.2.1, cp (by decide) hc.2.2⟩ (q1.eq (by rw [nm_x hx3 (k := 0) rfl]; rfl))
    obtain ⟨x1, x2, x3, x4⟩ := hc.1 i hi
    exact ⟨cp (by omega) x1, cp (by omega) x2, cp (by omega) x3, cp (by omega) x4⟩
end XPG
