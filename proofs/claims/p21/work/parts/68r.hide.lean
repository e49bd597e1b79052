theorem lr_hideA : lw_A 663 674 2 = true := by decide +kernel
theorem lr_hideB : lw_B 674 688 2 true = true := by decide +kernel
theorem lr_hideC : lw_C 688 true = true := by decide +kernel
/-! hide, compared -/
theorem off9hi9 {j : Nat} (hj : j < 81) : ai_wr tb_WR7 50 j j = false := wr_no fun q hq => by
  unfold tb_WR7 at hq
  simp only [List.mem_cons, List.not_mem_nil, or_false] at hq
  rcases hq with rfl | rfl | rfl | rfl | rfl | rfl | rfl | rfl | rfl | rfl <;> dsimp only <;> omega
theorem pevhi9 {ad : List Nat} {tys : ai_ty} {ws ws' : va_W} {n : Nat} {E : Nat → Int} (hn : n ≤ 4) (h : cs_P ad tys 0 108 ws ws') (hc : pev ws 0 n E) : pev ws' 108 n E := by
  have cp : ∀ {j : Nat} {z : Int}, j < 27 → vi ws 50 (j + 0) z → vi ws' 50 (j + 108) z := fun {j z} hj hz => by
    have h1 := h.2.2 j z hj (by rw [Nat.add_comm]; exact hz)
    rw [Nat.add_comm] at h1
    exact h1
  refine ⟨fun i hi => ?_, cp (by decide) hc.2.1, cp (by decide) hc.2.2⟩
  obtain ⟨x1, x2, x3, x4⟩ := hc.1 i hi
  exact ⟨cp (by omega) x1, cp (by omega) x2, cp (by omega) x3, cp (by omega) x4⟩
def hi9_W (W : Nat → Bool) : Nat → Nat → Int
  | 0, _ => -4
  | f + 1, v => if W v = true then (v : Int) else hi9_W W f (v + 1)
def hi9_w (E : Nat → Int) (t : Nat) (N : Int) (v : Nat) : Bool := !decide (0 ≤ paF (E (4 + t)) (v : Int) (E 16).toNat (E (8 + t)) (E (12 + t)) 0 ∧ paF (E (4 + t)) (v : Int) (E 16).toNat (E (8 + t)) (E (12 + t)) 0 ≤ N)
theorem hi9_c0 : ((List.range 4).all fun t => (ai_ex (hk []) 200 71 tb_m71 10 [25] (0, [(0, (0, 0, 0, 0)), (1, (1, 0, 0, (t : Int))), (2, (1, 3, 0, 0))], [], [(0, 0, false, 0, 0), (0, 2555, false, 1, 0), ((t : Int) + 1, 4, false, 2, 0), (0, 20, false, 3, 0)], [(1, 0, (1, 2, 0, 0))], [])).any fun xs => xs.all fun x => ([(25, [(0, (0, 0, 0, 0)), (1, (1, 0, 0, (t : Int))), (2, (1, 3, 0, 0)), (3, (1, 0, 0, 0))], [], [], [(0, 0, false, 0, 0), (0, 2555, false, 1, 0), ((t : Int) + 1, 4, false, 2, 0), (0, 20, false, 3, 0)], [])] : List sm_t).any fun y => sm_is [] x y) = true := by decide +kernel
theorem hi9_c1 : ((List.range 4).all fun t => (ai_ex (hk []) 200 71 tb_m71 10 [44] (26, [(0, (0, 0, 0, 0)), (1, (1, 0, 0, (t : Int))), (2, (1, 2, 0, 0)), (3, (1, 3, 0, 0))], [(1, 3, 0, 0)], [(0, 0, false, 0, 0), (0, 2555, false, 1, 0), (0, 20, false, 2, 0), (0, 3, false, 3, 0), (0, 20, false, 4, 0)], [(1, 1, (1, 4, 0, 0))], [])).any fun xs => xs.all fun x => ([(44, [(0, (0, 0, 0, 0)), (1, (1, 0, 0, (t : Int))), (2, (1, 2, 0, 0)), (3, (1, 3, 0, 0))], [(1, 4, 0, 0), (1, 3, 0, 0), (1, 0, 0, (t : Int)), (0, 1, 0, 0), (1, 2, 0, 0)], [], [(0, 0, false, 0, 0), (0, 2555, false, 1, 0), (0, 20, false, 2, 0), (0, 3, false, 3, 0), (0, 20, false, 4, 0)], [])] : List sm_t).any fun y => sm_is [] x y) = true := by decide +kernel
theorem hi9_c2 : ((List.range 4).all fun t => (ai_ex (hk []) 200 71 tb_m71 10 [44] (26, [(0, (0, 0, 0, 0)), (1, (1, 0, 0, (t : Int))), (2, (1, 2, 0, 0)), (3, (1, 0, 0, 4))], [(1, 0, 0, 4)], [(0, 0, false, 0, 0), (0, 2555, false, 1, 0), (0, 20, false, 2, 0)], [], [])).any fun xs => xs.all fun x => ([(63, [], [(1, 0, 0, -4)], [], [(0, 0, false, 0, 0), (0, 2555, false, 1, 0), (0, 20, false, 2, 0)], [])] : List sm_t).any fun y => sm_is [] x y) = true := by decide +kernel
def hi9_SC (t : Nat) : List sm_t := [(54, [], [(1, 3, 0, 0)], [], [(0, 0, false, 0, 0), (0, 2555, false, 1, 0), (0, 20, false, 2, 0), (0, 3, false, 3, 0), (-4, -4, false, 4, 0)], []), (54, [], [(1, 3, 0, 0)], [], [(0, 0, false, 0, 0), (0, 2555, false, 1, 0), (0, 19, false, 2, 0), (0, 3, false, 3, 0), (1, 20, false, 4, 0)], [(5, 4, 2, 4, 1), (140, 4, 0, 4, -4)]), (25, [(0, (0, 0, 0, 0)), (1, (1, 0, 0, (t : Int))), (2, (1, 2, 0, 0)), (3, (1, 3, 0, 1))], [], [], [(0, 0, false, 0, 0), (0, 2555, false, 1, 0), (0, 20, false, 2, 0), (0, 3, false, 3, 0), (-3, 20, false, 4, 0)], [(4, 4, 2, 4, 1), (140, 4, 0, 4, -4)])]
theorem hi9_c3 : ((List.range 4).all fun t => (ai_ex (hk []) 200 71 tb_m71 10 [25] (47, [(0, (0, 0, 0, 0)), (1, (1, 0, 0, (t : Int))), (2, (1, 2, 0, 0)), (3, (1, 3, 0, 0))], [(1, 4, 0, 0), (1, 2, 0, 0)], [(0, 0, false, 0, 0), (0, 2555, false, 1, 0), (0, 20, false, 2, 0), (0, 3, false, 3, 0), (-4, 20, false, 4, 0)], [], [])).any fun xs => xs.all fun x => (hi9_SC t).any fun y => sm_is [] x y) = true := by decide +kernel
theorem hi9_m0 : ((List.range 4).all fun t => (ai_ex (hk []) 200 147 tb_m147 10 [24] (0, [(0, (0, 49, 0, 0)), (1, (1, 0, 0, (t : Int))), (2, (1, 3, 0, 0))], [], [(0, 0, false, 0, 0), (0, 2555, false, 1, 0), ((t : Int) + 1, 4, false, 2, 0), (0, 20, false, 3, 0)], [(49, 1, (1, 2, 0, 0))], [])).any fun xs => xs.all fun x => ([(24, [(0, (0, 49, 0, 0)), (1, (1, 0, 0, (t : Int))), (2, (1, 3, 0, 0)), (3, (1, 0, 0, 0))], [], [], [(0, 0, false, 0, 0), (0, 2555, false, 1, 0), ((t : Int) + 1, 4, false, 2, 0), (0, 20, false, 3, 0)], [])] : List sm_t).any fun y => sm_is [] x y) = true := by decide +kernel
theorem hi9_m1 : ((List.range 4).all fun t => (ai_ex (hk []) 200 147 tb_m147 10 [33] (25, [(0, (0, 49, 0, 0)), (1, (1, 0, 0, (t : Int))), (2, (1, 2, 0, 0)), (3, (1, 3, 0, 0))], [(1, 3, 0, 0)], [(0, 0, false, 0, 0), (0, 2555, false, 1, 0), (0, 20, false, 2, 0), (0, 3, false, 3, 0)], [], [])).any fun xs => xs.all fun x => ([(33, [(0, (0, 49, 0, 0)), (1, (1, 0, 0, (t : Int))), (2, (1, 2, 0, 0)), (3, (1, 3, 0, 0))], [(1, 0, 0, 108), (1, 0, 0, 0), (0, 49, 0, 0)], [], [(0, 0, false, 0, 0), (0, 2555, false, 1, 0), (0, 20, false, 2, 0), (0, 3, false, 3, 0)], [])] : List sm_t).any fun y => sm_is [] x y) = true := by decide +kernel
theorem hi9_m2 : ((List.range 4).all fun t => (ai_ex (hk [(50, 108 + t, 109 + t)]) 200 147 tb_m147 10 [48] (36, [(0, (0, 49, 0, 0)), (1, (1, 0, 0, (t : Int))), (2, (1, 2, 0, 0)), (3, (1, 3, 0, 0))], [], [(0, 0, false, 0, 0), (0, 2555, false, 1, 0), (0, 20, false, 2, 0), (0, 3, false, 3, 0)], [], [])).any fun xs => xs.all fun x => ([(48, [(0, (0, 49, 0, 0)), (1, (1, 0, 0, (t : Int))), (2, (1, 2, 0, 0)), (3, (1, 3, 0, 0))], [(1, 0, 0, (t : Int)), (0, 49, 0, 0)], [(1, 3, 0, 0)], [(0, 0, false, 0, 0), (0, 2555, false, 1, 0), (0, 20, false, 2, 0), (0, 3, false, 3, 0)], [])] : List sm_t).any fun y => sm_is [(50, 108 + t)] x y) = true := by decide +kernel
theorem hi9_m4 : ((List.range 4).all fun t => (ai_ex (hk []) 200 147 tb_m147 10 [33] (25, [(0, (0, 49, 0, 0)), (1, (1, 0, 0, (t : Int))), (2, (1, 2, 0, 0)), (3, (1, 0, 0, 4))], [(1, 0, 0, 4)], [(0, 0, false, 0, 0), (0, 2555, false, 1, 0), (0, 20, false, 2, 0)], [], [])).any fun xs => xs.all fun x => ([(71, [], [(1, 0, 0, -4)], [], [(0, 0, false, 0, 0), (0, 2555, false, 1, 0), (0, 20, false, 2, 0)], [])] : List sm_t).any fun y => sm_is [] x y) = true := by decide +kernel
def hi9_SM (t : Nat) : List sm_t := [(62, [], [(1, 3, 0, 0)], [], [(0, 0, false, 0, 0), (0, 2555, false, 1, 0), (0, 20, false, 2, 0), (0, 3, false, 3, 0), (-4, -1, false, 4, 0)], []), (62, [], [(1, 3, 0, 0)], [], [(0, 0, false, 0, 0), (0, 2555, false, 1, 0), (0, 19, false, 2, 0), (0, 3, false, 3, 0), (1, 20, false, 4, 0)], [(5, 4, 2, 4, 1)]), (24, [(0, (0, 49, 0, 0)), (1, (1, 0, 0, (t : Int))), (2, (1, 2, 0, 0)), (3, (1, 3, 0, 1))], [], [], [(0, 0, false, 0, 0), (0, 2555, false, 1, 0), (0, 20, false, 2, 0), (0, 3, false, 3, 0), (0, 20, false, 4, 0)], [(4, 4, 2, 4, 1)])]
theorem hi9_m3 : ((List.range 4).all fun t => (ai_ex (hk []) 200 147 tb_m147 10 [24] (51, [(0, (0, 49, 0, 0)), (1, (1, 0, 0, (t : Int))), (2, (1, 2, 0, 0)), (3, (1, 3, 0, 0))], [(1, 4, 0, 0)], [(0, 0, false, 0, 0), (0, 2555, false, 1, 0), (0, 20, false, 2, 0), (0, 3, false, 3, 0), (-4, 20, false, 4, 0)], [], [])).any fun xs => xs.all fun x => (hi9_SM t).any fun y => sm_is [] x y) = true := by decide +kernel
section Xhi9C
variable {ad : List Nat} {M : ai_m} {d : Nat} {p : Program} {l : Launch} {e : Env} {R : Room} {s : State} {m : MethodId} {args : Array Value} {below : List Frame} {meth : Method} {c : Code} {D : va_G} {tys : ai_ty} {A : Nat → Prop} {b L : Nat} {sx : Nat → Int32} {cells slots : Nat} {Q : State → Prop}
theorem hi9_loop {a0 a1 n t : Nat} {E : Nat → Int} {R0 : Int} {zt zn : Int32} {ws0 : va_W} (C : ai_cx tb_m71 10 p R s m args c D tys A b L sx cells slots) (ha0 : ad[0]? = some a0) (ha1 : ad[1]? = some a1) (hn : n ≤ 4) (hg : good n E) (ht : t < n) (et : zt.toInt = t) (bn : 0 ≤ zn.toInt ∧ zn.toInt ≤ 20) (hc0 : cev ws0 1 n E)
    (kk : ∀ (pcr : Nat) (ws' : va_W) (z : Int32) (lv' : List (Nat × Value)), pcr ∈ [54, 63] → ai_wd tb_TY ad tys ws' → ai_fr [] ws0 ws' → z.toInt = R0 → hG tb_m71 p l e R s m args below meth c D A cells slots Q pcr lv' [.int z] ws') :
    ∀ (f v : Nat) (z3 : Int32) (ws : va_W), v + f = 4 → z3.toInt = v → hi9_W (hi9_w E t zn.toInt) f v = R0 → ai_wd tb_TY ad tys ws → ai_fr [] ws0 ws → hG tb_m71 p l e R s m args below meth c D A cells slots Q 25 [(0, .ref a0), (1, .int zt), (2, .int zn), (3, .int z3)] [] ws := by
  obtain ⟨b1, b2, b3, b4⟩ := hg.1 t ht
  obtain ⟨b5, b6⟩ := hg.2
  obtain ⟨v1, v2, v3, v4⟩ := hc0.1 t ht
  intro f
  induction f with
  | zero =>
    intro v z3 ws hf e3 hR hw hfr
    refine hild2 (j := 3) (x := z3) C (tv_m71.1.1.1 (25, .iload_n 3, 1) (List.mem_of_getElem? (i := 14) rfl)) (List.mem_of_getElem? (i := 3) rfl) ?_
    refine hsum (st := (26, [(0, (0, 0, 0, 0)), (1, (1, 0, 0, (t : Int))), (2, (1, 2, 0, 0)), (3, (1, 0, 0, 4))], [(1, 0, 0, 4)], [(0, 0, false, 0, 0), (0, 2555, false, 1, 0), (0, 20, false, 2, 0)], [], [])) (List.all_eq_true.mp hi9_c2 t (List.mem_range.mpr (by omega))) rfl C (r := [0, 0, zn.toInt]) ⟨en_mk (by simp only [en_b, and_true]; omega) rfl, sb0, ⟨rfl, Or.inl ⟨rfl, a0, ha0, rfl⟩, rfl, int_dv (z := 0) rfl (by omega), rfl, int_dv (z := zn.toInt) rfl (by omega), rfl, int_dv (z := 0) rfl (by omega), trivial⟩, ⟨int_dv (z := 0) rfl (by omega), trivial⟩, hw, k0, fun _ _ _ _ h => h, fun h => by cases h⟩ (fun x hx r1 lv1 st1 ws1 hx1 hb1 hl1 hs1 hlo1 hsk1 hw1 hv1 hf1 _ => ?_)
    have hx9 := List.mem_singleton.mp hx
    subst hx9
    obtain ⟨w, rfl, hw'⟩ := sk1 rfl hsk1
    rw [vn_at hx1 (n := 0) (z := 0) rfl] at hw'
    have hR' : (-4 : Int) = R0 := hR
    exact kk 63 ws1 w lv1 (by decide) hw1 (hfr.tr hf1) (by omega)
  | succ f ih =>
    intro v z3 ws hf e3 hR hw hfr
    refine hild2 (j := 3) (x := z3) C (tv_m71.1.1.1 (25, .iload_n 3, 1) (List.mem_of_getElem? (i := 14) rfl)) (List.mem_of_getElem? (i := 3) rfl) ?_
    refine hsum (st := (26, [(0, (0, 0, 0, 0)), (1, (1, 0, 0, (t : Int))), (2, (1, 2, 0, 0)), (3, (1, 3, 0, 0))], [(1, 3, 0, 0)], [(0, 0, false, 0, 0), (0, 2555, false, 1, 0), (0, 20, false, 2, 0), (0, 3, false, 3, 0), (0, 20, false, 4, 0)], [(1, 1, (1, 4, 0, 0))], [])) (List.all_eq_true.mp hi9_c1 t (List.mem_range.mpr (by omega))) rfl C (r := [0, 0, zn.toInt, (v : Int), E 16]) ⟨en_mk (by simp only [en_b, and_true]; omega) rfl, sb0, ⟨rfl, Or.inl ⟨rfl, a0, ha0, rfl⟩, rfl, int_dv (z := 0) rfl (by omega), rfl, int_dv (z := zn.toInt) rfl (by omega), rfl, int_dv (z := (v : Int)) rfl (by omega), trivial⟩, ⟨int_dv (z := (v : Int)) rfl (by omega), trivial⟩, hw, kc ((hc0.2.1.fr hfr rfl).kn (n := 4) (t := E 16) rfl (by omega)) k0, fun _ _ _ _ h => h, fun h => by cases h⟩ (fun x hx r1 lv1 st1 ws1 hx1 hb1 hl1 hs1 hlo1 hsk1 hw1 hv1 hf1 _ => ?_)
    have hx9 := List.mem_singleton.mp hx
    subst hx9
    dsimp only at hlo1 hsk1 ⊢
    obtain ⟨l1, rfl, p1⟩ := lo_ref ha0 hlo1
    obtain ⟨y1, l2, rfl, d1, p2⟩ := lo_int rfl p1
    obtain ⟨y2, l3, rfl, d2, p3⟩ := lo_int rfl p2
    obtain ⟨y4, l4, rfl, d3, p4⟩ := lo_int rfl p3
    cases lo_nil p4
    rw [vn_at hx1 (n := 0) (z := 0) rfl] at d1
    rw [vn_at hx1 (n := 2) (z := zn.toInt) rfl] at d2
    rw [vn_at hx1 (n := 3) (z := (v : Int)) rfl] at d3
    have e1 : zt = y1 := Int32.toInt_inj.mp (by omega)
    have e2 : zn = y2 := Int32.toInt_inj.mp (by omega)
    subst e1 e2
    obtain ⟨x0, s0, rfl, c0, g3⟩ := hsk1.cons
    obtain ⟨x1, s1, rfl, c1, g4⟩ := g3.cons
    obtain ⟨x2, s2, rfl, c2, g5⟩ := g4.cons
    obtain ⟨x3, s3, rfl, c3, g6⟩ := g5.cons
    obtain ⟨x4, s4, rfl, c4, g7⟩ := g6.cons
    cases g7.nil
    obtain ⟨u0, rfl, w0⟩ := dvn c0 (hx1.at (k := 4) rfl)
    obtain ⟨u1, rfl, w1⟩ := dvn c1 (hx1.at (k := 3) rfl)
    obtain ⟨u2, rfl, w2⟩ := dvn c2 (hx1.at (k := 0) rfl)
    obtain ⟨u4, rfl, w4⟩ := dvn c4 (hx1.at (k := 2) rfl)
    have f3 := ref_of ha1 c3
    subst f3
    refine hcallI (q := (156, 0, 17, 3, 0)) (M' := tb_m17) (cl := 1) (a := a1) (As := [.int u2, .int u1, .int u0]) (rest := [.int u4]) (rets := [90]) (P := fun w i => ai_wd tb_TY ad tys w ∧ ai_fr [] ws1 w ∧ i.toInt = paF (E (4 + t)) (v : Int) (E 16).toNat (E (8 + t)) (E (12 + t)) 0) C (by decide) (tv_m71.1.1.1 (44, .invokevirtual 156, 3) (List.mem_of_getElem? (i := 25) rfl)) (tv_m71.2 _ (List.mem_of_getElem? (i := 14) rfl)) rfl rfl rfl rfl (by decide) (Nat.le_of_ble_eq_true rfl) rfl rfl rfl rfl hw1 ha1 (Nat.le_of_ble_eq_true rfl) ?_ ?_ ?_
    · intro pcr hp
      rw [List.mem_singleton.mp hp]
      exact tv_m17.1.1.1 (90, .ireturn, 1) (List.mem_of_getElem? (i := 48) rfl)
    · intro p2 e2 R2 s2 m2 args2 below2 meth2 c2 Q2 C2 kk2
      exact pq_all (k := (v : Int)) (s0 := E 16) (mm_cx (by decide) C2) ha1 (t := t) (by omega) (by omega) (by omega) (by omega) (by omega) b2 (by omega) b4 (by omega) hw1 ((v2.fr hfr rfl).fr hf1 rfl) ((v3.fr hfr rfl).fr hf1 rfl) ((v4.fr hfr rfl).fr hf1 rfl) (fun w i lv2 h1 h2 h3 => kk2 90 w i lv2 (by decide) ⟨h1, h2, h3⟩)
    · intro ws2 i hP
      have bi := paF_b (z := E (4 + t)) (k := (v : Int)) (E 16).toNat (E (8 + t)) (E (12 + t)) 0 (by omega)
      have hi2 := hP.2.2
      generalize hXX : paF (E (4 + t)) (v : Int) (E 16).toNat (E (8 + t)) (E (12 + t)) 0 = XX at bi hi2
      refine hsum (st := (47, [(0, (0, 0, 0, 0)), (1, (1, 0, 0, (t : Int))), (2, (1, 2, 0, 0)), (3, (1, 3, 0, 0))], [(1, 4, 0, 0), (1, 2, 0, 0)], [(0, 0, false, 0, 0), (0, 2555, false, 1, 0), (0, 20, false, 2, 0), (0, 3, false, 3, 0), (-4, 20, false, 4, 0)], [], [])) (List.all_eq_true.mp hi9_c3 t (List.mem_range.mpr (by omega))) rfl C (r := [0, 0, zn.toInt, (v : Int), i.toInt]) ⟨en_mk (by simp only [en_b, and_true]; omega) rfl, sb0, ⟨rfl, Or.inl ⟨rfl, a0, ha0, rfl⟩, rfl, int_dv (z := 0) rfl (by omega), rfl, int_dv (z := zn.toInt) rfl (by omega), rfl, int_dv (z := (v : Int)) rfl (by omega), trivial⟩, ⟨int_dv (z := i.toInt) rfl (by omega), int_dv (z := zn.toInt) rfl (by omega), trivial⟩, hP.1, k0, fun _ _ _ _ h => h, fun h => by cases h⟩ (fun x hx r5 lv5 st5 ws5 hx5 hb5 hl5 hs5 hlo5 hsk5 hw5 hv5 hf5 _ => ?_)
      have hfz : ai_fr [] ws0 ws5 := ((hfr.tr hf1).tr hP.2.1).tr hf5
      have m2 := nm_x hx5 (k := 2) rfl
      have m3 := nm_x hx5 (k := 3) rfl
      have m4 := nm_x hx5 (k := 4) rfl
      unfold hi9_SC at hx
      rcases List.mem_cons.mp hx with rfl | hx
      · skip
        dsimp only at hlo5 hsk5 ⊢
        simp (config := { decide := true }) only [bnd_b, lin_b, lin_q, Nat.reduceAdd, Nat.zero_add, Nat.reduceEqDiff, reduceIte, and_true, Int.add_zero] at hb5 hl5
        have hW : hi9_w E t zn.toInt v = true := by
          have hq : ¬ (0 ≤ XX ∧ XX ≤ zn.toInt) := by omega
          unfold hi9_w
          rw [hXX, decide_eq_false hq] <;> rfl
        obtain ⟨w, rfl, hw'⟩ := sk1 rfl hsk5
        rw [vn_at hx5 (n := 3) (z := (v : Int)) rfl] at hw'
        refine kk 54 ws5 w lv5 (by decide) hw5 hfz ?_
        rw [← hR]
        show _ = (if hi9_w E t zn.toInt v = true then (v : Int) else hi9_W (hi9_w E t zn.toInt) f (v + 1))
        rw [hW, if_pos rfl]
        omega
      rcases List.mem_cons.mp hx with rfl | hx
      · skip
        dsimp only at hlo5 hsk5 ⊢
        simp (config := { decide := true }) only [bnd_b, lin_b, lin_q, Nat.reduceAdd, Nat.zero_add, Nat.reduceEqDiff, reduceIte, and_true, Int.add_zero] at hb5 hl5
        have hW : hi9_w E t zn.toInt v = true := by
          have hq : ¬ (0 ≤ XX ∧ XX ≤ zn.toInt) := by omega
          unfold hi9_w
          rw [hXX, decide_eq_false hq] <;> rfl
        obtain ⟨w, rfl, hw'⟩ := sk1 rfl hsk5
        rw [vn_at hx5 (n := 3) (z := (v : Int)) rfl] at hw'
        refine kk 54 ws5 w lv5 (by decide) hw5 hfz ?_
        rw [← hR]
        show _ = (if hi9_w E t zn.toInt v = true then (v : Int) else hi9_W (hi9_w E t zn.toInt) f (v + 1))
        rw [hW, if_pos rfl]
        omega
      have hx9 := List.mem_singleton.mp hx
      subst hx9
      dsimp only at hlo5 hsk5 ⊢
      simp (config := { decide := true }) only [bnd_b, lin_b, lin_q, Nat.reduceAdd, Nat.zero_add, Nat.reduceEqDiff, reduceIte, and_true, Int.add_zero] at hb5 hl5
      have hW : hi9_w E t zn.toInt v = false := by
        have hq : (0 ≤ XX ∧ XX ≤ zn.toInt) := by omega
        unfold hi9_w
        rw [hXX, decide_eq_true hq] <;> rfl
      cases hsk5.nil
      obtain ⟨l1, rfl, p1⟩ := lo_ref ha0 hlo5
      obtain ⟨y1, l2, rfl, d1, p2⟩ := lo_int rfl p1
      obtain ⟨y2, l3, rfl, d2, p3⟩ := lo_int rfl p2
      obtain ⟨y3, l4, rfl, d3, p4⟩ := lo_int rfl p3
      cases lo_nil p4
      rw [vn_at hx5 (n := 0) (z := 0) rfl] at d1
      rw [vn_at hx5 (n := 2) (z := zn.toInt) rfl] at d2
      rw [vn_at hx5 (n := 3) (z := (v : Int)) rfl] at d3
      have e1 : zt = y1 := Int32.toInt_inj.mp (by omega)
      have e2 : zn = y2 := Int32.toInt_inj.mp (by omega)
      subst e1 e2
      refine ih (v + 1) y3 ws5 (by omega) (by omega) ?_ hw5 hfz
      rw [← hR]
      show _ = (if hi9_w E t zn.toInt v = true then (v : Int) else hi9_W (hi9_w E t zn.toInt) f (v + 1))
      rw [hW, if_neg (by decide)]
theorem hi9_cls {a0 a1 n t : Nat} {E : Nat → Int} {N : Int} {zt zn : Int32} {ws : va_W} (C : ai_cx tb_m71 10 p R s m args c D tys A b L sx cells slots) (ha0 : ad[0]? = some a0) (ha1 : ad[1]? = some a1) (hn : n ≤ 4) (hg : good n E) (ht : t < n) (et : zt.toInt = t) (bn : 0 ≤ zn.toInt ∧ zn.toInt ≤ 20) (eN : zn.toInt = N) (hw : ai_wd tb_TY ad tys ws) (hv0 : vi ws 1 0 n) (hc : cev ws 1 n E)
    (kk : ∀ (pcr : Nat) (ws' : va_W) (z : Int32) (lv' : List (Nat × Value)), pcr ∈ [54, 63] → ai_wd tb_TY ad tys ws' → ai_fr [] ws ws' → z.toInt = hi9_W (hi9_w E t N) 4 0 → hG tb_m71 p l e R s m args below meth c D A cells slots Q pcr lv' [.int z] ws') : hG tb_m71 p l e R s m args below meth c D A cells slots Q 0 [(0, .ref a0), (1, .int zt), (2, .int zn)] [] ws := by
  subst eN
  refine hsum (st := (0, [(0, (0, 0, 0, 0)), (1, (1, 0, 0, (t : Int))), (2, (1, 3, 0, 0))], [], [(0, 0, false, 0, 0), (0, 2555, false, 1, 0), ((t : Int) + 1, 4, false, 2, 0), (0, 20, false, 3, 0)], [(1, 0, (1, 2, 0, 0))], [])) (List.all_eq_true.mp hi9_c0 t (List.mem_range.mpr (by omega))) rfl C (r := [0, 0, (n : Int), zn.toInt]) ⟨en_mk (by simp only [en_b, and_true]; omega) rfl, sb0, ⟨rfl, Or.inl ⟨rfl, a0, ha0, rfl⟩, rfl, int_dv (z := 0) rfl (by omega), rfl, int_dv (z := zn.toInt) rfl (by omega), trivial⟩, trivial, hw, kc (hv0.kn (n := 2) (t := (n : Int)) rfl (by omega)) k0, fun _ _ _ _ h => h, fun h => by cases h⟩ (fun x hx r1 lv1 st1 ws1 hx1 hb1 hl1 hs1 hlo1 hsk1 hw1 hv1 hf1 _ => ?_)
  have hx9 := List.mem_singleton.mp hx
  subst hx9
  dsimp only at hlo1 hsk1 ⊢
  cases hsk1.nil
  obtain ⟨l1, rfl, p1⟩ := lo_ref ha0 hlo1
  obtain ⟨y1, l2, rfl, d1, p2⟩ := lo_int rfl p1
  obtain ⟨y2, l3, rfl, d2, p3⟩ := lo_int rfl p2
  obtain ⟨y3, l4, rfl, d3, p4⟩ := lo_int rfl p3
  cases lo_nil p4
  rw [vn_at hx1 (n := 0) (z := 0) rfl] at d1
  rw [vn_at hx1 (n := 3) (z := zn.toInt) rfl] at d2
  rw [vn_at hx1 (n := 0) (z := 0) rfl] at d3
  have e1 : zt = y1 := Int32.toInt_inj.mp (by omega)
  have e2 : zn = y2 := Int32.toInt_inj.mp (by omega)
  subst e1 e2
  exact hi9_loop (ws0 := ws) (R0 := hi9_W (hi9_w E t zn.toInt) 4 0) C ha0 ha1 hn hg ht et bn hc kk 4 0 y3 ws1 rfl (by omega) rfl hw1 hf1
theorem hi9_mloop {ar n t : Nat} {E : Nat → Int} {R0 : Int} {zt zn : Int32} {ws0 : va_W} (C : ai_cx tb_m147 10 p R s m args c D tys A b L sx cells slots) (ha : ad[49]? = some ar) (hn : n ≤ 4) (hg : good n E) (ht : t < n) (et : zt.toInt = t) (bn : 0 ≤ zn.toInt ∧ zn.toInt ≤ 20) (hv0 : vi ws0 49 1 n) (hc0 : pev ws0 0 n E)
    (kk : ∀ (pcr : Nat) (ws' : va_W) (z : Int32) (lv' : List (Nat × Value)), pcr ∈ [62, 71] → ai_wd tb_TY ad tys ws' → ai_fr alW9 ws0 ws' → z.toInt = R0 → hG tb_m147 p l e R s m args below meth c D A cells slots Q pcr lv' [.int z] ws') :
    ∀ (f v : Nat) (z3 : Int32) (ws : va_W), v + f = 4 → z3.toInt = v → hi9_W (hi9_w E t zn.toInt) f v = R0 → ai_wd tb_TY ad tys ws → ai_fr alW9 ws0 ws → hG tb_m147 p l e R s m args below meth c D A cells slots Q 24 [(0, .ref ar), (1, .int zt), (2, .int zn), (3, .int z3)] [] ws := by
  obtain ⟨b1, b2, b3, b4⟩ := hg.1 t ht
  obtain ⟨b5, b6⟩ := hg.2
  have offA : ∀ {j : Nat}, j < 108 → ai_wr alW9 50 j j = false := fun {j} hj => wr_no fun q hq => by
    unfold alW9 at hq
    rw [List.mem_singleton.mp hq]
    dsimp only
    omega
  intro f
  induction f with
  | zero =>
    intro v z3 ws hf e3 hR hw hfr
    refine hild2 (j := 3) (x := z3) C (tv_m147.1.1.1 (24, .iload_n 3, 1) (List.mem_of_getElem? (i := 14) rfl)) (List.mem_of_getElem? (i := 3) rfl) ?_
    refine hsum (st := (25, [(0, (0, 49, 0, 0)), (1, (1, 0, 0, (t : Int))), (2, (1, 2, 0, 0)), (3, (1, 0, 0, 4))], [(1, 0, 0, 4)], [(0, 0, false, 0, 0), (0, 2555, false, 1, 0), (0, 20, false, 2, 0)], [], [])) (List.all_eq_true.mp hi9_m4 t (List.mem_range.mpr (by omega))) rfl C (r := [0, 0, zn.toInt]) ⟨en_mk (by simp only [en_b, and_true]; omega) rfl, sb0, ⟨rfl, Or.inl ⟨rfl, ar, ha, rfl⟩, rfl, int_dv (z := 0) rfl (by omega), rfl, int_dv (z := zn.toInt) rfl (by omega), rfl, int_dv (z := 0) rfl (by omega), trivial⟩, ⟨int_dv (z := 0) rfl (by omega), trivial⟩, hw, k0, fun _ _ _ _ h => h, fun h => by cases h⟩ (fun x hx r1 lv1 st1 ws1 hx1 hb1 hl1 hs1 hlo1 hsk1 hw1 hv1 hf1 _ => ?_)
    have hx9 := List.mem_singleton.mp hx
    subst hx9
    obtain ⟨w, rfl, hw'⟩ := sk1 rfl hsk1
    rw [vn_at hx1 (n := 0) (z := 0) rfl] at hw'
    have hR' : (-4 : Int) = R0 := hR
    exact kk 71 ws1 w lv1 (by decide) hw1 (hfr.tr (wsub_ok (V := []) (by rfl) hf1)) (by omega)
  | succ f ih =>
    intro v z3 ws hf e3 hR hw hfr
    refine hild2 (j := 3) (x := z3) C (tv_m147.1.1.1 (24, .iload_n 3, 1) (List.mem_of_getElem? (i := 14) rfl)) (List.mem_of_getElem? (i := 3) rfl) ?_
    refine hsum (st := (25, [(0, (0, 49, 0, 0)), (1, (1, 0, 0, (t : Int))), (2, (1, 2, 0, 0)), (3, (1, 3, 0, 0))], [(1, 3, 0, 0)], [(0, 0, false, 0, 0), (0, 2555, false, 1, 0), (0, 20, false, 2, 0), (0, 3, false, 3, 0)], [], [])) (List.all_eq_true.mp hi9_m1 t (List.mem_range.mpr (by omega))) rfl C (r := [0, 0, zn.toInt, (v : Int)]) ⟨en_mk (by simp only [en_b, and_true]; omega) rfl, sb0, ⟨rfl, Or.inl ⟨rfl, ar, ha, rfl⟩, rfl, int_dv (z := 0) rfl (by omega), rfl, int_dv (z := zn.toInt) rfl (by omega), rfl, int_dv (z := (v : Int)) rfl (by omega), trivial⟩, ⟨int_dv (z := (v : Int)) rfl (by omega), trivial⟩, hw, k0, fun _ _ _ _ h => h, fun h => by cases h⟩ (fun x hx r1 lv1 st1 ws1 hx1 hb1 hl1 hs1 hlo1 hsk1 hw1 hv1 hf1 _ => ?_)
    have hx9 := List.mem_singleton.mp hx
    subst hx9
    dsimp only at hlo1 hsk1 ⊢
    obtain ⟨l1, rfl, p1⟩ := lo_ref ha hlo1
    obtain ⟨y1, l2, rfl, d1, p2⟩ := lo_int rfl p1
    obtain ⟨y2, l3, rfl, d2, p3⟩ := lo_int rfl p2
    obtain ⟨y4, l4, rfl, d3, p4⟩ := lo_int rfl p3
    cases lo_nil p4
    rw [vn_at hx1 (n := 0) (z := 0) rfl] at d1
    rw [vn_at hx1 (n := 2) (z := zn.toInt) rfl] at d2
    rw [vn_at hx1 (n := 3) (z := (v : Int)) rfl] at d3
    have e1 : zt = y1 := Int32.toInt_inj.mp (by omega)
    have e2 : zn = y2 := Int32.toInt_inj.mp (by omega)
    subst e1 e2
    obtain ⟨x0, s0, rfl, c0, g3⟩ := hsk1.cons
    obtain ⟨x1, s1, rfl, c1, g4⟩ := g3.cons
    obtain ⟨x2, s2, rfl, c2, g5⟩ := g4.cons
    cases g5.nil
    obtain ⟨u0, rfl, w0⟩ := dvn c0 (hx1.at (k := 0) rfl)
    obtain ⟨u1, rfl, w1⟩ := dvn c1 (hx1.at (k := 0) rfl)
    have f2 := ref_of49 ha c2
    subst f2
    refine hcallV (q := (174, 0, 134, 2, 6)) (M' := tb_m134) (cl := 49) (a := ar) (As := [.int u1, .int u0]) (rest := []) (rets := [30]) (P := cs_P ad tys 0 108 ws1) C (by decide) (tv_m147.1.1.1 (33, .invokevirtual 174, 3) (List.mem_of_getElem? (i := 20) rfl)) (tv_m147.2 _ (List.mem_of_getElem? (i := 21) rfl)) rfl rfl rfl rfl (by decide) (Nat.le_of_ble_eq_true rfl) rfl rfl rfl rfl hw1 ha (by decide) ?_ ?_ ?_
    · intro pcr hp
      rw [List.mem_singleton.mp hp]
      exact tv_m134.1.1.1 (30, .return_, 1) (List.mem_of_getElem? (i := 19) rfl)
    · intro p2 e2 R2 s2 m2 args2 below2 meth2 c2 Q2 C2 kk2
      exact cs_all cs_r7 (by decide +kernel) (by decide) (mm_cx (by decide) C2) hw1 ha (by omega) (by omega) (fun pcr w lv2 hp hP => kk2 pcr w lv2 hp hP)
    · intro ws2 hcs
      have hc1 : pev ws1 0 n E := (hc0.fr hn hfr (fun j hj => offA (by omega))).fr hn hf1 (fun _ _ => rfl)
      have hc2 := pevhi9 hn hcs hc1
      have f02 : ai_fr alW9 ws0 ws2 := (hfr.tr (wsub_ok (V := []) (by rfl) hf1)).tr (wsub_ok (V := [(50, 108, 135)]) (by decide) hcs.2.1)
      refine hsum (st := (36, [(0, (0, 49, 0, 0)), (1, (1, 0, 0, (t : Int))), (2, (1, 2, 0, 0)), (3, (1, 3, 0, 0))], [], [(0, 0, false, 0, 0), (0, 2555, false, 1, 0), (0, 20, false, 2, 0), (0, 3, false, 3, 0)], [], [])) (List.all_eq_true.mp hi9_m2 t (List.mem_range.mpr (by omega))) rfl C (r := [0, 0, zn.toInt, (v : Int)]) ⟨en_mk (by simp only [en_b, and_true]; omega) rfl, sb0, ⟨rfl, Or.inl ⟨rfl, ar, ha, rfl⟩, rfl, int_dv (z := 0) rfl (by omega), rfl, int_dv (z := zn.toInt) rfl (by omega), rfl, int_dv (z := (v : Int)) rfl (by omega), trivial⟩, trivial, hcs.1, k0, fun _ _ _ _ h => h, fun h => by cases h⟩ (fun x hx r3 lv3 st3 ws3 hx3 hb3 hl3 hs3 hlo3 hsk3 hw3 hv3 hf3 _ => ?_)
      have hx9 := List.mem_singleton.mp hx
      subst hx9
      dsimp only at hlo3 hsk3 ⊢
      obtain ⟨q1, -⟩ := hv3
      obtain ⟨l1, rfl, p1⟩ := lo_ref ha hlo3
      obtain ⟨y1, l2, rfl, d1, p2⟩ := lo_int rfl p1
      obtain ⟨y2, l3, rfl, d2, p3⟩ := lo_int rfl p2
      obtain ⟨y5, l4, rfl, d3, p4⟩ := lo_int rfl p3
      cases lo_nil p4
      rw [vn_at hx3 (n := 0) (z := 0) rfl] at d1
      rw [vn_at hx3 (n := 2) (z := zn.toInt) rfl] at d2
      rw [vn_at hx3 (n := 3) (z := (v : Int)) rfl] at d3
      have e1 : zt = y1 := Int32.toInt_inj.mp (by omega)
      have e2 : zn = y2 := Int32.toInt_inj.mp (by omega)
      subst e1 e2
      obtain ⟨x4, s4, rfl, c4, g7⟩ := hsk3.cons
      obtain ⟨x5, s5, rfl, c5, g8⟩ := g7.cons
      cases g8.nil
      obtain ⟨u4, rfl, w4⟩ := dvn c4 (hx3.at (k := 0) rfl)
      have f5 := ref_of49 ha c5
      subst f5
      have q1' : vi ws3 50 (t + 108) (v : Int) := by
        rw [Nat.add_comm]
        exact q1.eq (by have m3 := nm_x hx3 (k := 3) rfl; dsimp only; omega)
      have wn : ∀ j, j < 18 → j ≠ t → ai_wr [(50, 108 + t, 109 + t)] 50 (j + 108) (j + 108) = false := fun j h1 h2 => wr_no fun q hq => by
        rw [List.mem_singleton.mp hq]
        dsimp only
        omega
      have hc3 : pev ws3 108 n (ev_up E t (v : Int)) := by
        refine ⟨fun i hi => ?_, by rw [ev_up_ne (by omega)]; exact hc2.2.1.fr hf3 (wn 16 (by decide) (by omega)), by rw [ev_up_ne (by omega)]; exact hc2.2.2.fr hf3 (wn 17 (by decide) (by omega))⟩
        obtain ⟨x1, x2, x3, x4⟩ := hc2.1 i hi
        rw [ev_up_ne (j := 4 + i) (by omega), ev_up_ne (j := 8 + i) (by omega), ev_up_ne (j := 12 + i) (by omega)]
        refine ⟨?_, x2.fr hf3 (wn (4 + i) (by omega) (by omega)), x3.fr hf3 (wn (8 + i) (by omega) (by omega)), x4.fr hf3 (wn (12 + i) (by omega) (by omega))⟩
        by_cases hit : i = t
        · rw [hit, ev_up_at]
          exact q1'
        · rw [ev_up_ne hit]
          exact x1.fr hf3 (wn i (by omega) hit)
      have hg3 : good n (ev_up E t (v : Int)) := by
        refine ⟨fun i hi => ?_, by rw [ev_up_ne (by omega)]; exact b5, by rw [ev_up_ne (by omega)]; exact b6⟩
        have hgi := hg.1 i hi
        rw [ev_up_ne (j := 4 + i) (by omega), ev_up_ne (j := 8 + i) (by omega), ev_up_ne (j := 12 + i) (by omega)]
        by_cases hit : i = t
        · rw [hit, ev_up_at]
          rw [hit] at hgi
          exact ⟨by omega, hgi.2⟩
        · rw [ev_up_ne hit]
          exact hgi
      have hf3W : ai_fr alW9 ws2 ws3 := fr_sub (fun cc j h q hq => by
        have h1 := h (50, 108, 135) (by unfold alW9; simp)
        dsimp only at h1
        rw [List.mem_singleton.mp hq]
        dsimp only
        omega) hf3
      refine hcallI (q := (190, 0, 139, 1, 6)) (M' := tb_m139) (cl := 49) (a := ar) (As := [.int u4]) (rest := []) (rets := [43]) (P := fun w i => ai_wd tb_TY ad tys w ∧ ai_fr alW9 ws3 w ∧ i.toInt = paF (E (4 + t)) (v : Int) (E 16).toNat (E (8 + t)) (E (12 + t)) 0) C (by decide) (tv_m147.1.1.1 (48, .invokevirtual 190, 3) (List.mem_of_getElem? (i := 30) rfl)) (tv_m147.2 _ (List.mem_of_getElem? (i := 25) rfl)) rfl rfl rfl rfl (by decide) (Nat.le_of_ble_eq_true rfl) rfl rfl rfl rfl hw3 ha (by decide) ?_ ?_ ?_
      · intro pcr hp
        rw [List.mem_singleton.mp hp]
        exact tv_m139.1.1.1 (43, .ireturn, 1) (List.mem_of_getElem? (i := 23) rfl)
      · intro p2 e2 R2 s2 m2 args2 below2 meth2 c2 Q2 C2 kk2
        exact al_all (E := ev_up E t (v : Int)) (mm_cx (by decide) C2) ha hn ht (by omega) hg3 hw3 ((hv0.fr f02 rfl).fr hf3W rfl) hc3 (fun w i lv2 h1 h2 h3 => kk2 43 w i lv2 (by decide) ⟨h1, h2, by rw [ev_up_ne (j := 4 + t) (by omega), ev_up_at, ev_up_ne (j := 16) (by omega), ev_up_ne (j := 8 + t) (by omega), ev_up_ne (j := 12 + t) (by omega)] at h3; exact h3⟩)
      · intro ws4 i hP
        have bi := paF_b (z := E (4 + t)) (k := (v : Int)) (E 16).toNat (E (8 + t)) (E (12 + t)) 0 (by omega)
        have hi2 := hP.2.2
        generalize hXX : paF (E (4 + t)) (v : Int) (E 16).toNat (E (8 + t)) (E (12 + t)) 0 = XX at bi hi2
        refine hsum (st := (51, [(0, (0, 49, 0, 0)), (1, (1, 0, 0, (t : Int))), (2, (1, 2, 0, 0)), (3, (1, 3, 0, 0))], [(1, 4, 0, 0)], [(0, 0, false, 0, 0), (0, 2555, false, 1, 0), (0, 20, false, 2, 0), (0, 3, false, 3, 0), (-4, 20, false, 4, 0)], [], [])) (List.all_eq_true.mp hi9_m3 t (List.mem_range.mpr (by omega))) rfl C (r := [0, 0, zn.toInt, (v : Int), i.toInt]) ⟨en_mk (by simp only [en_b, and_true]; omega) rfl, sb0, ⟨rfl, Or.inl ⟨rfl, ar, ha, rfl⟩, rfl, int_dv (z := 0) rfl (by omega), rfl, int_dv (z := zn.toInt) rfl (by omega), rfl, int_dv (z := (v : Int)) rfl (by omega), trivial⟩, ⟨int_dv (z := i.toInt) rfl (by omega), trivial⟩, hP.1, k0, fun _ _ _ _ h => h, fun h => by cases h⟩ (fun x hx r5 lv5 st5 ws5 hx5 hb5 hl5 hs5 hlo5 hsk5 hw5 hv5 hf5 _ => ?_)
        have hfz : ai_fr alW9 ws0 ws5 := ((f02.tr hf3W).tr hP.2.1).tr (wsub_ok (V := []) (by rfl) hf5)
        have m2 := nm_x hx5 (k := 2) rfl
        have m3 := nm_x hx5 (k := 3) rfl
        have m4 := nm_x hx5 (k := 4) rfl
        unfold hi9_SM at hx
        rcases List.mem_cons.mp hx with rfl | hx
        · skip
          dsimp only at hlo5 hsk5 ⊢
          simp (config := { decide := true }) only [bnd_b, lin_b, lin_q, Nat.reduceAdd, Nat.zero_add, Nat.reduceEqDiff, reduceIte, and_true, Int.add_zero] at hb5 hl5
          have hW : hi9_w E t zn.toInt v = true := by
            have hq : ¬ (0 ≤ XX ∧ XX ≤ zn.toInt) := by omega
            unfold hi9_w
            rw [hXX, decide_eq_false hq] <;> rfl
          obtain ⟨w, rfl, hw'⟩ := sk1 rfl hsk5
          rw [vn_at hx5 (n := 3) (z := (v : Int)) rfl] at hw'
          refine kk 62 ws5 w lv5 (by decide) hw5 hfz ?_
          rw [← hR]
          show _ = (if hi9_w E t zn.toInt v = true then (v : Int) else hi9_W (hi9_w E t zn.toInt) f (v + 1))
          rw [hW, if_pos rfl]
          omega
        rcases List.mem_cons.mp hx with rfl | hx
        · skip
          dsimp only at hlo5 hsk5 ⊢
          simp (config := { decide := true }) only [bnd_b, lin_b, lin_q, Nat.reduceAdd, Nat.zero_add, Nat.reduceEqDiff, reduceIte, and_true, Int.add_zero] at hb5 hl5
          have hW : hi9_w E t zn.toInt v = true := by
            have hq : ¬ (0 ≤ XX ∧ XX ≤ zn.toInt) := by omega
            unfold hi9_w
            rw [hXX, decide_eq_false hq] <;> rfl
          obtain ⟨w, rfl, hw'⟩ := sk1 rfl hsk5
          rw [vn_at hx5 (n := 3) (z := (v : Int)) rfl] at hw'
          refine kk 62 ws5 w lv5 (by decide) hw5 hfz ?_
          rw [← hR]
          show _ = (if hi9_w E t zn.toInt v = true then (v : Int) else hi9_W (hi9_w E t zn.toInt) f (v + 1))
          rw [hW, if_pos rfl]
          omega
        have hx9 := List.mem_singleton.mp hx
        subst hx9
        dsimp only at hlo5 hsk5 ⊢
        simp (config := { decide := true }) only [bnd_b, lin_b, lin_q, Nat.reduceAdd, Nat.zero_add, Nat.reduceEqDiff, reduceIte, and_true, Int.add_zero] at hb5 hl5
        have hW : hi9_w E t zn.toInt v = false := by
          have hq : (0 ≤ XX ∧ XX ≤ zn.toInt) := by omega
          unfold hi9_w
          rw [hXX, decide_eq_true hq] <;> rfl
        cases hsk5.nil
        obtain ⟨l1, rfl, p1⟩ := lo_ref ha hlo5
        obtain ⟨y1, l2, rfl, d1, p2⟩ := lo_int rfl p1
        obtain ⟨y2, l3, rfl, d2, p3⟩ := lo_int rfl p2
        obtain ⟨y3, l4, rfl, d3, p4⟩ := lo_int rfl p3
        cases lo_nil p4
        rw [vn_at hx5 (n := 0) (z := 0) rfl] at d1
        rw [vn_at hx5 (n := 2) (z := zn.toInt) rfl] at d2
        rw [vn_at hx5 (n := 3) (z := (v : Int)) rfl] at d3
        have e1 : zt = y1 := Int32.toInt_inj.mp (by omega)
        have e2 : zn = y2 := Int32.toInt_inj.mp (by omega)
        subst e1 e2
        refine ih (v + 1) y3 ws5 (by omega) (by omega) ?_ hw5 hfz
        rw [← hR]
        show _ = (if hi9_w E t zn.toInt v = true then (v : Int) else hi9_W (hi9_w E t zn.toInt) f (v + 1))
        rw [hW, if_neg (by decide)]
theorem hi9_mdl {ar n t : Nat} {E : Nat → Int} {N : Int} {zt zn : Int32} {ws : va_W} (C : ai_cx tb_m147 10 p R s m args c D tys A b L sx cells slots) (ha : ad[49]? = some ar) (hn : n ≤ 4) (hg : good n E) (ht : t < n) (et : zt.toInt = t) (bn : 0 ≤ zn.toInt ∧ zn.toInt ≤ 20) (eN : zn.toInt = N) (hw : ai_wd tb_TY ad tys ws) (hv0 : vi ws 49 1 n) (hc : pev ws 0 n E)
    (kk : ∀ (pcr : Nat) (ws' : va_W) (z : Int32) (lv' : List (Nat × Value)), pcr ∈ [62, 71] → ai_wd tb_TY ad tys ws' → ai_fr alW9 ws ws' → z.toInt = hi9_W (hi9_w E t N) 4 0 → hG tb_m147 p l e R s m args below meth c D A cells slots Q pcr lv' [.int z] ws') : hG tb_m147 p l e R s m args below meth c D A cells slots Q 0 [(0, .ref ar), (1, .int zt), (2, .int zn)] [] ws := by
  subst eN
  refine hsum (st := (0, [(0, (0, 49, 0, 0)), (1, (1, 0, 0, (t : Int))), (2, (1, 3, 0, 0))], [], [(0, 0, false, 0, 0), (0, 2555, false, 1, 0), ((t : Int) + 1, 4, false, 2, 0), (0, 20, false, 3, 0)], [(49, 1, (1, 2, 0, 0))], [])) (List.all_eq_true.mp hi9_m0 t (List.mem_range.mpr (by omega))) rfl C (r := [0, 0, (n : Int), zn.toInt]) ⟨en_mk (by simp only [en_b, and_true]; omega) rfl, sb0, ⟨rfl, Or.inl ⟨rfl, ar, ha, rfl⟩, rfl, int_dv (z := 0) rfl (by omega), rfl, int_dv (z := zn.toInt) rfl (by omega), trivial⟩, trivial, hw, kc (hv0.kn (n := 2) (t := (n : Int)) rfl (by omega)) k0, fun _ _ _ _ h => h, fun h => by cases h⟩ (fun x hx r1 lv1 st1 ws1 hx1 hb1 hl1 hs1 hlo1 hsk1 hw1 hv1 hf1 _ => ?_)
  have hx9 := List.mem_singleton.mp hx
  subst hx9
  dsimp only at hlo1 hsk1 ⊢
  cases hsk1.nil
  obtain ⟨l1, rfl, p1⟩ := lo_ref ha hlo1
  obtain ⟨y1, l2, rfl, d1, p2⟩ := lo_int rfl p1
  obtain ⟨y2, l3, rfl, d2, p3⟩ := lo_int rfl p2
  obtain ⟨y3, l4, rfl, d3, p4⟩ := lo_int rfl p3
  cases lo_nil p4
  rw [vn_at hx1 (n := 0) (z := 0) rfl] at d1
  rw [vn_at hx1 (n := 3) (z := zn.toInt) rfl] at d2
  rw [vn_at hx1 (n := 0) (z := 0) rfl] at d3
  have e1 : zt = y1 := Int32.toInt_inj.mp (by omega)
  have e2 : zn = y2 := Int32.toInt_inj.mp (by omega)
  subst e1 e2
  exact hi9_mloop (ws0 := ws) (R0 := hi9_W (hi9_w E t zn.toInt) 4 0) C ha hn hg ht et bn hv0 hc kk 4 0 y3 ws1 rfl (by omega) rfl hw1 (wsub_ok (V := []) (by rfl) hf1)
end Xhi9C
theorem hi9_t1 : ((ai_ex (hk []) 600 169 tb_m169 11 [1297] (663, lw_lo, [], se8_en (-2147483648) (-1) (-2147483648) 2147483647 (-2147483648) 2147483647 (-2147483648) 2147483647, se8_n, [])).any fun xs => xs.all lw_un) = true := by decide +kernel
theorem hi9_t2 : ((ai_ex (hk []) 600 169 tb_m169 11 [1297] (663, lw_lo, [], se8_en 0 2147483647 (-2147483648) 2147483647 (-2147483648) 2147483647 (-2147483648) 2147483647, se8_n, [(5, 4, 8, 4, 0)])).any fun xs => xs.all lw_un) = true := by decide +kernel
theorem hi9_n1 : ((ai_ex (hk []) 600 169 tb_m169 11 [1297] (663, lw_lo, [], se8_en 0 3 (-2147483648) (-1) (-2147483648) 2147483647 (-2147483648) 2147483647, se8_n, [(4, 4, 8, 4, 0)])).any fun xs => xs.all lw_un) = true := by decide +kernel
theorem hi9_n2 : ((ai_ex (hk []) 600 169 tb_m169 11 [1297] (663, lw_lo, [], se8_en 0 3 21 2147483647 (-2147483648) 2147483647 (-2147483648) 2147483647, se8_n, [(4, 4, 8, 4, 0)])).any fun xs => xs.all lw_un) = true := by decide +kernel
section Xhi9L
variable {ad : List Nat} {M : ai_m} {d : Nat} {p : Program} {l : Launch} {e : Env} {R : Room} {s : State} {m : MethodId} {args : Array Value} {below : List Frame} {meth : Method} {c : Code} {D : va_G} {tys : ai_ty} {A : Nat → Prop} {b L : Nat} {sx : Nat → Int32} {cells slots : Nat} {Q : State → Prop}
set_option maxRecDepth 20000 in
theorem lw_hide {i q0 q49 : Nat} {ws : va_W} (C : ai_cx tb_m169 11 p R s m args c D tys A b L sx cells slots) (e0 : ad[0]? = some q0) (e49 : ad[49]? = some q49) (hi : i + 5 ≤ L) (hL : L ≤ 2560) (hw : ai_wd tb_TY ad tys ws) (hI : Inv ws)
    (k : ∀ wc, ai_wd tb_TY ad tys wc → Inv wc → hG tb_m169 p l e R s m args below meth c D A cells slots Q 1297 [(0, .ref b), (1, .ref q0), (2, .ref q49), (3, .int (nI i))] [] wc) : hG tb_m169 p l e R s m args below meth c D A cells slots Q 663 [(0, .ref b), (1, .ref q0), (2, .ref q49), (3, .int (nI i))] [] ws := by
  have b0 := ai_irg (sx i)
  have b1 := ai_irg (sx (i + 1))
  have b2 := ai_irg (sx (i + 2))
  have b3 := ai_irg (sx (i + 3))
  have b4 := ai_irg (sx (i + 4))
  obtain ⟨t, g, u, q, y, n, j0, j1, E, a, P, hb, hp, hi0, hi1, hs⟩ := id hI
  obtain ⟨hn1, hn2, hn4⟩ := hb.2.2.2.2.1
  obtain ⟨hc, he, hg⟩ := hp.1
  obtain ⟨a1, -, -, e1, -⟩ := hw.get (c := 1) rfl
  have kn0 : ai_kn ad b (lw_r sx i ++ [(n : Int)]) ws se8_n := kc (hn1.kn (n := 8) (t := (n : Int)) rfl (by omega)) (kc (hn2.kn (n := 8) (t := (n : Int)) rfl (by omega)) k0)
  have ok : ∀ {t1 t2 s1 s2 p1 p2 y1 y2 : Int}, (t1 ≤ (sx (i + 1)).toInt ∧ (sx (i + 1)).toInt ≤ t2) → (s1 ≤ (sx (i + 2)).toInt ∧ (sx (i + 2)).toInt ≤ s2) → (p1 ≤ (sx (i + 3)).toInt ∧ (sx (i + 3)).toInt ≤ p2) → (y1 ≤ (sx (i + 4)).toInt ∧ (sx (i + 4)).toInt ≤ y2) → ai_ok (lw_r sx i ++ [(n : Int)]) (se8_en t1 t2 s1 s2 p1 p2 y1 y2) := fun h1 h2 h3 h4 => en_mk (by simp only [lw_r, se8_en, List.cons_append, List.nil_append, en_b, and_true]; omega) rfl
  by_cases c1 : (sx (i + 1)).toInt < 0
  · exact lw_no C e0 e49 hi hL hw hI hi9_t1 (ok (by omega) (by omega) (by omega) (by omega)) sb0 kn0 k
  by_cases c2 : (n : Int) ≤ (sx (i + 1)).toInt
  · exact lw_no C e0 e49 hi hL hw hI hi9_t2 (ok (by omega) (by omega) (by omega) (by omega)) (se8_sb (Or.inr ⟨rfl, c2⟩)) kn0 k
  have sb4 : ai_sb ws (lw_r sx i ++ [(n : Int)]) [(4, 4, 8, 4, 0)] := se8_sb (Or.inl ⟨rfl, by omega⟩)
  by_cases c3 : (sx (i + 2)).toInt < 0
  · exact lw_no C e0 e49 hi hL hw hI hi9_n1 (ok (by omega) (by omega) (by omega) (by omega)) sb4 kn0 k
  by_cases c4 : 20 < (sx (i + 2)).toInt
  · exact lw_no C e0 e49 hi hL hw hI hi9_n2 (ok (by omega) (by omega) (by omega) (by omega)) sb4 kn0 k
  obtain ⟨j, hj⟩ : ∃ j : Nat, (sx (i + 1)).toInt = (j : Int) := ⟨(sx (i + 1)).toInt.toNat, by omega⟩
  have hjn : j < n := by omega
  refine law2 (P1 := fun w z1 => ai_wd tb_TY ad tys w ∧ ai_fr tb_WR7 ws w ∧ z1.toInt = hi9_W (hi9_w E j (sx (i + 2)).toInt) 4 0) (P2 := fun wa _ w z1 => ai_wd tb_TY ad tys w ∧ ai_fr tb_WR7 wa w ∧ z1.toInt = hi9_W (hi9_w E j (sx (i + 2)).toInt) 4 0) (rets1 := [54, 63]) (rets2 := [62, 71]) C e0 e49 hi hL hw (n := 2) (cmp := true) (by decide) lr_hideA lr_hideB lr_hideC (q1 := (93, 0, 71, 2, 5)) (tv_m169.1.1.1 (674, .invokevirtual 93, 3) (List.mem_of_getElem? (i := 386) rfl)) (tv_m169.2 _ (List.mem_of_getElem? (i := 38) rfl)) rfl rfl rfl rfl (by decide) (Nat.le_of_ble_eq_true rfl) rfl rfl (q2 := (96, 0, 147, 2, 6)) (tv_m169.1.1.1 (688, .invokevirtual 96, 3) (List.mem_of_getElem? (i := 398) rfl)) (tv_m169.2 _ (List.mem_of_getElem? (i := 39) rfl)) rfl rfl rfl rfl (by decide) (Nat.le_of_ble_eq_true rfl) rfl rfl ?_ ?_ ?_ (fun wa z1 h => h.1) ?_ (fun wa z1 wb z2 h1 h2 => ⟨h2.1, fun _ => Int32.toInt_inj.mp (by rw [h1.2.2, h2.2.2])⟩) (fun wa z1 wb z2 wc h1 h2 hwc hf => k wc hwc (hI.rd hwc ((h1.2.1.tr h2.2.1).tr (wsub_ok (V := []) (by rfl) hf))))
  · intro pcr hpc
    simp only [List.mem_cons, List.not_mem_nil, or_false] at hpc
    rcases hpc with rfl | rfl
    · exact tv_m71.1.1.1 (54, .ireturn, 1) (List.mem_of_getElem? (i := 29) rfl)
    · exact tv_m71.1.1.1 (63, .ireturn, 1) (List.mem_of_getElem? (i := 33) rfl)
  · intro pcr hpc
    simp only [List.mem_cons, List.not_mem_nil, or_false] at hpc
    rcases hpc with rfl | rfl
    · exact tv_m147.1.1.1 (62, .ireturn, 1) (List.mem_of_getElem? (i := 38) rfl)
    · exact tv_m147.1.1.1 (71, .ireturn, 1) (List.mem_of_getElem? (i := 42) rfl)
  · intro p e R s m args below meth c Q w hw' hf C2 kk
    exact hi9_cls C2 e0 e1 hn4 hg hjn hj ⟨by show 0 ≤ (sx (i + 2)).toInt; omega, by show (sx (i + 2)).toInt ≤ 20; omega⟩ rfl hw' (hn1.fr hf rfl) (hc.fr hf rfl) (fun pcr w' z lv hpr g1 g2 g3 => kk pcr w' z lv hpr ⟨g1, wsub_ok (V := []) (by rfl) (hf.tr g2), g3⟩)
  · intro p e R s m args below meth c Q wa z1 w hP1 hw' hf C2 kk
    have hfa : ai_fr tb_WR7 ws w := hP1.2.1.tr (wsub_ok (V := []) (by rfl) hf)
    exact hi9_mdl C2 e49 hn4 hg hjn hj ⟨by show 0 ≤ (sx (i + 2)).toInt; omega, by show (sx (i + 2)).toInt ≤ 20; omega⟩ rfl hw' (hn2.fr hfa rfl) (he.fr hn4 hfa (fun j hj => off9hi9 (by omega))) (fun pcr w' z lv hpr g1 g2 g3 => kk pcr w' z lv hpr ⟨g1, (wsub_ok (V := []) (by rfl) hf).tr (wsub_ok (V := alW9) (by decide) g2), g3⟩)
end Xhi9L
