/-! the law's loop -/
theorem lb_rf_ok {w0 : va_W} {ad : List Nat} {b L : Nat} {sx : Nat → Int32} {tys : ai_ty} {sc : Bool} {r : List Int} {lv : List (Nat × Value)} {sk : List Value} {ws : va_W} : ∀ {cs : List (Nat × Int × Int)} {x : ai_s}, (∀ q ∈ cs, ∃ z, r[q.1]? = some z ∧ q.2.1 ≤ z ∧ z ≤ q.2.2) → ai_gm tb_TY tb_WR w0 ad b L sx tys sc r x lv sk ws → ∃ x1, lb_rf x cs = some x1 ∧ x1.1 = x.1 ∧ ai_gm tb_TY tb_WR w0 ad b L sx tys sc r x1 lv sk ws
  | [], x, _, g => ⟨x, rfl, rfl, g⟩
  | q :: t, x, h, g => by
    obtain ⟨z, h1, h2, h3⟩ := h q List.mem_cons_self
    obtain ⟨g1, g2, g3, g4, g5, g6, g7, g8⟩ := g
    obtain ⟨en1, c1, c2⟩ := ai_cl_ok g1 h1 h2 h3
    obtain ⟨x1, d1, d2, d3⟩ := lb_rf_ok (cs := t) (x := (x.1, x.2.1, x.2.2.1, en1, x.2.2.2.2.1, x.2.2.2.2.2)) (fun q hq => h q (List.mem_cons_of_mem _ hq)) ⟨c2, g2, g3, g4, g5, g6, g7, g8⟩
    refine ⟨x1, ?_, d2, d3⟩
    unfold lb_rf
    rw [c1]
    exact d1
theorem lb_go {p : Program} {l : Launch} {e : Env} {R : Room} {s : State} {m : MethodId} {args : Array Value} {below : List Frame} {meth : Method} {c : Code} {D : va_G} {tys : ai_ty} {A : Nat → Prop} {b L : Nat} {sx : Nat → Int32} {cells slots : Nat} {Q : State → Prop} {w0 : va_W} {ad : List Nat} {r0 : List Int} (C : ai_cx tb_m169 11 p R s m args c D tys A b L sx cells slots) (hcov : ∀ j, j < 38 → ∃ cs ∈ lb_R j, ∀ q ∈ cs, ∃ z, r0[q.1]? = some z ∧ q.2.1 ≤ z ∧ z ≤ q.2.2) (k : ∀ y : ai_s, lb_okS y = true → ai_G tb_TY tb_WR w0 ad tb_m169 p l e R s m args below meth c D tys A b L sx cells slots Q r0 y) : ai_G tb_TY tb_WR w0 ad tb_m169 p l e R s m args below meth c D tys A b L sx cells slots Q r0 lb_st := by
  obtain ⟨xs, h1, h2⟩ := ai_anyE lb_len
  refine (ai_ex_ok (K := tb_K) su_ok tv_MT 5000) 169 11 lb_cut lb_st xs tb_m169 h1 rfl C (fun x hx => ?_)
  obtain ⟨j, hj, hjx⟩ := List.getElem_of_mem hx
  have hj38 : j < 38 := by rw [← ai_beq.mp h2]; exact hj
  obtain ⟨cs, hcs, hcq⟩ := hcov j hj38
  obtain ⟨ms, hms, hc⟩ := lb_all j hj38 cs hcs
  unfold lb_case at hc
  obtain ⟨xs', a1, a2⟩ := ai_anyE hc
  cases Option.some.inj (h1.symm.trans a1)
  obtain ⟨x', a3, a4⟩ := ai_anyE a2
  rw [List.getElem?_eq_getElem hj, hjx] at a3
  cases a3
  intro r lv sk ws H locs ls hxr g hP hD hS hl
  obtain ⟨x1, b1, b2, b3⟩ := lb_rf_ok (fun q hqq => by obtain ⟨z, c1, c2, c3⟩ := hcq q hqq; exact ⟨z, hxr.at c1, c2, c3⟩) g
  rw [b1] at a4
  dsimp only at a4
  obtain ⟨ys, a5, a6⟩ := ai_anyE a4
  have key := mm_x_ok hms 5000 169 11 [1297] x1 ys tb_m169 a5 rfl C (fun y hy => k y (List.all_eq_true.mp a6 y hy)) r lv sk ws H locs ls hxr b3 hP hD hS hl
  rw [b2] at key
  exact key
/-- a sheet that is nothing on both sides, or of one lane -/
def lb_rel (a b : Int) : Prop := (a = -1 ∧ b = -4) ∨ (a = b ∧ 0 ≤ a ∧ a ≤ 2)
def lb_sh (ws : va_W) (k : Nat) : Prop := ∃ n a b : Int32, ai_sl ws 43 k (.int n) ∧ ai_sl ws 58 k (.int n) ∧ 0 ≤ n.toInt ∧ n.toInt ≤ 40 ∧ ai_sl ws 42 k (.int a) ∧ ai_sl ws 57 k (.int b) ∧ lb_rel a.toInt b.toInt
/-- what the two sides have alike: the tape's length, the sheets' lengths and lanes -/
def lb_eq (ws : va_W) : Prop := (∃ t : Int32, ai_sl ws 26 1 (.int t) ∧ ai_sl ws 49 7 (.int t) ∧ 0 ≤ t.toInt ∧ t.toInt ≤ 160) ∧ lb_sh ws 0 ∧ lb_sh ws 1 ∧ lb_sh ws 2 ∧ lb_sh ws 3
theorem lane_ok {ad : List Nat} {b : Nat} {r : List Int} {ws : va_W} {y : ai_s} {k : Nat} {a0 b0 : Int} (h : lb_lane y k = true) (g1 : ai_ok r y.2.2.2.1) (g6 : ai_kn ad b r ws y.2.2.2.2.1) (ha : r[12 + k]? = some a0) (hb : r[16 + k]? = some b0) (hr : lb_rel a0 b0) : lb_sh ws k := by
  unfold lb_lane at h
  rw [Bool.and_eq_true] at h
  obtain ⟨h1, h2⟩ := h
  obtain ⟨v, v1, v2⟩ := ai_anyE h1
  simp only [Bool.and_eq_true, decide_eq_true_eq] at v2
  obtain ⟨v2, v3⟩ := v2
  obtain ⟨p, p1, p2⟩ := ai_anyE v3
  simp only [Bool.and_eq_true, decide_eq_true_eq] at p2
  obtain ⟨x1, s1, c1⟩ := ai_lk_ok g6 v1
  obtain ⟨x2, s2, c2⟩ := ai_lk_ok g6 v2
  obtain ⟨-, z1, i1, u1, rfl, u2, u3, u4⟩ := ai_i_ok g1 c1 p1
  obtain ⟨-, z2, i2, u5, rfl, u6, u7, u8⟩ := ai_i_ok g1 c2 p1
  have hii : i1 = i2 := Int32.toInt_inj.mp (by rw [u2, u6, Option.some.inj (u1.symm.trans u5)])
  subst hii
  rw [Bool.or_eq_true] at h2
  rcases h2 with h2 | h2
  · simp only [Bool.and_eq_true, decide_eq_true_eq] at h2
    obtain ⟨x3, s3, c3⟩ := ai_lk_ok g6 h2.1
    obtain ⟨x4, s4, c4⟩ := ai_lk_ok g6 h2.2
    rcases c3 with ⟨q, -⟩ | ⟨-, z3, j3, q1, rfl, q3⟩ | ⟨q, -⟩ | ⟨q, -⟩ | ⟨q, -⟩
    · exact absurd (id q : (1 : Nat) = _) (by decide)
    · rcases c4 with ⟨q, -⟩ | ⟨-, z4, j4, q4, rfl, q6⟩ | ⟨q, -⟩ | ⟨q, -⟩ | ⟨q, -⟩
      · exact absurd (id q : (1 : Nat) = _) (by decide)
      · refine ⟨i1, j3, j4, s1, s2, by omega, by omega, s3, s4, ?_⟩
        have e3 : z3 = a0 := Option.some.inj (q1.symm.trans ha)
        have e4 : z4 = b0 := Option.some.inj (q4.symm.trans hb)
        have q3 : j3.toInt = z3 + 0 := q3
        have q6 : j4.toInt = z4 + 0 := q6
        rw [q3, q6, e3, e4, Int.add_zero, Int.add_zero]
        exact hr
      all_goals exact absurd (id q : (1 : Nat) = _) (by decide)
    all_goals exact absurd (id q : (1 : Nat) = _) (by decide)
  · obtain ⟨w, w1, w2⟩ := ai_anyE h2
    simp only [Bool.and_eq_true, decide_eq_true_eq] at w2
    obtain ⟨w2, w3⟩ := w2
    obtain ⟨p', p3, p4⟩ := ai_anyE w3
    simp only [Bool.and_eq_true, decide_eq_true_eq] at p4
    obtain ⟨x3, s3, c3⟩ := ai_lk_ok g6 w1
    obtain ⟨x4, s4, c4⟩ := ai_lk_ok g6 w2
    obtain ⟨-, z3, i3, y1, rfl, y2, y3, y4⟩ := ai_i_ok g1 c3 p3
    obtain ⟨-, z4, i4, y5, rfl, y6, y7, y8⟩ := ai_i_ok g1 c4 p3
    have hjj : i3 = i4 := Int32.toInt_inj.mp (by rw [y2, y6, Option.some.inj (y1.symm.trans y5)])
    subst hjj
    exact ⟨i1, i3, i3, s1, s2, by omega, by omega, s3, s4, Or.inr ⟨rfl, by omega, by omega⟩⟩
theorem lb_cov {r0 : List Int} {z a0 a1 a2 a3 b0 b1 b2 b3 : Int} (hz : r0[4]? = some z) (l : -2147483648 ≤ z) (h : z ≤ 2147483647) (ha0 : r0[12]? = some a0) (ha1 : r0[13]? = some a1) (ha2 : r0[14]? = some a2) (ha3 : r0[15]? = some a3) (hb0 : r0[16]? = some b0) (hb1 : r0[17]? = some b1) (hb2 : r0[18]? = some b2) (hb3 : r0[19]? = some b3) (c0 : lb_rel a0 b0) (c1 : lb_rel a1 b1) (c2 : lb_rel a2 b2) (c3 : lb_rel a3 b3) : ∀ j, j < 38 → ∃ cs ∈ lb_R j, ∀ q ∈ cs, ∃ z, r0[q.1]? = some z ∧ q.2.1 ≤ z ∧ z ≤ q.2.2 := by
  intro j _
  unfold lb_R
  split
  · have one : ∀ (n : Nat) (x lo hi : Int), r0[n]? = some x → lo ≤ x → x ≤ hi → ∃ z, r0[n]? = some z ∧ lo ≤ z ∧ z ≤ hi := fun n x lo hi h1 h2 h3 => ⟨x, h1, h2, h3⟩
    have nil : ∀ q ∈ ([] : List (Nat × Int × Int)), ∃ z, r0[q.1]? = some z ∧ q.2.1 ≤ z ∧ z ≤ q.2.2 := fun q hq => by cases hq
    have tri : ∀ (k : Nat) (kz : Int) (a b : Int), z = kz → r0[12 + k]? = some a → r0[16 + k]? = some b → lb_rel a b → (∀ q ∈ [(4, kz, kz), (12 + k, (-1 : Int), (-1 : Int)), (16 + k, (-4 : Int), (-4 : Int))], ∃ z, r0[q.1]? = some z ∧ q.2.1 ≤ z ∧ z ≤ q.2.2) ∨ (∀ q ∈ [(4, kz, kz), (12 + k, (0 : Int), (2 : Int)), (16 + k, (0 : Int), (2 : Int))], ∃ z, r0[q.1]? = some z ∧ q.2.1 ≤ z ∧ z ≤ q.2.2) := by
      intro k kz a b e h1 h2 h3
      rcases h3 with ⟨e1, e2⟩ | ⟨e1, e2, e3⟩
      · exact Or.inl (List.forall_mem_cons.mpr ⟨one _ z _ _ hz (by dsimp only; omega) (by dsimp only; omega), List.forall_mem_cons.mpr ⟨one _ a _ _ h1 (by dsimp only; omega) (by dsimp only; omega), List.forall_mem_cons.mpr ⟨one _ b _ _ h2 (by dsimp only; omega) (by dsimp only; omega), nil⟩⟩⟩)
      · exact Or.inr (List.forall_mem_cons.mpr ⟨one _ z _ _ hz (by dsimp only; omega) (by dsimp only; omega), List.forall_mem_cons.mpr ⟨one _ a _ _ h1 (by dsimp only; omega) (by dsimp only; omega), List.forall_mem_cons.mpr ⟨one _ b _ _ h2 (by dsimp only; omega) (by dsimp only; omega), nil⟩⟩⟩)
    by_cases n1 : z < 0
    · exact ⟨_, List.mem_of_getElem? (i := 0) rfl, List.forall_mem_cons.mpr ⟨one _ z _ _ hz l (by dsimp only; omega), nil⟩⟩
    · by_cases n2 : 3 < z
      · exact ⟨_, List.mem_of_getElem? (i := 1) rfl, List.forall_mem_cons.mpr ⟨one _ z _ _ hz (by dsimp only; omega) h, nil⟩⟩
      · have hz4 : z = 0 ∨ z = 1 ∨ z = 2 ∨ z = 3 := by omega
        rcases hz4 with e | e | e | e
        · rcases tri 0 0 a0 b0 e ha0 hb0 c0 with t | t
          · exact ⟨_, List.mem_of_getElem? (i := 2) rfl, t⟩
          · exact ⟨_, List.mem_of_getElem? (i := 3) rfl, t⟩
        · rcases tri 1 1 a1 b1 e ha1 hb1 c1 with t | t
          · exact ⟨_, List.mem_of_getElem? (i := 4) rfl, t⟩
          · exact ⟨_, List.mem_of_getElem? (i := 5) rfl, t⟩
        · rcases tri 2 2 a2 b2 e ha2 hb2 c2 with t | t
          · exact ⟨_, List.mem_of_getElem? (i := 6) rfl, t⟩
          · exact ⟨_, List.mem_of_getElem? (i := 7) rfl, t⟩
        · rcases tri 3 3 a3 b3 e ha3 hb3 c3 with t | t
          · exact ⟨_, List.mem_of_getElem? (i := 8) rfl, t⟩
          · exact ⟨_, List.mem_of_getElem? (i := 9) rfl, t⟩
  · exact ⟨[], List.mem_singleton.mpr rfl, fun q hq => by cases hq⟩
theorem lb_round {p : Program} {l : Launch} {e : Env} {R : Room} {s : State} {m : MethodId} {args : Array Value} {below : List Frame} {meth : Method} {c : Code} {D : va_G} {tys : ai_ty} {A : Nat → Prop} {b L : Nat} {sx : Nat → Int32} {cells slots : Nat} {Q : State → Prop} (C : ai_cx tb_m169 11 p R s m args c D tys A b L sx cells slots) {ad : List Nat} {q0 q49 : Nat} (e0 : ad[0]? = some q0) (e49 : ad[49]? = some q49) {ws : va_W} {H : Heap} {locs : List Loc} {ls : Array Slot} (hw : ai_wd tb_TY ad tys ws) (heq : lb_eq ws) (hP : va_P D vwCl ws H) (hD : va_D A ws) (hS : va_S A s.heap H locs) {i : Nat} (hi : i + 5 ≤ L) (hL : L ≤ 2560) (hl : lv_has ls 4 [(0, .ref b), (1, .ref q0), (2, .ref q49), (3, .int (nI i))])
    (k : ∀ (ws : va_W) (H : Heap) (locs : List Loc) (ls : Array Slot), ai_wd tb_TY ad tys ws → lb_eq ws → va_P D vwCl ws H → va_D A ws → va_S A s.heap H locs → lv_has ls 4 [(0, .ref b), (1, .ref q0), (2, .ref q49), (3, .int (nI i))] → W p l e R s m args below meth c H locs cells slots Q (F0 m 1297 ls [])) : W p l e R s m args below meth c H locs cells slots Q (F0 m 26 ls []) := by
  obtain ⟨⟨t, t1, t2, t3, t4⟩, ⟨n0, a0, b0, m00, m01, m02, m03, m04, m05, m06⟩, ⟨n1, a1, b1, m10, m11, m12, m13, m14, m15, m16⟩, ⟨n2, a2, b2, m20, m21, m22, m23, m24, m25, m26⟩, ⟨n3, a3, b3, m30, m31, m32, m33, m34, m35, m36⟩⟩ := heq
  have hiI : (nI i).toInt = (i : Int) := nI_toInt (by omega)
  have lo : ∀ z : Int32, -2147483648 ≤ z.toInt := fun z => Int32.le_toInt z
  have hiz : ∀ z : Int32, z.toInt ≤ 2147483647 := fun z => Int32.toInt_le z
  have key := lb_go (l := l) (e := e) (below := below) (meth := meth) (Q := Q) (w0 := ws) (ad := ad) (r0 := [0, (i : Int), t.toInt, (sx i).toInt, (sx (i + 1)).toInt, (sx (i + 2)).toInt, (sx (i + 3)).toInt, (sx (i + 4)).toInt, n0.toInt, n1.toInt, n2.toInt, n3.toInt, a0.toInt, a1.toInt, a2.toInt, a3.toInt, b0.toInt, b1.toInt, b2.toInt, b3.toInt]) C (lb_cov rfl (lo _) (hiz _) rfl rfl rfl rfl rfl rfl rfl rfl m06 m16 m26 m36) (fun y hy => ?_)
  · refine key [0, (i : Int), t.toInt, (sx i).toInt, (sx (i + 1)).toInt, (sx (i + 2)).toInt, (sx (i + 3)).toInt, (sx (i + 4)).toInt, n0.toInt, n1.toInt, n2.toInt, n3.toInt, a0.toInt, a1.toInt, a2.toInt, a3.toInt, b0.toInt, b1.toInt, b2.toInt, b3.toInt] [(0, .ref b), (1, .ref q0), (2, .ref q49), (3, .int (nI i))] [] ws H locs ls ai_x.rf ⟨⟨rfl, fun k z en hz he => ?_⟩, (fun q hq => by cases hq), ⟨rfl, Or.inr (Or.inr (Or.inr (Or.inr ⟨rfl, rfl⟩))), rfl, Or.inl ⟨rfl, q0, e0, rfl⟩, rfl, Or.inl ⟨rfl, q49, e49, rfl⟩, rfl, Or.inr (Or.inl ⟨rfl, _, _, rfl, rfl, by rw [hiI]; show (i : Int) = (i : Int) + 0; omega⟩), trivial⟩, trivial, hw, fun q hq => ?_, fun _ _ _ _ h => h, fun _ z hz => ?_⟩ hP hD hS hl
    · match k, hz, he with
      | 0, hz, he => cases hz; cases he; exact ⟨Int.le_refl _, Int.le_refl _, (fun h => by cases h), 0, rfl, Int.le_refl _⟩
      | 1, hz, he => cases hz; cases he; exact ⟨by show (0 : Int) ≤ i; omega, by show (i : Int) ≤ 2555; omega, (fun h => by cases h), i, rfl, by show (i : Int) + 0 ≤ i; omega⟩
      | 2, hz, he => cases hz; cases he; exact ⟨t3, t4, (fun h => by cases h), _, rfl, by show t.toInt + 0 ≤ t.toInt; omega⟩
      | 3, hz, he => cases hz; cases he; exact ⟨lo _, hiz _, (fun h => by cases h), _, rfl, by show (sx i).toInt + 0 ≤ (sx i).toInt; omega⟩
      | 4, hz, he => cases hz; cases he; exact ⟨lo _, hiz _, (fun h => by cases h), _, rfl, by show (sx (i + 1)).toInt + 0 ≤ (sx (i + 1)).toInt; omega⟩
      | 5, hz, he => cases hz; cases he; exact ⟨lo _, hiz _, (fun h => by cases h), _, rfl, by show (sx (i + 2)).toInt + 0 ≤ (sx (i + 2)).toInt; omega⟩
      | 6, hz, he => cases hz; cases he; exact ⟨lo _, hiz _, (fun h => by cases h), _, rfl, by show (sx (i + 3)).toInt + 0 ≤ (sx (i + 3)).toInt; omega⟩
      | 7, hz, he => cases hz; cases he; exact ⟨lo _, hiz _, (fun h => by cases h), _, rfl, by show (sx (i + 4)).toInt + 0 ≤ (sx (i + 4)).toInt; omega⟩
      | 8, hz, he => cases hz; cases he; exact ⟨m02, m03, (fun h => by cases h), _, rfl, by show n0.toInt + 0 ≤ n0.toInt; omega⟩
      | 9, hz, he => cases hz; cases he; exact ⟨m12, m13, (fun h => by cases h), _, rfl, by show n1.toInt + 0 ≤ n1.toInt; omega⟩
      | 10, hz, he => cases hz; cases he; exact ⟨m22, m23, (fun h => by cases h), _, rfl, by show n2.toInt + 0 ≤ n2.toInt; omega⟩
      | 11, hz, he => cases hz; cases he; exact ⟨m32, m33, (fun h => by cases h), _, rfl, by show n3.toInt + 0 ≤ n3.toInt; omega⟩
      | 12, hz, he => cases hz; cases he; exact ⟨lo _, hiz _, (fun h => by cases h), _, rfl, by show a0.toInt + 0 ≤ a0.toInt; omega⟩
      | 13, hz, he => cases hz; cases he; exact ⟨lo _, hiz _, (fun h => by cases h), _, rfl, by show a1.toInt + 0 ≤ a1.toInt; omega⟩
      | 14, hz, he => cases hz; cases he; exact ⟨lo _, hiz _, (fun h => by cases h), _, rfl, by show a2.toInt + 0 ≤ a2.toInt; omega⟩
      | 15, hz, he => cases hz; cases he; exact ⟨lo _, hiz _, (fun h => by cases h), _, rfl, by show a3.toInt + 0 ≤ a3.toInt; omega⟩
      | 16, hz, he => cases hz; cases he; exact ⟨lo _, hiz _, (fun h => by cases h), _, rfl, by show b0.toInt + 0 ≤ b0.toInt; omega⟩
      | 17, hz, he => cases hz; cases he; exact ⟨lo _, hiz _, (fun h => by cases h), _, rfl, by show b1.toInt + 0 ≤ b1.toInt; omega⟩
      | 18, hz, he => cases hz; cases he; exact ⟨lo _, hiz _, (fun h => by cases h), _, rfl, by show b2.toInt + 0 ≤ b2.toInt; omega⟩
      | 19, hz, he => cases hz; cases he; exact ⟨lo _, hiz _, (fun h => by cases h), _, rfl, by show b3.toInt + 0 ≤ b3.toInt; omega⟩
      | k + 20, hz, he => cases hz
    · have hq : q ∈ lb_kn := hq
      unfold lb_kn at hq
      rcases List.mem_cons.mp hq with rfl | hq
      · exact ⟨_, t1, Or.inr (Or.inl ⟨rfl, _, _, rfl, rfl, by show t.toInt = t.toInt + 0; omega⟩)⟩
      rcases List.mem_cons.mp hq with rfl | hq
      · exact ⟨_, t2, Or.inr (Or.inl ⟨rfl, _, _, rfl, rfl, by show t.toInt = t.toInt + 0; omega⟩)⟩
      rcases List.mem_cons.mp hq with rfl | hq
      · exact ⟨_, m00, Or.inr (Or.inl ⟨rfl, _, _, rfl, rfl, by show n0.toInt = n0.toInt + 0; omega⟩)⟩
      rcases List.mem_cons.mp hq with rfl | hq
      · exact ⟨_, m01, Or.inr (Or.inl ⟨rfl, _, _, rfl, rfl, by show n0.toInt = n0.toInt + 0; omega⟩)⟩
      rcases List.mem_cons.mp hq with rfl | hq
      · exact ⟨_, m04, Or.inr (Or.inl ⟨rfl, _, _, rfl, rfl, by show a0.toInt = a0.toInt + 0; omega⟩)⟩
      rcases List.mem_cons.mp hq with rfl | hq
      · exact ⟨_, m05, Or.inr (Or.inl ⟨rfl, _, _, rfl, rfl, by show b0.toInt = b0.toInt + 0; omega⟩)⟩
      rcases List.mem_cons.mp hq with rfl | hq
      · exact ⟨_, m10, Or.inr (Or.inl ⟨rfl, _, _, rfl, rfl, by show n1.toInt = n1.toInt + 0; omega⟩)⟩
      rcases List.mem_cons.mp hq with rfl | hq
      · exact ⟨_, m11, Or.inr (Or.inl ⟨rfl, _, _, rfl, rfl, by show n1.toInt = n1.toInt + 0; omega⟩)⟩
      rcases List.mem_cons.mp hq with rfl | hq
      · exact ⟨_, m14, Or.inr (Or.inl ⟨rfl, _, _, rfl, rfl, by show a1.toInt = a1.toInt + 0; omega⟩)⟩
      rcases List.mem_cons.mp hq with rfl | hq
      · exact ⟨_, m15, Or.inr (Or.inl ⟨rfl, _, _, rfl, rfl, by show b1.toInt = b1.toInt + 0; omega⟩)⟩
      rcases List.mem_cons.mp hq with rfl | hq
      · exact ⟨_, m20, Or.inr (Or.inl ⟨rfl, _, _, rfl, rfl, by show n2.toInt = n2.toInt + 0; omega⟩)⟩
      rcases List.mem_cons.mp hq with rfl | hq
      · exact ⟨_, m21, Or.inr (Or.inl ⟨rfl, _, _, rfl, rfl, by show n2.toInt = n2.toInt + 0; omega⟩)⟩
      rcases List.mem_cons.mp hq with rfl | hq
      · exact ⟨_, m24, Or.inr (Or.inl ⟨rfl, _, _, rfl, rfl, by show a2.toInt = a2.toInt + 0; omega⟩)⟩
      rcases List.mem_cons.mp hq with rfl | hq
      · exact ⟨_, m25, Or.inr (Or.inl ⟨rfl, _, _, rfl, rfl, by show b2.toInt = b2.toInt + 0; omega⟩)⟩
      rcases List.mem_cons.mp hq with rfl | hq
      · exact ⟨_, m30, Or.inr (Or.inl ⟨rfl, _, _, rfl, rfl, by show n3.toInt = n3.toInt + 0; omega⟩)⟩
      rcases List.mem_cons.mp hq with rfl | hq
      · exact ⟨_, m31, Or.inr (Or.inl ⟨rfl, _, _, rfl, rfl, by show n3.toInt = n3.toInt + 0; omega⟩)⟩
      rcases List.mem_cons.mp hq with rfl | hq
      · exact ⟨_, m34, Or.inr (Or.inl ⟨rfl, _, _, rfl, rfl, by show a3.toInt = a3.toInt + 0; omega⟩)⟩
      rcases List.mem_cons.mp hq with rfl | hq
      · exact ⟨_, m35, Or.inr (Or.inl ⟨rfl, _, _, rfl, rfl, by show b3.toInt = b3.toInt + 0; omega⟩)⟩
      cases hq
    · cases hz
      refine ⟨⟨by show (0 : Int) ≤ i; omega, by show (i : Int) + 4 < L; omega⟩, fun o ho => ?_⟩
      match o, ho with
      | 0, _ => rfl
      | 1, _ => rfl
      | 2, _ => rfl
      | 3, _ => rfl
      | 4, _ => rfl
      | o + 5, ho => omega
  · intro r lv sk ws' H' locs' ls' hx g hP' hD' hS' hl'
    obtain ⟨g1, g2, g3, g4, g5, g6, g7, g8⟩ := g
    unfold lb_okS at hy
    rw [Bool.and_eq_true] at hy
    obtain ⟨hy, hy4⟩ := hy
    simp only [Bool.and_eq_true] at hy4
    obtain ⟨⟨⟨hk0, hk1⟩, hk2⟩, hk3⟩ := hy4
    unfold lb_okE at hy
    simp only [Bool.and_eq_true, decide_eq_true_eq] at hy
    obtain ⟨⟨⟨⟨⟨⟨y1, y2⟩, y3⟩, y4⟩, y5⟩, y6⟩, y7⟩ := hy
    have f0 := lane_ok hk0 g1 g6 (hx.at rfl) (hx.at rfl) m06
    have f1 := lane_ok hk1 g1 g6 (hx.at rfl) (hx.at rfl) m16
    have f2 := lane_ok hk2 g1 g6 (hx.at rfl) (hx.at rfl) m26
    have f3 := lane_ok hk3 g1 g6 (hx.at rfl) (hx.at rfl) m36
    have hsk : sk = [] := by
      rw [List.isEmpty_iff.mp y2] at g4
      exact g4.nil
    subst hsk
    obtain ⟨k0, v0, a0, b0⟩ := ai_get_ok g3 y3
    obtain ⟨k1, v1, a1, b1⟩ := ai_get_ok g3 y4
    obtain ⟨k2, v2, a2, b2⟩ := ai_get_ok g3 y5
    obtain ⟨k3, v3, a3, b3⟩ := ai_get_ok g3 y6
    obtain ⟨v, w1, w2⟩ := ai_anyE y7
    simp only [Bool.and_eq_true, decide_eq_true_eq] at w2
    obtain ⟨w2, w3⟩ := w2
    obtain ⟨pp, w4, w5⟩ := ai_anyE w3
    simp only [Bool.and_eq_true, decide_eq_true_eq] at w5
    obtain ⟨x1, s1, c1⟩ := ai_lk_ok g6 w1
    obtain ⟨x2, s2, c2⟩ := ai_lk_ok g6 w2
    obtain ⟨-, z1, i1, u1, rfl, u2, u3, u4⟩ := ai_i_ok g1 c1 w4
    obtain ⟨-, z2, i2, u5, rfl, u6, u7, u8⟩ := ai_i_ok g1 c2 w4
    have hii : i1 = i2 := Int32.toInt_inj.mp (by rw [u2, u6, Option.some.inj (u1.symm.trans u5)])
    subst hii
    have hv0 : v0 = .ref b := by
      rcases b0 with ⟨q, -⟩ | ⟨q, -⟩ | ⟨q, -⟩ | ⟨q, -⟩ | ⟨-, q⟩
      · exact absurd q (by decide)
      · exact absurd q (by decide)
      · exact absurd q (by decide)
      · exact absurd q (by decide)
      · exact q
    have hv1 : v1 = .ref q0 := by
      rcases b1 with ⟨-, q, q1, q2⟩ | ⟨q, -⟩ | ⟨q, -⟩ | ⟨q, -⟩ | ⟨q, -⟩
      · rw [q2, Option.some.inj (q1.symm.trans e0)]
      all_goals exact absurd q (by decide)
    have hv2 : v2 = .ref q49 := by
      rcases b2 with ⟨-, q, q1, q2⟩ | ⟨q, -⟩ | ⟨q, -⟩ | ⟨q, -⟩ | ⟨q, -⟩
      · rw [q2, Option.some.inj (q1.symm.trans e49)]
      all_goals exact absurd q (by decide)
    have hv3 : v3 = .int (nI i) := by
      rcases b3 with ⟨q, -⟩ | ⟨-, z, j, q1, q2, q3⟩ | ⟨q, -⟩ | ⟨q, -⟩ | ⟨q, -⟩
      · exact absurd q (by decide)
      · obtain ⟨tl, rfl⟩ := hx
        have hz : z = (i : Int) := (Option.some.inj q1).symm
        rw [q2]
        congr 1
        apply Int32.toInt_inj.mp
        rw [q3, hz, hiI]
        show (i : Int) + 0 = i
        omega
      all_goals exact absurd q (by decide)
    subst hv0 hv1 hv2 hv3
    rw [y1]
    refine k ws' H' locs' ls' g5 ⟨⟨i1, s1, s2, by omega, by omega⟩, f0, f1, f2, f3⟩ hP' hD' hS' ⟨hl'.1, hl'.2.1, fun q hq => ?_⟩
    rcases List.mem_cons.mp hq with rfl | hq
    · exact lv_at hl' k0 a0
    · rcases List.mem_cons.mp hq with rfl | hq
      · exact lv_at hl' k1 a1
      · rcases List.mem_cons.mp hq with rfl | hq
        · exact lv_at hl' k2 a2
        · rcases List.mem_cons.mp hq with rfl | hq
          · exact lv_at hl' k3 a3
          · cases hq
