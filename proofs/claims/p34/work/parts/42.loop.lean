/-! the law's loop -/
theorem lb_go {p : Program} {l : Launch} {e : Env} {R : Room} {s : State} {m : MethodId} {args : Array Value} {below : List Frame} {meth : Method} {c : Code} {D : va_G} {tys : ai_ty} {A : Nat → Prop} {b L : Nat} {sx : Nat → Int32} {cells slots : Nat} {Q : State → Prop} {w0 : va_W} {ad : List Nat} {r0 : List Int} (C : ai_cx tb_m169 11 p R s m args c D tys A b L sx cells slots) (k : ∀ y : ai_s, lb_okE y = true → ai_G tb_TY tb_WR w0 ad tb_m169 p l e R s m args below meth c D tys A b L sx cells slots Q r0 y) : ai_G tb_TY tb_WR w0 ad tb_m169 p l e R s m args below meth c D tys A b L sx cells slots Q r0 lb_st := by
  obtain ⟨xs, h1, h2⟩ := ai_anyE lb_len
  refine (ai_ex_ok (K := tb_K) su_ok tv_MT 5000) 169 11 lb_cut lb_st xs tb_m169 h1 rfl C (fun x hx => ?_)
  obtain ⟨j, hj, hjx⟩ := List.getElem_of_mem hx
  have hj38 : j < 38 := by rw [← ai_beq.mp h2]; exact hj
  obtain ⟨ms, hms, hc⟩ := lb_all j hj38
  unfold lb_case at hc
  obtain ⟨xs', a1, a2⟩ := ai_anyE hc
  cases Option.some.inj (h1.symm.trans a1)
  obtain ⟨x', a3, a4⟩ := ai_anyE a2
  rw [List.getElem?_eq_getElem hj, hjx] at a3
  cases a3
  obtain ⟨ys, a5, a6⟩ := ai_anyE a4
  exact mm_x_ok hms 5000 169 11 [1297] x ys tb_m169 a5 rfl C (fun y hy => k y (List.all_eq_true.mp a6 y hy))
/-- what the two sides have alike: the tape's length -/
def lb_eq (ws : va_W) : Prop := ∃ t : Int32, ai_sl ws 26 1 (.int t) ∧ ai_sl ws 49 7 (.int t) ∧ 0 ≤ t.toInt ∧ t.toInt ≤ 160
theorem lb_round {p : Program} {l : Launch} {e : Env} {R : Room} {s : State} {m : MethodId} {args : Array Value} {below : List Frame} {meth : Method} {c : Code} {D : va_G} {tys : ai_ty} {A : Nat → Prop} {b L : Nat} {sx : Nat → Int32} {cells slots : Nat} {Q : State → Prop} (C : ai_cx tb_m169 11 p R s m args c D tys A b L sx cells slots) {ad : List Nat} {q0 q49 : Nat} (e0 : ad[0]? = some q0) (e49 : ad[49]? = some q49) {ws : va_W} {H : Heap} {locs : List Loc} {ls : Array Slot} (hw : ai_wd tb_TY ad tys ws) (heq : lb_eq ws) (hP : va_P D vwCl ws H) (hD : va_D A ws) (hS : va_S A s.heap H locs) {i : Nat} (hi : i + 5 ≤ L) (hL : L ≤ 2560) (hl : lv_has ls 4 [(0, .ref b), (1, .ref q0), (2, .ref q49), (3, .int (nI i))])
    (k : ∀ (ws : va_W) (H : Heap) (locs : List Loc) (ls : Array Slot), ai_wd tb_TY ad tys ws → lb_eq ws → va_P D vwCl ws H → va_D A ws → va_S A s.heap H locs → lv_has ls 4 [(0, .ref b), (1, .ref q0), (2, .ref q49), (3, .int (nI i))] → W p l e R s m args below meth c H locs cells slots Q (F0 m 1297 ls [])) : W p l e R s m args below meth c H locs cells slots Q (F0 m 26 ls []) := by
  obtain ⟨t, t1, t2, t3, t4⟩ := heq
  have hiI : (nI i).toInt = (i : Int) := nI_toInt (by omega)
  have lo : ∀ z : Int32, -2147483648 ≤ z.toInt := fun z => Int32.le_toInt z
  have hiz : ∀ z : Int32, z.toInt ≤ 2147483647 := fun z => Int32.toInt_le z
  have key := lb_go (l := l) (e := e) (below := below) (meth := meth) (Q := Q) (w0 := ws) (ad := ad) (r0 := [0, (i : Int), t.toInt, (sx i).toInt, (sx (i + 1)).toInt, (sx (i + 2)).toInt, (sx (i + 3)).toInt, (sx (i + 4)).toInt]) C (fun y hy => ?_)
  · refine key [0, (i : Int), t.toInt, (sx i).toInt, (sx (i + 1)).toInt, (sx (i + 2)).toInt, (sx (i + 3)).toInt, (sx (i + 4)).toInt] [(0, .ref b), (1, .ref q0), (2, .ref q49), (3, .int (nI i))] [] ws H locs ls ai_x.rf ⟨⟨rfl, fun k z en hz he => ?_⟩, (fun q hq => by cases hq), ⟨rfl, Or.inr (Or.inr (Or.inr (Or.inr ⟨rfl, rfl⟩))), rfl, Or.inl ⟨rfl, q0, e0, rfl⟩, rfl, Or.inl ⟨rfl, q49, e49, rfl⟩, rfl, Or.inr (Or.inl ⟨rfl, _, _, rfl, rfl, by rw [hiI]; show (i : Int) = (i : Int) + 0; omega⟩), trivial⟩, trivial, hw, fun q hq => ?_, fun _ _ _ _ h => h, fun _ z hz => ?_⟩ hP hD hS hl
    · match k, hz, he with
      | 0, hz, he => cases hz; cases he; exact ⟨Int.le_refl _, Int.le_refl _, (fun h => by cases h), 0, rfl, Int.le_refl _⟩
      | 1, hz, he => cases hz; cases he; exact ⟨by show (0 : Int) ≤ i; omega, by show (i : Int) ≤ 2555; omega, (fun h => by cases h), i, rfl, by show (i : Int) + 0 ≤ i; omega⟩
      | 2, hz, he => cases hz; cases he; exact ⟨t3, t4, (fun h => by cases h), _, rfl, by show t.toInt + 0 ≤ t.toInt; omega⟩
      | 3, hz, he => cases hz; cases he; exact ⟨lo _, hiz _, (fun h => by cases h), _, rfl, by show (sx i).toInt + 0 ≤ (sx i).toInt; omega⟩
      | 4, hz, he => cases hz; cases he; exact ⟨lo _, hiz _, (fun h => by cases h), _, rfl, by show (sx (i + 1)).toInt + 0 ≤ (sx (i + 1)).toInt; omega⟩
      | 5, hz, he => cases hz; cases he; exact ⟨lo _, hiz _, (fun h => by cases h), _, rfl, by show (sx (i + 2)).toInt + 0 ≤ (sx (i + 2)).toInt; omega⟩
      | 6, hz, he => cases hz; cases he; exact ⟨lo _, hiz _, (fun h => by cases h), _, rfl, by show (sx (i + 3)).toInt + 0 ≤ (sx (i + 3)).toInt; omega⟩
      | 7, hz, he => cases hz; cases he; exact ⟨lo _, hiz _, (fun h => by cases h), _, rfl, by show (sx (i + 4)).toInt + 0 ≤ (sx (i + 4)).toInt; omega⟩
      | k + 8, hz, he => cases hz
    · have hq : q ∈ [(26, 1, ((1, 2, 0, 0) : ai_v)), (49, 7, (1, 2, 0, 0))] := hq
      rcases List.mem_cons.mp hq with rfl | hq
      · exact ⟨_, t1, Or.inr (Or.inl ⟨rfl, _, _, rfl, rfl, by show t.toInt = t.toInt + 0; omega⟩)⟩
      · rcases List.mem_cons.mp hq with rfl | hq
        · exact ⟨_, t2, Or.inr (Or.inl ⟨rfl, _, _, rfl, rfl, by show t.toInt = t.toInt + 0; omega⟩)⟩
        · cases hq
    · cases hz
      refine ⟨⟨by show (0 : Int) ≤ i; omega, by show (i : Int) + 4 < L; omega⟩, fun o ho => ?_⟩
      match o, ho with
      | 0, _ => rfl
      | 1, _ => rfl
      | 2, _ => rfl
      | 3, _ => rfl
      | 4, _ => rfl
      | o + 5, ho => omega
  · intro r lv sk ws' H' locs' ls' hx g hP' hD' hS' hl'
    obtain ⟨g1, g2, g3, g4, g5, g6, g7, g8⟩ := g
    unfold lb_okE at hy
    simp only [Bool.and_eq_true, decide_eq_true_eq] at hy
    obtain ⟨⟨⟨⟨⟨⟨y1, y2⟩, y3⟩, y4⟩, y5⟩, y6⟩, y7⟩ := hy
    have hsk : sk = [] := by
      rw [List.isEmpty_iff.mp y2] at g4
      exact g4.nil
    subst hsk
    obtain ⟨k0, v0, a0, b0⟩ := ai_get_ok g3 y3
    obtain ⟨k1, v1, a1, b1⟩ := ai_get_ok g3 y4
    obtain ⟨k2, v2, a2, b2⟩ := ai_get_ok g3 y5
    obtain ⟨k3, v3, a3, b3⟩ := ai_get_ok g3 y6
    obtain ⟨v, w1, w2⟩ := ai_anyE y7
    simp only [Bool.and_eq_true, decide_eq_true_eq] at w2
    obtain ⟨w2, w3⟩ := w2
    obtain ⟨pp, w4, w5⟩ := ai_anyE w3
    simp only [Bool.and_eq_true, decide_eq_true_eq] at w5
    obtain ⟨x1, s1, c1⟩ := ai_lk_ok g6 w1
    obtain ⟨x2, s2, c2⟩ := ai_lk_ok g6 w2
    obtain ⟨-, z1, i1, u1, rfl, u2, u3, u4⟩ := ai_i_ok g1 c1 w4
    obtain ⟨-, z2, i2, u5, rfl, u6, u7, u8⟩ := ai_i_ok g1 c2 w4
    have hii : i1 = i2 := Int32.toInt_inj.mp (by rw [u2, u6, Option.some.inj (u1.symm.trans u5)])
    subst hii
    have hv0 : v0 = .ref b := by
      rcases b0 with ⟨q, -⟩ | ⟨q, -⟩ | ⟨q, -⟩ | ⟨q, -⟩ | ⟨-, q⟩
      · exact absurd q (by decide)
      · exact absurd q (by decide)
      · exact absurd q (by decide)
      · exact absurd q (by decide)
      · exact q
    have hv1 : v1 = .ref q0 := by
      rcases b1 with ⟨-, q, q1, q2⟩ | ⟨q, -⟩ | ⟨q, -⟩ | ⟨q, -⟩ | ⟨q, -⟩
      · rw [q2, Option.some.inj (q1.symm.trans e0)]
      all_goals exact absurd q (by decide)
    have hv2 : v2 = .ref q49 := by
      rcases b2 with ⟨-, q, q1, q2⟩ | ⟨q, -⟩ | ⟨q, -⟩ | ⟨q, -⟩ | ⟨q, -⟩
      · rw [q2, Option.some.inj (q1.symm.trans e49)]
      all_goals exact absurd q (by decide)
    have hv3 : v3 = .int (nI i) := by
      rcases b3 with ⟨q, -⟩ | ⟨-, z, j, q1, q2, q3⟩ | ⟨q, -⟩ | ⟨q, -⟩ | ⟨q, -⟩
      · exact absurd q (by decide)
      · obtain ⟨tl, rfl⟩ := hx
        have hz : z = (i : Int) := (Option.some.inj q1).symm
        rw [q2]
        congr 1
        apply Int32.toInt_inj.mp
        rw [q3, hz, hiI]
        show (i : Int) + 0 = i
        omega
      all_goals exact absurd q (by decide)
    subst hv0 hv1 hv2 hv3
    rw [y1]
    refine k ws' H' locs' ls' g5 ⟨i1, s1, s2, by omega, by omega⟩ hP' hD' hS' ⟨hl'.1, hl'.2.1, fun q hq => ?_⟩
    rcases List.mem_cons.mp hq with rfl | hq
    · exact lv_at hl' k0 a0
    · rcases List.mem_cons.mp hq with rfl | hq
      · exact lv_at hl' k1 a1
      · rcases List.mem_cons.mp hq with rfl | hq
        · exact lv_at hl' k2 a2
        · rcases List.mem_cons.mp hq with rfl | hq
          · exact lv_at hl' k3 a3
          · cases hq
