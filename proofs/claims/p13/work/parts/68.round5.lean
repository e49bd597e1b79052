/-! what the two sides have alike: the tape, the fault, how many tests, sightings, images -/
def lb_im (ws : va_W) (k : Nat) (c bb : Int) : Prop := vi ws (13 + 6 * k) 0 c ∧ vi ws (13 + 6 * k) 3 bb ∧ vi ws 50 (53 + 27 * k) bb
def lb_c5 (ws : va_W) (u c q a k0 k1 m0 m1 : Int) : Prop := (vi ws 0 9 u ∧ vi ws 49 8 u) ∧ (vi ws 1 0 c ∧ vi ws 49 1 c) ∧ (vi ws 34 0 q ∧ vi ws 49 19 q) ∧ (vi ws 1 3 a ∧ vi ws 50 26 a) ∧ (vi ws 25 0 k0 ∧ vi ws 56 0 k0) ∧ (vi ws 25 1 k1 ∧ vi ws 56 1 k1) ∧ (k0 = 1 → lb_im ws 0 c m0) ∧ (k1 = 1 → lb_im ws 1 c m1) ∧ (0 ≤ m0 ∧ m0 ≤ 8) ∧ (0 ≤ m1 ∧ m1 ≤ 8)
def lb_eq (ws : va_W) : Prop := ∃ (t : Nat) (g : Nat → Int) (u c q a k0 k1 m0 m1 : Int), vi ws 26 1 t ∧ vi ws 49 7 t ∧ t ≤ 160 ∧ sp_tape g t ws ∧ lb_c5 ws u c q a k0 k1 m0 m1
def c5_ok (W : List (Nat × Nat × Nat)) : Bool := [(0, 9), (49, 8), (1, 0), (49, 1), (34, 0), (49, 19), (25, 0), (56, 0), (25, 1), (56, 1), (13, 0), (19, 0), (1, 3), (50, 26), (13, 3), (50, 53), (19, 3), (50, 80)].all fun q => !(ai_wr W q.1 q.2 q.2)
theorem c5_w {W : List (Nat × Nat × Nat)} (h : c5_ok W = true) : ai_wr W 0 9 9 = false ∧ ai_wr W 49 8 8 = false ∧ ai_wr W 1 0 0 = false ∧ ai_wr W 49 1 1 = false ∧ ai_wr W 34 0 0 = false ∧ ai_wr W 49 19 19 = false ∧ ai_wr W 25 0 0 = false ∧ ai_wr W 56 0 0 = false ∧ ai_wr W 25 1 1 = false ∧ ai_wr W 56 1 1 = false ∧ ai_wr W 13 0 0 = false ∧ ai_wr W 19 0 0 = false ∧ ai_wr W 1 3 3 = false ∧ ai_wr W 50 26 26 = false ∧ ai_wr W 13 3 3 = false ∧ ai_wr W 50 53 53 = false ∧ ai_wr W 19 3 3 = false ∧ ai_wr W 50 80 80 = false := by
  unfold c5_ok at h
  simp only [List.all_cons, List.all_nil, Bool.and_eq_true, Bool.not_eq_true', and_true] at h
  exact h
theorem lb_c5.fr {W : List (Nat × Nat × Nat)} {ws ws' : va_W} {u c q a k0 k1 m0 m1 : Int} (h : lb_c5 ws u c q a k0 k1 m0 m1) (hf : ai_fr W ws ws') (hw : c5_ok W = true) : lb_c5 ws' u c q a k0 k1 m0 m1 := by
  obtain ⟨w1, w2, w3, w4, w5, w6, w7, w8, w9, w10, w11, w12, w13, w14, w15, w16, w17, w18⟩ := c5_w hw
  obtain ⟨⟨a1, a2⟩, ⟨a3, a4⟩, ⟨a5, a6⟩, ⟨a13, a14⟩, ⟨a7, a8⟩, ⟨a9, a10⟩, a11, a12, b1, b2⟩ := h
  exact ⟨⟨a1.fr hf w1, a2.fr hf w2⟩, ⟨a3.fr hf w3, a4.fr hf w4⟩, ⟨a5.fr hf w5, a6.fr hf w6⟩, ⟨a13.fr hf w13, a14.fr hf w14⟩, ⟨a7.fr hf w7, a8.fr hf w8⟩, ⟨a9.fr hf w9, a10.fr hf w10⟩, fun h => ⟨(a11 h).1.fr hf w11, (a11 h).2.1.fr hf w15, (a11 h).2.2.fr hf w16⟩, fun h => ⟨(a12 h).1.fr hf w12, (a12 h).2.1.fr hf w17, (a12 h).2.2.fr hf w18⟩, b1, b2⟩
def lb_alls : Prop := ∀ j : Nat, j < 38 → j ≠ 1 → j ≠ 3 → j ≠ 31 → j ≠ 32 → ∃ ms : List mm_e, (∀ e ∈ ms, m4_ok e) ∧ lb_case ms j = true
def lb_r (i : Nat) (t : Int) (sx : Nat → Int32) (u c q a k0 k1 m0 m1 : Int) : List Int := [0, (i : Int), t, (sx i).toInt, (sx (i + 1)).toInt, (sx (i + 2)).toInt, (sx (i + 3)).toInt, (sx (i + 4)).toInt, u, c, q, a, k0, k1, m0, m1]
theorem vi_f {T : List ai_c} {ad : List Nat} {tys : ai_ty} {ws : va_W} {k ci i : Nat} {F : List ai_f} {lo hi z : Int} (hw : ai_wd T ad tys ws) (h : vi ws k i z) (hT : T[k]? = some (0, ci, F)) (hF : F[i]? = some (1, 0, lo, hi)) : lo ≤ z ∧ z ≤ hi := by
  obtain ⟨y, h1, h2, h3⟩ := pl_f hw hT hF
  obtain ⟨j, j1, j2⟩ := h
  have := j1.fun h1
  cases this
  omega
theorem vi_b {T : List ai_c} {ad : List Nat} {tys : ai_ty} {ws : va_W} {k n i a0 b0 : Nat} {pat : List ai_f} {lo hi z : Int} (hw : ai_wd T ad tys ws) (h : vi ws k i z) (hT : T[k]? = some (2, n, pat)) (hi' : i < n) (hF : ai_pt pat i = some (a0, b0, lo, hi)) : lo ≤ z ∧ z ≤ hi := by
  obtain ⟨a, e, h1, h2, h3⟩ := hw.get hT
  obtain ⟨j, j1, j2⟩ := h
  rcases h3 with ⟨z, -⟩ | ⟨-, cA, f, rfl, -, h5⟩ | ⟨z, -⟩ | ⟨z, -⟩
  · exact absurd (id z : (2 : Nat) = 0) (by decide)
  · obtain ⟨b1, b2⟩ := h5 i _ hi' hF
    have := j1.fun ⟨a, _, h1, Or.inr ⟨cA, n, f, rfl, hi', rfl⟩⟩
    cases this
    have b1 : lo ≤ (f i).toInt := b1
    have b2 : (f i).toInt ≤ hi := b2
    omega
  · exact absurd (id z : (2 : Nat) = 3) (by decide)
  · exact absurd (id z : (2 : Nat) = 4) (by decide)
section LBR
variable {p : Program} {l : Launch} {e : Env} {R : Room} {s : State} {m : MethodId} {args : Array Value} {below : List Frame} {meth : Method} {c : Code} {D : va_G} {tys : ai_ty} {A : Nat → Prop} {b L : Nat} {sx : Nat → Int32} {cells slots : Nat} {Q : State → Prop} {w0 : va_W} {ad : List Nat} {r0 : List Int}
theorem lb_go (hall : lb_alls) (C : ai_cx tb_m169 11 p R s m args c D tys A b L sx cells slots) (k : ∀ y : ai_s, lb_ok4 y = true → ai_G tb_TY tb_WR4 w0 ad tb_m169 p l e R s m args below meth c D tys A b L sx cells slots Q r0 y) (kf : ∀ (y : ai_s) (pc : Nat), (pc = 196 ∨ pc = 242 ∨ pc = 1076 ∨ pc = 1099) → sp_x y pc = true → ai_G tb_TY tb_WR4 w0 ad tb_m169 p l e R s m args below meth c D tys A b L sx cells slots Q r0 y) : ai_G tb_TY tb_WR4 w0 ad tb_m169 p l e R s m args below meth c D tys A b L sx cells slots Q r0 lb_st := by
  obtain ⟨xs, h1, h2⟩ := ai_anyE lb_len
  refine (ai_ex_ok (K := tb_K4) su4_ok tv_MT 5000) 169 11 lb_cut lb_st xs tb_m169 h1 rfl C (fun x hx => ?_)
  obtain ⟨j, hj, hjx⟩ := List.getElem_of_mem hx
  have hj38 : j < 38 := by rw [← ai_beq.mp h2]; exact hj
  obtain ⟨xs', a1, a2⟩ := ai_anyE sp_hd
  cases Option.some.inj (h1.symm.trans a1)
  rw [Bool.and_eq_true, Bool.and_eq_true, Bool.and_eq_true] at a2
  obtain ⟨s1, s3, s31, s32⟩ := a2
  have pick : ∀ {n pc : Nat}, j = n → (xs[n]?).any (fun x => sp_x x pc) = true → sp_x x pc = true := by
    intro n pc hn h
    subst hn
    obtain ⟨x', a3, a4⟩ := ai_anyE h
    rw [List.getElem?_eq_getElem hj, hjx] at a3
    cases a3
    exact a4
  by_cases hj1 : j = 1
  · exact kf x 196 (Or.inl rfl) (pick hj1 s1)
  by_cases hj3 : j = 3
  · exact kf x 242 (Or.inr (Or.inl rfl)) (pick hj3 s3)
  by_cases hj31 : j = 31
  · exact kf x 1076 (Or.inr (Or.inr (Or.inl rfl))) (pick hj31 s31)
  by_cases hj32 : j = 32
  · exact kf x 1099 (Or.inr (Or.inr (Or.inr rfl))) (pick hj32 s32)
  · obtain ⟨ms, hms, hc⟩ := hall j hj38 hj1 hj3 hj31 hj32
    unfold lb_case at hc
    obtain ⟨xs', a1, a2⟩ := ai_anyE hc
    cases Option.some.inj (h1.symm.trans a1)
    obtain ⟨x', a3, a4⟩ := ai_anyE a2
    rw [List.getElem?_eq_getElem hj, hjx] at a3
    cases a3
    obtain ⟨ys, a5, a6⟩ := ai_anyE a4
    exact m4_x_ok hms 5000 169 11 [1297] x ys tb_m169 a5 rfl C (fun y hy => k y (List.all_eq_true.mp a6 y hy))
theorem lb_sx {i : Nat} {t u c q a k0 k1 m0 m1 : Int} (hi : i + 5 ≤ L) : ai_sx L sx (lb_r i t sx u c q a k0 k1 m0 m1) := fun z hz => by
  cases hz
  refine ⟨⟨by show (0 : Int) ≤ i; omega, by show (i : Int) + 4 < L; omega⟩, fun o ho => ?_⟩
  match o, ho with
  | 0, _ => rfl
  | 1, _ => rfl
  | 2, _ => rfl
  | 3, _ => rfl
  | 4, _ => rfl
  | o + 5, ho => omega
theorem lb_lv {r : List Int} {lo : List (Nat × ai_v)} {lv : List (Nat × Value)} {ls : Array Slot} {i q0 q49 : Nat} (hi : i < 2147483648) (e0 : ad[0]? = some q0) (e49 : ad[49]? = some q49) (g3 : ai_lo ad b r lo lv) (hr : r[1]? = some (i : Int)) (y3 : ai_get lo 0 = some (4, 0, 0, 0)) (y4 : ai_get lo 1 = some (0, 0, 0, 0)) (y5 : ai_get lo 2 = some (0, 49, 0, 0)) (y6 : ai_get lo 3 = some (1, 1, 0, 0)) (hl : lv_has ls 4 lv) : lv_has ls 4 [(0, .ref b), (1, .ref q0), (2, .ref q49), (3, .int (nI i))] := by
  have hiI : (nI i).toInt = (i : Int) := nI_toInt (by omega)
  obtain ⟨k0, v0, a0, b0⟩ := ai_get_ok g3 y3
  obtain ⟨k1, v1, a1, b1⟩ := ai_get_ok g3 y4
  obtain ⟨k2, v2, a2, b2⟩ := ai_get_ok g3 y5
  obtain ⟨k3, v3, a3, b3⟩ := ai_get_ok g3 y6
  have hv0 : v0 = .ref b := by
    rcases b0 with ⟨q, -⟩ | ⟨q, -⟩ | ⟨q, -⟩ | ⟨q, -⟩ | ⟨-, q⟩
    · exact absurd q (by decide)
    · exact absurd q (by decide)
    · exact absurd q (by decide)
    · exact absurd q (by decide)
    · exact q
  have hv1 : v1 = .ref q0 := by
    rcases b1 with ⟨-, q, q1, q2⟩ | ⟨q, -⟩ | ⟨q, -⟩ | ⟨q, -⟩ | ⟨q, -⟩
    · rw [q2, Option.some.inj (q1.symm.trans e0)]
    all_goals exact absurd q (by decide)
  have hv2 : v2 = .ref q49 := by
    rcases b2 with ⟨-, q, q1, q2⟩ | ⟨q, -⟩ | ⟨q, -⟩ | ⟨q, -⟩ | ⟨q, -⟩
    · rw [q2, Option.some.inj (q1.symm.trans e49)]
    all_goals exact absurd q (by decide)
  have hv3 : v3 = .int (nI i) := by
    obtain ⟨j, rfl, hj⟩ := dvn b3 hr
    congr 1
    apply Int32.toInt_inj.mp
    omega
  subst hv0 hv1 hv2 hv3
  refine ⟨hl.1, hl.2.1, fun q hq => ?_⟩
  rcases List.mem_cons.mp hq with rfl | hq
  · exact lv_at hl k0 a0
  · rcases List.mem_cons.mp hq with rfl | hq
    · exact lv_at hl k1 a1
    · rcases List.mem_cons.mp hq with rfl | hq
      · exact lv_at hl k2 a2
      · rcases List.mem_cons.mp hq with rfl | hq
        · exact lv_at hl k3 a3
        · cases hq
theorem lb_lo_ok {i : Nat} {q0 q49 : Nat} {t u c q a k0 k1 m0 m1 : Int} (hi : i < 2147483648) (e0 : ad[0]? = some q0) (e49 : ad[49]? = some q49) : ai_lo ad b (lb_r i t sx u c q a k0 k1 m0 m1) lb_lo [(0, .ref b), (1, .ref q0), (2, .ref q49), (3, .int (nI i))] := by
  have hiI : (nI i).toInt = (i : Int) := nI_toInt (by omega)
  exact ⟨rfl, Or.inr (Or.inr (Or.inr (Or.inr ⟨rfl, rfl⟩))), rfl, Or.inl ⟨rfl, q0, e0, rfl⟩, rfl, Or.inl ⟨rfl, q49, e49, rfl⟩, rfl, Or.inr (Or.inl ⟨rfl, _, _, rfl, rfl, by rw [hiI]; show (i : Int) = (i : Int) + 0; omega⟩), trivial⟩
theorem lb_sx' {i : Nat} {t u c q a : Int} (hi : i + 5 ≤ L) : ai_sx L sx [0, (i : Int), t, (sx i).toInt, (sx (i + 1)).toInt, (sx (i + 2)).toInt, (sx (i + 3)).toInt, (sx (i + 4)).toInt, u, c, q, a] := fun z hz => by
  cases hz
  refine ⟨⟨by show (0 : Int) ≤ i; omega, by show (i : Int) + 4 < L; omega⟩, fun o ho => ?_⟩
  match o, ho with
  | 0, _ => rfl
  | 1, _ => rfl
  | 2, _ => rfl
  | 3, _ => rfl
  | 4, _ => rfl
  | o + 5, ho => omega
theorem lb_lo_ok' {i : Nat} {q0 q49 : Nat} {t u c q a : Int} (hi : i < 2147483648) (e0 : ad[0]? = some q0) (e49 : ad[49]? = some q49) : ai_lo ad b [0, (i : Int), t, (sx i).toInt, (sx (i + 1)).toInt, (sx (i + 2)).toInt, (sx (i + 3)).toInt, (sx (i + 4)).toInt, u, c, q, a] lb_lo [(0, .ref b), (1, .ref q0), (2, .ref q49), (3, .int (nI i))] := by
  have hiI : (nI i).toInt = (i : Int) := nI_toInt (by omega)
  exact ⟨rfl, Or.inr (Or.inr (Or.inr (Or.inr ⟨rfl, rfl⟩))), rfl, Or.inl ⟨rfl, q0, e0, rfl⟩, rfl, Or.inl ⟨rfl, q49, e49, rfl⟩, rfl, Or.inr (Or.inl ⟨rfl, _, _, rfl, rfl, by rw [hiI]; show (i : Int) = (i : Int) + 0; omega⟩), trivial⟩
theorem nowr4 : nowr tb_WR4 27 = true ∧ nowr tb_WR4 52 = true := by decide
theorem fx_vi {ws : va_W} {k i n : Nat} {z : Int} {pat : List ai_f} (hw : ai_wd tb_TY ad tys ws) (hT : tb_TY[k]? = some (1, n, pat)) (h : vi ws k i z) : fx_o ws k i = some z := by
  obtain ⟨j, h1, h2⟩ := h
  rw [← h2]
  exact sl_fx hw hT h1
theorem lb_fin (C : ai_cx tb_m169 11 p R s m args c D tys A b L sx cells slots) {q0 q49 : Nat} (e0 : ad[0]? = some q0) (e49 : ad[49]? = some q49) {ws : va_W} {i : Nat} (hi : i + 5 ≤ L) (hL : L ≤ 2560) {r : List Int} (hr1 : r[1]? = some (i : Int)) {N pc : Nat} {V : List (Nat × Nat × Nat)} {st : ai_s} {ch : ai_s → Bool} (hrun : ((ai_ex (hk V) N 169 tb_m169 11 [1297] st).any fun xs => xs.all ch) = true) (hst : st.1 = pc) (gm : ai_gm tb_TY V ws ad b L sx tys tb_m169.2.2.2.2.1 r st [(0, .ref b), (1, .ref q0), (2, .ref q49), (3, .int (nI i))] [] ws)
    (hch : ∀ (x : ai_s) (r' : List Int) (ws' : va_W), ch x = true → ai_x r r' → ai_ok r' x.2.2.2.1 → ai_wd tb_TY ad tys ws' → ai_fr V ws ws' → ai_kn ad b r' ws' x.2.2.2.2.1 → fd_lo x = true ∧ lb_eq ws')
    (k : ∀ (ws' : va_W) (H : Heap) (locs : List Loc) (ls : Array Slot), ai_wd tb_TY ad tys ws' → lb_eq ws' → va_P D vwCl ws' H → va_D A ws' → va_S A s.heap H locs → lv_has ls 4 [(0, .ref b), (1, .ref q0), (2, .ref q49), (3, .int (nI i))] → W p l e R s m args below meth c H locs cells slots Q (F0 m 1297 ls [])) : hG tb_m169 p l e R s m args below meth c D A cells slots Q pc [(0, .ref b), (1, .ref q0), (2, .ref q49), (3, .int (nI i))] [] ws := by
  obtain ⟨xs, hx1, hx2⟩ := ai_anyE hrun
  rw [← hst]
  refine hseg (st := st) hx1 rfl C gm (fun x hx r' lv' sk' ws' hx' g' => ?_)
  obtain ⟨g1, g2, g3, g4, g5, g6, g7, g8⟩ := g'
  obtain ⟨hlo, heq'⟩ := hch x r' ws' (List.all_eq_true.mp hx2 x hx) hx' g1 g5 g7 g6
  unfold fd_lo sp_at at hlo
  simp only [Bool.and_eq_true, decide_eq_true_eq] at hlo
  obtain ⟨o1, o2, o3, o4, o5, o6⟩ := hlo
  have hsk : sk' = [] := by
    rw [List.isEmpty_iff.mp o2] at g4
    exact g4.nil
  subst hsk
  rw [o1]
  intro H locs ls hP hD hS hl
  exact k ws' H locs ls g5 heq' hP hD hS (lb_lv (by omega) e0 e49 g3 (hx'.at hr1) o3 o4 o5 o6 hl)
theorem lb_finX (C : ai_cx tb_m169 11 p R s m args c D tys A b L sx cells slots) {q0 q49 : Nat} (e0 : ad[0]? = some q0) (e49 : ad[49]? = some q49) {ws : va_W} {i : Nat} (hi : i + 5 ≤ L) (hL : L ≤ 2560) {r : List Int} (hr1 : r[1]? = some (i : Int)) {N pc : Nat} {V : List (Nat × Nat × Nat)} {st : ai_s} {ch : ai_s → Bool} (hrun : ((ai_ex (hkX V) N 169 tb_m169 11 [1297] st).any fun xs => xs.all ch) = true) (hst : st.1 = pc) (gm : ai_gm tb_TY V ws ad b L sx tys tb_m169.2.2.2.2.1 r st [(0, .ref b), (1, .ref q0), (2, .ref q49), (3, .int (nI i))] [] ws)
    (hch : ∀ (x : ai_s) (r' : List Int) (ws' : va_W), ch x = true → ai_x r r' → ai_ok r' x.2.2.2.1 → ai_wd tb_TY ad tys ws' → ai_fr V ws ws' → ai_kn ad b r' ws' x.2.2.2.2.1 → fd_lo x = true ∧ lb_eq ws')
    (k : ∀ (ws' : va_W) (H : Heap) (locs : List Loc) (ls : Array Slot), ai_wd tb_TY ad tys ws' → lb_eq ws' → va_P D vwCl ws' H → va_D A ws' → va_S A s.heap H locs → lv_has ls 4 [(0, .ref b), (1, .ref q0), (2, .ref q49), (3, .int (nI i))] → W p l e R s m args below meth c H locs cells slots Q (F0 m 1297 ls [])) : hG tb_m169 p l e R s m args below meth c D A cells slots Q pc [(0, .ref b), (1, .ref q0), (2, .ref q49), (3, .int (nI i))] [] ws := by
  obtain ⟨xs, hx1, hx2⟩ := ai_anyE hrun
  rw [← hst]
  refine hsegX (st := st) hx1 rfl C gm (fun x hx r' lv' sk' ws' hx' g' => ?_)
  obtain ⟨g1, g2, g3, g4, g5, g6, g7, g8⟩ := g'
  obtain ⟨hlo, heq'⟩ := hch x r' ws' (List.all_eq_true.mp hx2 x hx) hx' g1 g5 g7 g6
  unfold fd_lo sp_at at hlo
  simp only [Bool.and_eq_true, decide_eq_true_eq] at hlo
  obtain ⟨o1, o2, o3, o4, o5, o6⟩ := hlo
  have hsk : sk' = [] := by
    rw [List.isEmpty_iff.mp o2] at g4
    exact g4.nil
  subst hsk
  rw [o1]
  intro H locs ls hP hD hS hl
  exact k ws' H locs ls g5 heq' hP hD hS (lb_lv (by omega) e0 e49 g3 (hx'.at hr1) o3 o4 o5 o6 hl)
set_option maxHeartbeats 2000000 in
theorem lb_feed (C : ai_cx tb_m169 11 p R s m args c D tys A b L sx cells slots) {q0 q49 : Nat} (e0 : ad[0]? = some q0) (e49 : ad[49]? = some q49) {ws : va_W} (hw : ai_wd tb_TY ad tys ws) (heq : lb_eq ws) {i : Nat} (hi : i + 5 ≤ L) (hL : L ≤ 2560)
    (k : ∀ (ws' : va_W) (H : Heap) (locs : List Loc) (ls : Array Slot), ai_wd tb_TY ad tys ws' → lb_eq ws' → va_P D vwCl ws' H → va_D A ws' → va_S A s.heap H locs → lv_has ls 4 [(0, .ref b), (1, .ref q0), (2, .ref q49), (3, .int (nI i))] → W p l e R s m args below meth c H locs cells slots Q (F0 m 1297 ls [])) : hG tb_m169 p l e R s m args below meth c D A cells slots Q 196 [(0, .ref b), (1, .ref q0), (2, .ref q49), (3, .int (nI i))] [] ws := by
  obtain ⟨t, g, u, cc, q, aa, j0, j1, m0, m1, v1, v7, ht, hT, hc5⟩ := heq
  have hc5' := hc5
  obtain ⟨⟨f9, f8⟩, ⟨c0, c4⟩, ⟨q3, q4⟩, ⟨a3, a26⟩, ⟨i0, i0'⟩, ⟨i1, i1'⟩, im0, im1, bm0, bm1⟩ := hc5
  have lo : ∀ z : Int32, -2147483648 ≤ z.toInt := fun z => Int32.le_toInt z
  have hiz : ∀ z : Int32, z.toInt ≤ 2147483647 := fun z => Int32.toInt_le z
  have l0 := lo (sx i); have l1 := lo (sx (i + 1)); have l2 := lo (sx (i + 2)); have l3 := lo (sx (i + 3)); have l4 := lo (sx (i + 4))
  have u0 := hiz (sx i); have u1 := hiz (sx (i + 1)); have u2 := hiz (sx (i + 2)); have u3 := hiz (sx (i + 3)); have u4 := hiz (sx (i + 4))
  have bu : -2147483648 ≤ u ∧ u ≤ 2147483647 := by
    obtain ⟨z, -, h⟩ := f9
    have := ai_irg z
    omega
  have bc : 0 ≤ cc ∧ cc ≤ 4 := vi_f hw c0 rfl rfl
  have bq : 0 ≤ q ∧ q ≤ 6 := vi_f hw q3 rfl rfl
  have ba : 0 ≤ aa ∧ aa ≤ 8 := vi_f hw a3 rfl rfl
  have b0 : 0 ≤ j0 ∧ j0 ≤ 1 := vi_b hw i0 rfl (by decide) rfl
  have b1 : 0 ≤ j1 ∧ j1 ≤ 1 := vi_b hw i1 rfl (by decide) rfl
  have unch : ∀ {ws' : va_W}, ai_wd tb_TY ad tys ws' → ai_fr [] ws ws' → lb_eq ws' := fun {ws'} hw' hf => ⟨t, g, u, cc, q, aa, j0, j1, m0, m1, v1.fr hf rfl, v7.fr hf rfl, ht, hT.fr ht hw' hf rfl rfl, hc5'.fr hf rfl⟩
  by_cases c1 : (sx (i + 1)).toInt < 0
  · exact lb_fin (r := (lb_r i (t : Int) sx u cc q aa j0 j1 m0 m1)) C e0 e49 hi hL rfl fd_r1 rfl ⟨en_mk (by simp only [fd_B, fd_en, lb_r, en_b, and_true]; omega) rfl, sb0, lb_lo_ok (by omega) e0 e49, trivial, hw, kc (v1.kn (n := 2) (t := (t : Int)) rfl (by omega)) (kc (v7.kn (n := 2) (t := (t : Int)) rfl (by omega)) k0), fun _ _ _ _ h => h, fun _ => lb_sx hi⟩ (fun x r' ws' hc hx' g1 hw' hf g6 => ⟨hc, unch hw' hf⟩) k
  · by_cases c2 : 127 < (sx (i + 1)).toInt
    · exact lb_fin (r := (lb_r i (t : Int) sx u cc q aa j0 j1 m0 m1)) C e0 e49 hi hL rfl fd_r2 rfl ⟨en_mk (by simp only [fd_B, fd_en, lb_r, en_b, and_true]; omega) rfl, sb0, lb_lo_ok (by omega) e0 e49, trivial, hw, kc (v1.kn (n := 2) (t := (t : Int)) rfl (by omega)) (kc (v7.kn (n := 2) (t := (t : Int)) rfl (by omega)) k0), fun _ _ _ _ h => h, fun _ => lb_sx hi⟩ (fun x r' ws' hc hx' g1 hw' hf g6 => ⟨hc, unch hw' hf⟩) k
    · by_cases c3 : t = 160
      · have v1 : vi ws 26 1 160 := by rw [c3] at v1; exact v1
        have v7 : vi ws 49 7 160 := by rw [c3] at v7; exact v7
        exact lb_fin (r := (lb_r i (t : Int) sx u cc q aa j0 j1 m0 m1)) C e0 e49 hi hL rfl fd_r3 rfl ⟨en_mk (by simp only [fd_D, fd_en, lb_r, en_b, and_true]; omega) rfl, sb0, lb_lo_ok (by omega) e0 e49, trivial, hw, kc (v1.kn (n := 0) (t := 0) rfl (by omega)) (kc (v7.kn (n := 0) (t := 0) rfl (by omega)) k0), fun _ _ _ _ h => h, fun _ => lb_sx hi⟩ (fun x r' ws' hc hx' g1 hw' hf g6 => ⟨hc, unch hw' hf⟩) k
      · refine lb_fin (r := (lb_r i (t : Int) sx u cc q aa j0 j1 m0 m1)) (st := fd_D t) C e0 e49 hi hL rfl (fd_Dall t (by omega)) rfl ⟨en_mk (by simp only [fd_D, fd_en, lb_r, en_b, and_true]; omega) rfl, sb0, lb_lo_ok (by omega) e0 e49, trivial, hw, kc (v1.kn (n := 0) (t := 0) rfl (by omega)) (kc (v7.kn (n := 0) (t := 0) rfl (by omega)) k0), fun _ _ _ _ h => h, fun _ => lb_sx hi⟩ (fun x r' ws' hc hx' g1 hw' hf g6 => ?_) k
        unfold fd_Dok at hc
        rw [Bool.and_eq_true, Bool.and_eq_true, Bool.and_eq_true, Bool.and_eq_true, decide_eq_true_eq, decide_eq_true_eq, decide_eq_true_eq, decide_eq_true_eq] at hc
        obtain ⟨hlo, o1, o2, o3, o4⟩ := hc
        have r0 : r'[0]? = some 0 := hx'.at rfl
        have r4 : r'[4]? = some (sx (i + 1)).toInt := hx'.at rfl
        have w27 := fx_vi hw' (k := 27) rfl (vi.lk g6 o3 r4 (t := (sx (i + 1)).toInt) (by omega))
        have w52 := fx_vi hw' (k := 52) rfl (vi.lk g6 o4 r4 (t := (sx (i + 1)).toInt) (by omega))
        have off : ∀ (kk j : Nat), (kk = 27 ∨ kk = 52) → j ≠ t → ai_wr (fd_W t) kk j j = false := by
          intro kk j hkk hj
          unfold ai_wr fd_W
          rw [List.any_eq_false]
          intro q hq hx
          simp only [List.mem_cons, List.not_mem_nil, or_false] at hq
          rcases hq with rfl | rfl | rfl | rfl <;> (simp only [Bool.and_eq_true, Bool.or_eq_true, decide_eq_true_eq] at hx; omega)
        refine ⟨hlo, t + 1, fun j => if j = t then (sx (i + 1)).toInt else g j, u, cc, q, aa, j0, j1, m0, m1, vi.lk g6 o1 r0 (by omega), vi.lk g6 o2 r0 (by omega), by omega, ⟨fun j hj => ?_, fun j hj => ?_⟩, hc5'.fr hf (by simp [c5_ok, ai_wr, fd_W])⟩
        · by_cases hjt : j = t
          · rw [hjt, w27]
            show _ = some (if t = t then _ else _)
            rw [if_pos rfl]
          · show _ = some (if j = t then _ else _)
            rw [if_neg hjt]
            exact fr_fx hw' (k := 27) rfl hf (off 27 j (Or.inl rfl) hjt) (hT.1 j hj)
        · by_cases hjt : j = t
          · rw [hjt, w52]
            show _ = some (if t = t then _ else _)
            rw [if_pos rfl]
          · show _ = some (if j = t then _ else _)
            rw [if_neg hjt]
            exact fr_fx hw' (k := 52) rfl hf (off 52 j (Or.inr rfl) hjt) (hT.2 j (by omega))
theorem l2_ok {ws : va_W} {r : List Int} {x : ai_s} {k i k' i' : Nat} (g1 : ai_ok r x.2.2.2.1) (g6 : ai_kn ad b r ws x.2.2.2.2.1) (h : l2 x k i k' i' = true) : ∃ z : Int, vi ws k i z ∧ vi ws k' i' z := by
  obtain ⟨v, w1, h⟩ := ai_anyE h
  rw [Bool.and_eq_true, Bool.and_eq_true, decide_eq_true_eq] at h
  obtain ⟨ev, h2, h3⟩ := h
  have h2 := decide_eq_true_eq.mp h2
  have h3 : v.2.1 < x.2.2.2.1.length := Nat.le_of_ble_eq_true h3
  obtain ⟨z, hz, -⟩ := g1.name (List.getElem?_eq_getElem h3)
  rw [ev] at w1 h2
  exact ⟨z + v.2.2.2, vi.lk g6 w1 hz rfl, vi.lk g6 h2 hz rfl⟩
set_option maxHeartbeats 2000000 in
theorem lb_text (C : ai_cx tb_m169 11 p R s m args c D tys A b L sx cells slots) {q0 q49 : Nat} (e0 : ad[0]? = some q0) (e49 : ad[49]? = some q49) {ws : va_W} (hw : ai_wd tb_TY ad tys ws) (heq : lb_eq ws) {i : Nat} (hi : i + 5 ≤ L) (hL : L ≤ 2560)
    (k : ∀ (ws' : va_W) (H : Heap) (locs : List Loc) (ls : Array Slot), ai_wd tb_TY ad tys ws' → lb_eq ws' → va_P D vwCl ws' H → va_D A ws' → va_S A s.heap H locs → lv_has ls 4 [(0, .ref b), (1, .ref q0), (2, .ref q49), (3, .int (nI i))] → W p l e R s m args below meth c H locs cells slots Q (F0 m 1297 ls [])) : hG tb_m169 p l e R s m args below meth c D A cells slots Q 242 [(0, .ref b), (1, .ref q0), (2, .ref q49), (3, .int (nI i))] [] ws := by
  obtain ⟨t, g, u, cc, q, aa, j0, j1, m0, m1, v1, v7, ht, hT, hc5⟩ := heq
  have hc5' := hc5
  obtain ⟨⟨f9, f8⟩, ⟨c0, c4⟩, ⟨q3, q4⟩, ⟨a3, a26⟩, ⟨i0, i0'⟩, ⟨i1, i1'⟩, im0, im1, bm0, bm1⟩ := hc5
  have lo : ∀ z : Int32, -2147483648 ≤ z.toInt := fun z => Int32.le_toInt z
  have hiz : ∀ z : Int32, z.toInt ≤ 2147483647 := fun z => Int32.toInt_le z
  have l0 := lo (sx i); have l1 := lo (sx (i + 1)); have l2 := lo (sx (i + 2)); have l3 := lo (sx (i + 3)); have l4 := lo (sx (i + 4))
  have u0 := hiz (sx i); have u1 := hiz (sx (i + 1)); have u2 := hiz (sx (i + 2)); have u3 := hiz (sx (i + 3)); have u4 := hiz (sx (i + 4))
  have bu : -2147483648 ≤ u ∧ u ≤ 2147483647 := by
    obtain ⟨z, -, h⟩ := f9
    have := ai_irg z
    omega
  have bc : 0 ≤ cc ∧ cc ≤ 4 := vi_f hw c0 rfl rfl
  have bq : 0 ≤ q ∧ q ≤ 6 := vi_f hw q3 rfl rfl
  have ba : 0 ≤ aa ∧ aa ≤ 8 := vi_f hw a3 rfl rfl
  have b0 : 0 ≤ j0 ∧ j0 ≤ 1 := vi_b hw i0 rfl (by decide) rfl
  have b1 : 0 ≤ j1 ∧ j1 ≤ 1 := vi_b hw i1 rfl (by decide) rfl
  have unch : ∀ {ws' : va_W}, ai_wd tb_TY ad tys ws' → ai_fr [] ws ws' → lb_eq ws' := fun {ws'} hw' hf => ⟨t, g, u, cc, q, aa, j0, j1, m0, m1, v1.fr hf rfl, v7.fr hf rfl, ht, hT.fr ht hw' hf rfl rfl, hc5'.fr hf rfl⟩
  refine lb_finX (r := (lb_r i (t : Int) sx u cc q aa j0 j1 m0 m1)) C e0 e49 hi hL rfl lt_r rfl ⟨en_mk (by simp only [lt_st, fd_en, lb_r, en_b, and_true]; omega) rfl, f350 rfl hT.1 hT.2, lb_lo_ok (by omega) e0 e49, trivial, hw, kc (v1.kn (n := 2) (t := (t : Int)) rfl (by omega)) (kc (v7.kn (n := 2) (t := (t : Int)) rfl (by omega)) (kc (f9.kn (n := 8) (t := u) rfl (by omega)) (kc (f8.kn (n := 8) (t := u) rfl (by omega)) (kc (c0.kn (n := 9) (t := cc) rfl (by omega)) (kc (c4.kn (n := 9) (t := cc) rfl (by omega)) (kc (q3.kn (n := 10) (t := q) rfl (by omega)) (kc (q4.kn (n := 10) (t := q) rfl (by omega)) (kc (a3.kn (n := 11) (t := aa) rfl (by omega)) (kc (a26.kn (n := 11) (t := aa) rfl (by omega)) (kc (i0.kn (n := 12) (t := j0) rfl (by omega)) (kc (i0'.kn (n := 12) (t := j0) rfl (by omega)) (kc (i1.kn (n := 13) (t := j1) rfl (by omega)) (kc (i1'.kn (n := 13) (t := j1) rfl (by omega)) k0))))))))))))), fun _ _ _ _ h => h, fun _ => lb_sx hi⟩ (fun x r' ws' hc hx' g1 hw' hf g6 => ?_) k
  unfold lt_ok at hc
  rw [Bool.and_eq_true, Bool.and_eq_true, Bool.and_eq_true, Bool.and_eq_true, Bool.and_eq_true, Bool.and_eq_true, Bool.and_eq_true, Bool.or_eq_true] at hc
  obtain ⟨hlo, o1, o2, o3, o4, o5, o5', o6⟩ := hc
  have r0 : r'[0]? = some 0 := hx'.at rfl
  obtain ⟨uu, p1, p2⟩ := l2_ok g1 g6 o3
  obtain ⟨c2, p3, p4⟩ := l2_ok g1 g6 o4
  obtain ⟨q2, p5, p6⟩ := l2_ok g1 g6 o5
  obtain ⟨a2, p8, p9⟩ := l2_ok g1 g6 o5'
  have hT' := hT.fr ht hw' hf (by decide) (by decide)
  have z1 : vi ws' 26 1 ((0 : Nat) : Int) := vi.lk g6 (decide_eq_true_eq.mp o1) r0 (by omega)
  have z7 : vi ws' 49 7 ((0 : Nat) : Int) := vi.lk g6 (decide_eq_true_eq.mp o2) r0 (by omega)
  rcases o6 with o6 | o6
  · rw [Bool.and_eq_true, Bool.and_eq_true, Bool.and_eq_true, Bool.and_eq_true] at o6
    obtain ⟨s0, s1, s2, s3, s4⟩ := o6
    have r9 : r'[9]? = some cc := hx'.at rfl
    have r11 : r'[12]? = some j0 := hx'.at rfl
    have r12 : r'[13]? = some j1 := hx'.at rfl
    have p7 : vi ws' 1 0 cc := vi.lk g6 (decide_eq_true_eq.mp s0) r9 (by omega)
    have ecc : c2 = cc := by
      obtain ⟨a, a1, a2⟩ := p3
      obtain ⟨a', a3, a4⟩ := p7
      have := a1.fun a3
      cases this
      omega
    subst ecc
    exact ⟨hlo, 0, g, uu, c2, q2, a2, j0, j1, m0, m1, z1, z7, Nat.zero_le _, ⟨hT'.1, fun i hi => absurd hi (Nat.not_lt_zero _)⟩, ⟨p1, p2⟩, ⟨p3, p4⟩, ⟨p5, p6⟩, ⟨p8, p9⟩, ⟨vi.lk g6 (decide_eq_true_eq.mp s1) r11 (by omega), vi.lk g6 (decide_eq_true_eq.mp s2) r11 (by omega)⟩, ⟨vi.lk g6 (decide_eq_true_eq.mp s3) r12 (by omega), vi.lk g6 (decide_eq_true_eq.mp s4) r12 (by omega)⟩, fun h => ⟨(im0 h).1.fr hf (by decide), (im0 h).2.1.fr hf (by decide), (im0 h).2.2.fr hf (by decide)⟩, fun h => ⟨(im1 h).1.fr hf (by decide), (im1 h).2.1.fr hf (by decide), (im1 h).2.2.fr hf (by decide)⟩, bm0, bm1⟩
  · rw [Bool.and_eq_true, Bool.and_eq_true, Bool.and_eq_true] at o6
    obtain ⟨s1, s2, s3, s4⟩ := o6
    exact ⟨hlo, 0, g, uu, c2, q2, a2, 0, 0, 0, 0, z1, z7, Nat.zero_le _, ⟨hT'.1, fun i hi => absurd hi (Nat.not_lt_zero _)⟩, ⟨p1, p2⟩, ⟨p3, p4⟩, ⟨p5, p6⟩, ⟨p8, p9⟩, ⟨vi.lk g6 (decide_eq_true_eq.mp s1) r0 (by omega), vi.lk g6 (decide_eq_true_eq.mp s2) r0 (by omega)⟩, ⟨vi.lk g6 (decide_eq_true_eq.mp s3) r0 (by omega), vi.lk g6 (decide_eq_true_eq.mp s4) r0 (by omega)⟩, fun h => absurd h (by decide), fun h => absurd h (by decide), by decide, by decide⟩
set_option maxHeartbeats 2000000 in
theorem lb_keep (C : ai_cx tb_m169 11 p R s m args c D tys A b L sx cells slots) {q0 q49 : Nat} (e0 : ad[0]? = some q0) (e49 : ad[49]? = some q49) {ws : va_W} (hw : ai_wd tb_TY ad tys ws) (heq : lb_eq ws) {i : Nat} (hi : i + 5 ≤ L) (hL : L ≤ 2560)
    (k : ∀ (ws' : va_W) (H : Heap) (locs : List Loc) (ls : Array Slot), ai_wd tb_TY ad tys ws' → lb_eq ws' → va_P D vwCl ws' H → va_D A ws' → va_S A s.heap H locs → lv_has ls 4 [(0, .ref b), (1, .ref q0), (2, .ref q49), (3, .int (nI i))] → W p l e R s m args below meth c H locs cells slots Q (F0 m 1297 ls [])) : hG tb_m169 p l e R s m args below meth c D A cells slots Q 1076 [(0, .ref b), (1, .ref q0), (2, .ref q49), (3, .int (nI i))] [] ws := by
  obtain ⟨t, g, u, cc, q, aa, j0, j1, m0, m1, v1, v7, ht, hT, hc5⟩ := heq
  have hc5' := hc5
  obtain ⟨⟨f9, f8⟩, ⟨c0, c4⟩, ⟨q3, q4⟩, ⟨a3, a26⟩, ⟨i0, i0'⟩, ⟨i1, i1'⟩, im0, im1, bm0, bm1⟩ := hc5
  have lo : ∀ z : Int32, -2147483648 ≤ z.toInt := fun z => Int32.le_toInt z
  have hiz : ∀ z : Int32, z.toInt ≤ 2147483647 := fun z => Int32.toInt_le z
  have l0 := lo (sx i); have l1 := lo (sx (i + 1)); have l2 := lo (sx (i + 2)); have l3 := lo (sx (i + 3)); have l4 := lo (sx (i + 4))
  have u0 := hiz (sx i); have u1 := hiz (sx (i + 1)); have u2 := hiz (sx (i + 2)); have u3 := hiz (sx (i + 3)); have u4 := hiz (sx (i + 4))
  have bu : -2147483648 ≤ u ∧ u ≤ 2147483647 := by
    obtain ⟨z, -, h⟩ := f9
    have := ai_irg z
    omega
  have bc : 0 ≤ cc ∧ cc ≤ 4 := vi_f hw c0 rfl rfl
  have bq : 0 ≤ q ∧ q ≤ 6 := vi_f hw q3 rfl rfl
  have ba : 0 ≤ aa ∧ aa ≤ 8 := vi_f hw a3 rfl rfl
  have b0 : 0 ≤ j0 ∧ j0 ≤ 1 := vi_b hw i0 rfl (by decide) rfl
  have b1 : 0 ≤ j1 ∧ j1 ≤ 1 := vi_b hw i1 rfl (by decide) rfl
  have unch : ∀ {ws' : va_W}, ai_wd tb_TY ad tys ws' → ai_fr [] ws ws' → lb_eq ws' := fun {ws'} hw' hf => ⟨t, g, u, cc, q, aa, j0, j1, m0, m1, v1.fr hf rfl, v7.fr hf rfl, ht, hT.fr ht hw' hf rfl rfl, hc5'.fr hf rfl⟩
  by_cases c1 : (sx (i + 1)).toInt < 0
  · exact lb_fin (r := (lb_r i (t : Int) sx u cc q aa j0 j1 m0 m1)) C e0 e49 hi hL rfl kp_r1 rfl ⟨en_mk (by simp only [fd_B, fd_en, lb_r, en_b, and_true]; omega) rfl, sb0, lb_lo_ok (by omega) e0 e49, trivial, hw, kc (v1.kn (n := 2) (t := (t : Int)) rfl (by omega)) (kc (v7.kn (n := 2) (t := (t : Int)) rfl (by omega)) k0), fun _ _ _ _ h => h, fun _ => lb_sx hi⟩ (fun x r' ws' hc hx' g1 hw' hf g6 => ⟨hc, unch hw' hf⟩) k
  · by_cases c2 : 1 < (sx (i + 1)).toInt
    · exact lb_fin (r := (lb_r i (t : Int) sx u cc q aa j0 j1 m0 m1)) C e0 e49 hi hL rfl kp_r2 rfl ⟨en_mk (by simp only [fd_B, fd_en, lb_r, en_b, and_true]; omega) rfl, sb0, lb_lo_ok (by omega) e0 e49, trivial, hw, kc (v1.kn (n := 2) (t := (t : Int)) rfl (by omega)) (kc (v7.kn (n := 2) (t := (t : Int)) rfl (by omega)) k0), fun _ _ _ _ h => h, fun _ => lb_sx hi⟩ (fun x r' ws' hc hx' g1 hw' hf g6 => ⟨hc, unch hw' hf⟩) k
    · by_cases c3 : (sx (i + 1)).toInt = 0
      · refine lb_fin (r := (lb_r i (t : Int) sx u cc q aa j0 j1 m0 m1)) (st := kp_st 0) C e0 e49 hi hL rfl (List.all_eq_true.mp kp_r3 0 (by decide)) rfl ⟨en_mk (by simp only [kp_st, fd_en, lb_r, en_b, and_true]; omega) rfl, sb0, lb_lo_ok (by omega) e0 e49, trivial, hw, kc (i0.kn (n := 12) (t := j0) rfl (by omega)) (kc (i0'.kn (n := 12) (t := j0) rfl (by omega)) (kc (c0.kn (n := 9) (t := cc) rfl (by omega)) (kc (a3.kn (n := 11) (t := aa) rfl (by omega)) (kc (a26.kn (n := 11) (t := aa) rfl (by omega)) k0)))), fun _ _ _ _ h => h, fun _ => lb_sx hi⟩ (fun x r' ws' hc hx' g1 hw' hf g6 => ?_) k
        unfold kp_ok at hc
        rw [Bool.and_eq_true, Bool.and_eq_true, Bool.and_eq_true, Bool.and_eq_true, Bool.and_eq_true] at hc
        obtain ⟨hlo, o1, o2, o3, o4, o5⟩ := hc
        have r11 : r'[11]? = some aa := hx'.at rfl
        have r0 : r'[0]? = some 0 := hx'.at rfl
        have r9 : r'[9]? = some cc := hx'.at rfl
        exact ⟨hlo, t, g, u, cc, q, aa, 1, j1, aa, m1, v1.fr hf (by decide), v7.fr hf (by decide), ht, hT.fr ht hw' hf (by decide) (by decide), ⟨f9.fr hf (by decide), f8.fr hf (by decide)⟩, ⟨c0.fr hf (by decide), c4.fr hf (by decide)⟩, ⟨q3.fr hf (by decide), q4.fr hf (by decide)⟩, ⟨a3.fr hf (by decide), a26.fr hf (by decide)⟩, ⟨vi.lk g6 (decide_eq_true_eq.mp o1) r0 (by omega), vi.lk g6 (decide_eq_true_eq.mp o2) r0 (by omega)⟩, ⟨i1.fr hf (by decide), i1'.fr hf (by decide)⟩, fun _ => ⟨vi.lk g6 (decide_eq_true_eq.mp o3) r9 (by omega), vi.lk g6 (decide_eq_true_eq.mp o4) r11 (by omega), vi.lk g6 (decide_eq_true_eq.mp o5) r11 (by omega)⟩, fun h => ⟨(im1 h).1.fr hf (by decide), (im1 h).2.1.fr hf (by decide), (im1 h).2.2.fr hf (by decide)⟩, ba, bm1⟩
      · have c3' : (sx (i + 1)).toInt = 1 := by omega
        refine lb_fin (r := (lb_r i (t : Int) sx u cc q aa j0 j1 m0 m1)) (st := kp_st 1) C e0 e49 hi hL rfl (List.all_eq_true.mp kp_r3 1 (by decide)) rfl ⟨en_mk (by simp only [kp_st, fd_en, lb_r, en_b, and_true]; omega) rfl, sb0, lb_lo_ok (by omega) e0 e49, trivial, hw, kc (i1.kn (n := 13) (t := j1) rfl (by omega)) (kc (i1'.kn (n := 13) (t := j1) rfl (by omega)) (kc (c0.kn (n := 9) (t := cc) rfl (by omega)) (kc (a3.kn (n := 11) (t := aa) rfl (by omega)) (kc (a26.kn (n := 11) (t := aa) rfl (by omega)) k0)))), fun _ _ _ _ h => h, fun _ => lb_sx hi⟩ (fun x r' ws' hc hx' g1 hw' hf g6 => ?_) k
        unfold kp_ok at hc
        rw [Bool.and_eq_true, Bool.and_eq_true, Bool.and_eq_true, Bool.and_eq_true, Bool.and_eq_true] at hc
        obtain ⟨hlo, o1, o2, o3, o4, o5⟩ := hc
        have r11 : r'[11]? = some aa := hx'.at rfl
        have r0 : r'[0]? = some 0 := hx'.at rfl
        have r9 : r'[9]? = some cc := hx'.at rfl
        exact ⟨hlo, t, g, u, cc, q, aa, j0, 1, m0, aa, v1.fr hf (by decide), v7.fr hf (by decide), ht, hT.fr ht hw' hf (by decide) (by decide), ⟨f9.fr hf (by decide), f8.fr hf (by decide)⟩, ⟨c0.fr hf (by decide), c4.fr hf (by decide)⟩, ⟨q3.fr hf (by decide), q4.fr hf (by decide)⟩, ⟨a3.fr hf (by decide), a26.fr hf (by decide)⟩, ⟨i0.fr hf (by decide), i0'.fr hf (by decide)⟩, ⟨vi.lk g6 (decide_eq_true_eq.mp o1) r0 (by omega), vi.lk g6 (decide_eq_true_eq.mp o2) r0 (by omega)⟩, fun h => ⟨(im0 h).1.fr hf (by decide), (im0 h).2.1.fr hf (by decide), (im0 h).2.2.fr hf (by decide)⟩, fun _ => ⟨vi.lk g6 (decide_eq_true_eq.mp o3) r9 (by omega), vi.lk g6 (decide_eq_true_eq.mp o4) r11 (by omega), vi.lk g6 (decide_eq_true_eq.mp o5) r11 (by omega)⟩, bm0, ba⟩
set_option maxHeartbeats 2000000 in
theorem lb_back (C : ai_cx tb_m169 11 p R s m args c D tys A b L sx cells slots) {q0 q49 : Nat} (e0 : ad[0]? = some q0) (e49 : ad[49]? = some q49) {ws : va_W} (hw : ai_wd tb_TY ad tys ws) (heq : lb_eq ws) {i : Nat} (hi : i + 5 ≤ L) (hL : L ≤ 2560)
    (k : ∀ (ws' : va_W) (H : Heap) (locs : List Loc) (ls : Array Slot), ai_wd tb_TY ad tys ws' → lb_eq ws' → va_P D vwCl ws' H → va_D A ws' → va_S A s.heap H locs → lv_has ls 4 [(0, .ref b), (1, .ref q0), (2, .ref q49), (3, .int (nI i))] → W p l e R s m args below meth c H locs cells slots Q (F0 m 1297 ls [])) : hG tb_m169 p l e R s m args below meth c D A cells slots Q 1099 [(0, .ref b), (1, .ref q0), (2, .ref q49), (3, .int (nI i))] [] ws := by
  obtain ⟨t, g, u, cc, q, aa, j0, j1, m0, m1, v1, v7, ht, hT, hc5⟩ := heq
  have hc5' := hc5
  obtain ⟨⟨f9, f8⟩, ⟨c0, c4⟩, ⟨q3, q4⟩, ⟨a3, a26⟩, ⟨i0, i0'⟩, ⟨i1, i1'⟩, im0, im1, bm0, bm1⟩ := hc5
  have lo : ∀ z : Int32, -2147483648 ≤ z.toInt := fun z => Int32.le_toInt z
  have hiz : ∀ z : Int32, z.toInt ≤ 2147483647 := fun z => Int32.toInt_le z
  have l0 := lo (sx i); have l1 := lo (sx (i + 1)); have l2 := lo (sx (i + 2)); have l3 := lo (sx (i + 3)); have l4 := lo (sx (i + 4))
  have u0 := hiz (sx i); have u1 := hiz (sx (i + 1)); have u2 := hiz (sx (i + 2)); have u3 := hiz (sx (i + 3)); have u4 := hiz (sx (i + 4))
  have bu : -2147483648 ≤ u ∧ u ≤ 2147483647 := by
    obtain ⟨z, -, h⟩ := f9
    have := ai_irg z
    omega
  have bc : 0 ≤ cc ∧ cc ≤ 4 := vi_f hw c0 rfl rfl
  have bq : 0 ≤ q ∧ q ≤ 6 := vi_f hw q3 rfl rfl
  have ba : 0 ≤ aa ∧ aa ≤ 8 := vi_f hw a3 rfl rfl
  have b0 : 0 ≤ j0 ∧ j0 ≤ 1 := vi_b hw i0 rfl (by decide) rfl
  have b1 : 0 ≤ j1 ∧ j1 ≤ 1 := vi_b hw i1 rfl (by decide) rfl
  have unch : ∀ {ws' : va_W}, ai_wd tb_TY ad tys ws' → ai_fr [] ws ws' → lb_eq ws' := fun {ws'} hw' hf => ⟨t, g, u, cc, q, aa, j0, j1, m0, m1, v1.fr hf rfl, v7.fr hf rfl, ht, hT.fr ht hw' hf rfl rfl, hc5'.fr hf rfl⟩
  by_cases c1 : (sx (i + 1)).toInt < 0
  · exact lb_fin (r := (lb_r i (t : Int) sx u cc q aa j0 j1 m0 m1)) C e0 e49 hi hL rfl bk_r1 rfl ⟨en_mk (by simp only [fd_B, fd_en, lb_r, en_b, and_true]; omega) rfl, sb0, lb_lo_ok (by omega) e0 e49, trivial, hw, kc (v1.kn (n := 2) (t := (t : Int)) rfl (by omega)) (kc (v7.kn (n := 2) (t := (t : Int)) rfl (by omega)) k0), fun _ _ _ _ h => h, fun _ => lb_sx hi⟩ (fun x r' ws' hc hx' g1 hw' hf g6 => ⟨hc, unch hw' hf⟩) k
  · by_cases c2 : 1 < (sx (i + 1)).toInt
    · exact lb_fin (r := (lb_r i (t : Int) sx u cc q aa j0 j1 m0 m1)) C e0 e49 hi hL rfl bk_r2 rfl ⟨en_mk (by simp only [fd_B, fd_en, lb_r, en_b, and_true]; omega) rfl, sb0, lb_lo_ok (by omega) e0 e49, trivial, hw, kc (v1.kn (n := 2) (t := (t : Int)) rfl (by omega)) (kc (v7.kn (n := 2) (t := (t : Int)) rfl (by omega)) k0), fun _ _ _ _ h => h, fun _ => lb_sx hi⟩ (fun x r' ws' hc hx' g1 hw' hf g6 => ⟨hc, unch hw' hf⟩) k
    · by_cases c3 : (sx (i + 1)).toInt = 0
      · by_cases ck : j0 = 1
        · refine lb_fin (r := (lb_r i (t : Int) sx u cc q aa j0 j1 m0 m1)) (st := bk_st1 0) C e0 e49 hi hL rfl (List.all_eq_true.mp bk_r4 0 (by decide)) rfl ⟨en_mk (by simp only [bk_st1, fd_en, lb_r, en_b, and_true]; omega) rfl, sb0, lb_lo_ok (by omega) e0 e49, trivial, hw, kc (i0.kn (n := 0) (t := 0) rfl (by omega)) (kc (i0'.kn (n := 0) (t := 0) rfl (by omega)) (kc ((im0 ck).1.kn (n := 9) (t := cc) rfl (by omega)) (kc ((im0 ck).2.1.kn (n := 14) (t := m0) rfl (by omega)) (kc ((im0 ck).2.2.kn (n := 14) (t := m0) rfl (by omega)) k0)))), fun _ _ _ _ h => h, fun _ => lb_sx hi⟩ (fun x r' ws' hc hx' g1 hw' hf g6 => ?_) k
          rw [Bool.and_eq_true, Bool.and_eq_true, Bool.and_eq_true] at hc
          have r9 : r'[9]? = some cc := hx'.at rfl
          have r14 : r'[14]? = some m0 := hx'.at rfl
          exact ⟨hc.1, t, g, u, cc, q, m0, j0, j1, m0, m1, v1.fr hf (by decide), v7.fr hf (by decide), ht, hT.fr ht hw' hf (by decide) (by decide), ⟨f9.fr hf (by decide), f8.fr hf (by decide)⟩, ⟨vi.lk g6 (decide_eq_true_eq.mp hc.2.1) r9 (by omega), c4.fr hf (by decide)⟩, ⟨q3.fr hf (by decide), q4.fr hf (by decide)⟩, ⟨vi.lk g6 (decide_eq_true_eq.mp hc.2.2.1) r14 (by omega), vi.lk g6 (decide_eq_true_eq.mp hc.2.2.2) r14 (by omega)⟩, ⟨i0.fr hf (by decide), i0'.fr hf (by decide)⟩, ⟨i1.fr hf (by decide), i1'.fr hf (by decide)⟩, fun h => ⟨(im0 h).1.fr hf (by decide), (im0 h).2.1.fr hf (by decide), (im0 h).2.2.fr hf (by decide)⟩, fun h => ⟨(im1 h).1.fr hf (by decide), (im1 h).2.1.fr hf (by decide), (im1 h).2.2.fr hf (by decide)⟩, bm0, bm1⟩
        · exact lb_fin (r := (lb_r i (t : Int) sx u cc q aa j0 j1 m0 m1)) (st := bk_st0 0) C e0 e49 hi hL rfl (List.all_eq_true.mp bk_r3 0 (by decide)) rfl ⟨en_mk (by simp only [bk_st0, fd_en, lb_r, en_b, and_true]; omega) rfl, sb0, lb_lo_ok (by omega) e0 e49, trivial, hw, kc (i0.kn (n := 0) (t := 0) rfl (by omega)) (kc (i0'.kn (n := 0) (t := 0) rfl (by omega)) k0), fun _ _ _ _ h => h, fun _ => lb_sx hi⟩ (fun x r' ws' hc hx' g1 hw' hf g6 => ⟨hc, unch hw' hf⟩) k
      · have c3' : (sx (i + 1)).toInt = 1 := by omega
        by_cases ck : j1 = 1
        · refine lb_fin (r := (lb_r i (t : Int) sx u cc q aa j0 j1 m0 m1)) (st := bk_st1 1) C e0 e49 hi hL rfl (List.all_eq_true.mp bk_r4 1 (by decide)) rfl ⟨en_mk (by simp only [bk_st1, fd_en, lb_r, en_b, and_true]; omega) rfl, sb0, lb_lo_ok (by omega) e0 e49, trivial, hw, kc (i1.kn (n := 0) (t := 0) rfl (by omega)) (kc (i1'.kn (n := 0) (t := 0) rfl (by omega)) (kc ((im1 ck).1.kn (n := 9) (t := cc) rfl (by omega)) (kc ((im1 ck).2.1.kn (n := 15) (t := m1) rfl (by omega)) (kc ((im1 ck).2.2.kn (n := 15) (t := m1) rfl (by omega)) k0)))), fun _ _ _ _ h => h, fun _ => lb_sx hi⟩ (fun x r' ws' hc hx' g1 hw' hf g6 => ?_) k
          rw [Bool.and_eq_true, Bool.and_eq_true, Bool.and_eq_true] at hc
          have r9 : r'[9]? = some cc := hx'.at rfl
          have r14 : r'[15]? = some m1 := hx'.at rfl
          exact ⟨hc.1, t, g, u, cc, q, m1, j0, j1, m0, m1, v1.fr hf (by decide), v7.fr hf (by decide), ht, hT.fr ht hw' hf (by decide) (by decide), ⟨f9.fr hf (by decide), f8.fr hf (by decide)⟩, ⟨vi.lk g6 (decide_eq_true_eq.mp hc.2.1) r9 (by omega), c4.fr hf (by decide)⟩, ⟨q3.fr hf (by decide), q4.fr hf (by decide)⟩, ⟨vi.lk g6 (decide_eq_true_eq.mp hc.2.2.1) r14 (by omega), vi.lk g6 (decide_eq_true_eq.mp hc.2.2.2) r14 (by omega)⟩, ⟨i0.fr hf (by decide), i0'.fr hf (by decide)⟩, ⟨i1.fr hf (by decide), i1'.fr hf (by decide)⟩, fun h => ⟨(im0 h).1.fr hf (by decide), (im0 h).2.1.fr hf (by decide), (im0 h).2.2.fr hf (by decide)⟩, fun h => ⟨(im1 h).1.fr hf (by decide), (im1 h).2.1.fr hf (by decide), (im1 h).2.2.fr hf (by decide)⟩, bm0, bm1⟩
        · exact lb_fin (r := (lb_r i (t : Int) sx u cc q aa j0 j1 m0 m1)) (st := bk_st0 1) C e0 e49 hi hL rfl (List.all_eq_true.mp bk_r3 1 (by decide)) rfl ⟨en_mk (by simp only [bk_st0, fd_en, lb_r, en_b, and_true]; omega) rfl, sb0, lb_lo_ok (by omega) e0 e49, trivial, hw, kc (i1.kn (n := 0) (t := 0) rfl (by omega)) (kc (i1'.kn (n := 0) (t := 0) rfl (by omega)) k0), fun _ _ _ _ h => h, fun _ => lb_sx hi⟩ (fun x r' ws' hc hx' g1 hw' hf g6 => ⟨hc, unch hw' hf⟩) k
set_option maxHeartbeats 2000000 in
theorem lb_round (hall : lb_alls) (C : ai_cx tb_m169 11 p R s m args c D tys A b L sx cells slots) {q0 q49 : Nat} (e0 : ad[0]? = some q0) (e49 : ad[49]? = some q49) {ws : va_W} {H : Heap} {locs : List Loc} {ls : Array Slot} (hw : ai_wd tb_TY ad tys ws) (heq : lb_eq ws) (hP : va_P D vwCl ws H) (hD : va_D A ws) (hS : va_S A s.heap H locs) {i : Nat} (hi : i + 5 ≤ L) (hL : L ≤ 2560) (hl : lv_has ls 4 [(0, .ref b), (1, .ref q0), (2, .ref q49), (3, .int (nI i))])
    (k : ∀ (ws : va_W) (H : Heap) (locs : List Loc) (ls : Array Slot), ai_wd tb_TY ad tys ws → lb_eq ws → va_P D vwCl ws H → va_D A ws → va_S A s.heap H locs → lv_has ls 4 [(0, .ref b), (1, .ref q0), (2, .ref q49), (3, .int (nI i))] → W p l e R s m args below meth c H locs cells slots Q (F0 m 1297 ls [])) : W p l e R s m args below meth c H locs cells slots Q (F0 m 26 ls []) := by
  obtain ⟨t, g, u, cc, q, aa, j0, j1, m0, m1, v1, v7, ht, hT, hc5⟩ := heq
  have hc5' := hc5
  obtain ⟨⟨f9, f8⟩, ⟨c0, c4⟩, ⟨q3, q4⟩, ⟨a3, a26⟩, ⟨i0, i0'⟩, ⟨i1', i1''⟩, im0, im1, bm0, bm1⟩ := hc5
  have bu : -2147483648 ≤ u ∧ u ≤ 2147483647 := by
    obtain ⟨z, -, h⟩ := f9
    have := ai_irg z
    omega
  have bc : 0 ≤ cc ∧ cc ≤ 4 := vi_f hw c0 rfl rfl
  have bq : 0 ≤ q ∧ q ≤ 6 := vi_f hw q3 rfl rfl
  have ba : 0 ≤ aa ∧ aa ≤ 8 := vi_f hw a3 rfl rfl
  have lo : ∀ z : Int32, -2147483648 ≤ z.toInt := fun z => Int32.le_toInt z
  have hiz : ∀ z : Int32, z.toInt ≤ 2147483647 := fun z => Int32.toInt_le z
  have l0 := lo (sx i); have l1 := lo (sx (i + 1)); have l2 := lo (sx (i + 2)); have l3 := lo (sx (i + 3)); have l4 := lo (sx (i + 4))
  have u0 := hiz (sx i); have u1 := hiz (sx (i + 1)); have u2 := hiz (sx (i + 2)); have u3 := hiz (sx (i + 3)); have u4 := hiz (sx (i + 4))
  have key := lb_go (l := l) (e := e) (below := below) (meth := meth) (Q := Q) (w0 := ws) (ad := ad) (r0 := [0, (i : Int), (t : Int), (sx i).toInt, (sx (i + 1)).toInt, (sx (i + 2)).toInt, (sx (i + 3)).toInt, (sx (i + 4)).toInt, u, cc, q, aa]) hall C (fun y hy => ?_) (fun y pc hpc hy => ?_)
  · exact key [0, (i : Int), (t : Int), (sx i).toInt, (sx (i + 1)).toInt, (sx (i + 2)).toInt, (sx (i + 3)).toInt, (sx (i + 4)).toInt, u, cc, q, aa] [(0, .ref b), (1, .ref q0), (2, .ref q49), (3, .int (nI i))] [] ws H locs ls ai_x.rf ⟨en_mk (by simp only [lb_st, en_b, and_true]; omega) rfl, f350 rfl hT.1 hT.2, lb_lo_ok' (by omega) e0 e49, trivial, hw, kc (v1.kn (n := 2) (t := (t : Int)) rfl (by omega)) (kc (v7.kn (n := 2) (t := (t : Int)) rfl (by omega)) (kc (f9.kn (n := 8) (t := u) rfl (by omega)) (kc (f8.kn (n := 8) (t := u) rfl (by omega)) (kc (c0.kn (n := 9) (t := cc) rfl (by omega)) (kc (c4.kn (n := 9) (t := cc) rfl (by omega)) (kc (q3.kn (n := 10) (t := q) rfl (by omega)) (kc (q4.kn (n := 10) (t := q) rfl (by omega)) (kc (a3.kn (n := 11) (t := aa) rfl (by omega)) (kc (a26.kn (n := 11) (t := aa) rfl (by omega)) k0))))))))), fun _ _ _ _ h => h, fun _ => lb_sx' hi⟩ hP hD hS hl
  · intro r lv sk ws' H' locs' ls' hx g' hP' hD' hS' hl'
    obtain ⟨g1, g2, g3, g4, g5, g6, g7, g8⟩ := g'
    unfold lb_ok4 lb_okE at hy
    simp only [Bool.and_eq_true, decide_eq_true_eq] at hy
    obtain ⟨⟨⟨⟨⟨⟨⟨y1, y2⟩, y3⟩, y4⟩, y5⟩, y6⟩, y7⟩, y8, n1, ⟨n2a, n2b⟩, n3, n4⟩ := hy
    have hsk : sk = [] := by
      rw [List.isEmpty_iff.mp y2] at g4
      exact g4.nil
    subst hsk
    have hr1 : r[1]? = some (i : Int) := hx.at rfl
    have hr2 : r[2]? = some (t : Int) := hx.at rfl
    have hr0 : r[0]? = some 0 := hx.at rfl
    obtain ⟨v, w1, w2⟩ := ai_anyE y7
    simp only [Bool.and_eq_true, decide_eq_true_eq] at w2
    obtain ⟨w2, w3⟩ := w2
    obtain ⟨pp, w4, w5⟩ := ai_anyE w3
    simp only [Bool.and_eq_true, decide_eq_true_eq] at w5
    obtain ⟨v', w1', w6⟩ := ai_anyE y8
    cases Option.some.inj (w1.symm.trans w1')
    rw [Bool.and_eq_true, decide_eq_true_eq, Bool.or_eq_true, Bool.or_eq_true, Bool.or_eq_true, ai_beq, ai_beq] at w6
    obtain ⟨ev, w6⟩ := w6
    obtain ⟨x1, s1, c1⟩ := ai_lk_ok g6 w1
    obtain ⟨x2, s2, c2⟩ := ai_lk_ok g6 w2
    obtain ⟨-, z1, i1, u1, rfl, u2, u3, u4⟩ := ai_i_ok g1 c1 w4
    obtain ⟨-, z2, i2, u5, rfl, u6, u7, u8⟩ := ai_i_ok g1 c2 w4
    have hii : i1 = i2 := Int32.toInt_inj.mp (by rw [u2, u6, Option.some.inj (u1.symm.trans u5)])
    subst hii
    have hv3 : v.2.2.2 = 0 := by rw [ev]
    have hle : i1.toInt ≤ t := by
      rcases w6 with w6 | w6 | w6 | w6
      · rw [w6, hr0] at u1
        cases u1
        omega
      · rw [w6, hr2] at u1
        cases u1
        omega
      · have := av_f5 g2 hr2 u1 w6
        omega
      · have := av_f4 g2 u1 hr2 w6
        omega
    have hT' := hT.fr ht g5 g7 nowr4.1 nowr4.2
    obtain ⟨uu, p1, p2⟩ := l2_ok g1 g6 n1
    obtain ⟨q2, p5, p6⟩ := l2_ok g1 g6 n3
    obtain ⟨a2', p8, p9⟩ := l2_ok g1 g6 n4
    have r9 : r[9]? = some cc := hx.at rfl
    have p3 : vi ws' 1 0 cc := vi.lk g6 (decide_eq_true_eq.mp n2a) r9 (by omega)
    have p4 : vi ws' 49 1 cc := vi.lk g6 (decide_eq_true_eq.mp n2b) r9 (by omega)
    rw [y1]
    exact k ws' H' locs' ls' g5 ⟨i1.toInt.toNat, g, uu, cc, q2, a2', j0, j1, m0, m1, ⟨i1, s1, by omega⟩, ⟨i1, s2, by omega⟩, by omega, ⟨hT'.1, fun j hj => hT'.2 j (by omega)⟩, ⟨p1, p2⟩, ⟨p3, p4⟩, ⟨p5, p6⟩, ⟨p8, p9⟩, ⟨i0.fr g7 (by decide), i0'.fr g7 (by decide)⟩, ⟨i1'.fr g7 (by decide), i1''.fr g7 (by decide)⟩, fun h => ⟨(im0 h).1.fr g7 (by decide), (im0 h).2.1.fr g7 (by decide), (im0 h).2.2.fr g7 (by decide)⟩, fun h => ⟨(im1 h).1.fr g7 (by decide), (im1 h).2.1.fr g7 (by decide), (im1 h).2.2.fr g7 (by decide)⟩, bm0, bm1⟩ hP' hD' hS' (lb_lv (by omega) e0 e49 g3 hr1 y3 y4 y5 y6 hl')
  · intro r lv sk ws' H' locs' ls' hx g' hP' hD' hS' hl'
    obtain ⟨g1, g2, g3, g4, g5, g6, g7, g8⟩ := g'
    unfold sp_x sp_at at hy
    simp only [Bool.and_eq_true, decide_eq_true_eq, lq] at hy
    obtain ⟨⟨y1, y2, y3, y4, y5, y6⟩, y7, y8, y9, y10, y11, y12, y13, y14, y15, y16⟩ := hy
    have hr11 : r[11]? = some aa := hx.at rfl
    have hsk : sk = [] := by
      rw [List.isEmpty_iff.mp y2] at g4
      exact g4.nil
    subst hsk
    have hr1 : r[1]? = some (i : Int) := hx.at rfl
    have hr2 : r[2]? = some (t : Int) := hx.at rfl
    have hr8 : r[8]? = some u := hx.at rfl
    have hr9 : r[9]? = some cc := hx.at rfl
    have hr10 : r[10]? = some q := hx.at rfl
    have hT' := hT.fr ht g5 g7 nowr4.1 nowr4.2
    have heq' : lb_eq ws' := ⟨t, g, u, cc, q, aa, j0, j1, m0, m1, vi.lk g6 y7 hr2 (by omega), vi.lk g6 y8 hr2 (by omega), ht, hT', ⟨vi.lk g6 y9 hr8 (by omega), vi.lk g6 y10 hr8 (by omega)⟩, ⟨vi.lk g6 y11 hr9 (by omega), vi.lk g6 y12 hr9 (by omega)⟩, ⟨vi.lk g6 y13 hr10 (by omega), vi.lk g6 y14 hr10 (by omega)⟩, ⟨vi.lk g6 y15 hr11 (by omega), vi.lk g6 y16 hr11 (by omega)⟩, ⟨i0.fr g7 (by decide), i0'.fr g7 (by decide)⟩, ⟨i1'.fr g7 (by decide), i1''.fr g7 (by decide)⟩, fun h => ⟨(im0 h).1.fr g7 (by decide), (im0 h).2.1.fr g7 (by decide), (im0 h).2.2.fr g7 (by decide)⟩, fun h => ⟨(im1 h).1.fr g7 (by decide), (im1 h).2.1.fr g7 (by decide), (im1 h).2.2.fr g7 (by decide)⟩, bm0, bm1⟩
    have hl2 := lb_lv (by omega) e0 e49 g3 hr1 y3 y4 y5 y6 hl'
    rw [y1]
    rcases hpc with rfl | rfl | rfl | rfl
    · exact lb_feed C e0 e49 g5 heq' hi hL k H' locs' ls' hP' hD' hS' hl2
    · exact lb_text C e0 e49 g5 heq' hi hL k H' locs' ls' hP' hD' hS' hl2
    · exact lb_keep C e0 e49 g5 heq' hi hL k H' locs' ls' hP' hD' hS' hl2
    · exact lb_back C e0 e49 g5 heq' hi hL k H' locs' ls' hP' hD' hS' hl2
end LBR
