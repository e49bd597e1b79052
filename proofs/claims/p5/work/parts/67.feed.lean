/-! feed, by the tape's length; a round of the law -/
def fd_x (x : ai_s) : Bool := decide (x.1 = 196) && (x.2.2.1.isEmpty && (decide (ai_get x.2.1 0 = some (4, 0, 0, 0)) && (decide (ai_get x.2.1 1 = some (0, 0, 0, 0)) && (decide (ai_get x.2.1 2 = some (0, 49, 0, 0)) && (decide (ai_get x.2.1 3 = some (1, 1, 0, 0)) && (decide (ai_lk x.2.2.2.2.1 26 1 = some (1, 2, 0, 0)) && (decide (ai_lk x.2.2.2.2.1 49 7 = some (1, 2, 0, 0)) && (decide (ai_lk x.2.2.2.2.1 0 9 = some (1, 8, 0, 0)) && decide (ai_lk x.2.2.2.2.1 49 8 = some (1, 8, 0, 0))))))))))
theorem fd_hd : (lb_hd.any fun xs => (xs[1]?).any fd_x) = true := by decide +kernel
def fd_en (lo hi : Int) : List ai_e := [(0, 0, false, 0, 0), (0, 2555, false, 1, 0), (0, 160, false, 2, 0), (-2147483648, 2147483647, false, 3, 0), (lo, hi, false, 4, 0), (-2147483648, 2147483647, false, 5, 0), (-2147483648, 2147483647, false, 6, 0), (-2147483648, 2147483647, false, 7, 0), (-2147483648, 2147483647, false, 8, 0)]
def fd_lo (x : ai_s) : Bool := decide (x.1 = 1297) && (x.2.2.1.isEmpty && (decide (ai_get x.2.1 0 = some (4, 0, 0, 0)) && (decide (ai_get x.2.1 1 = some (0, 0, 0, 0)) && (decide (ai_get x.2.1 2 = some (0, 49, 0, 0)) && decide (ai_get x.2.1 3 = some (1, 1, 0, 0))))))
def fd_B (lo hi : Int) : ai_s := (196, lb_lo, [], fd_en lo hi, [(26, 1, (1, 2, 0, 0)), (49, 7, (1, 2, 0, 0))], [])
theorem fd_r1 : ((ai_ex (hk []) 300 169 tb_m169 11 [1297] (fd_B (-2147483648) (-1))).any fun xs => xs.all fd_lo) = true := by decide +kernel
theorem fd_r2 : ((ai_ex (hk []) 300 169 tb_m169 11 [1297] (fd_B 128 2147483647)).any fun xs => xs.all fd_lo) = true := by decide +kernel
def fd_D (m : Nat) : ai_s := (196, lb_lo, [], fd_en 0 127, [(26, 1, (1, 0, 0, (m : Int))), (49, 7, (1, 0, 0, (m : Int)))], [])
theorem fd_r3 : ((ai_ex (hk []) 300 169 tb_m169 11 [1297] (fd_D 160)).any fun xs => xs.all fd_lo) = true := by decide +kernel
def fd_W (m : Nat) : List (Nat × Nat × Nat) := [(26, 1, 2), (27, m, m + 1), (49, 7, 8), (52, m, m + 1)]
def fd_Dok (m : Nat) (x : ai_s) : Bool := fd_lo x && (decide (ai_lk x.2.2.2.2.1 26 1 = some (1, 0, 0, (m : Int) + 1)) && (decide (ai_lk x.2.2.2.2.1 49 7 = some (1, 0, 0, (m : Int) + 1)) && (decide (ai_lk x.2.2.2.2.1 27 m = some (1, 4, 0, 0)) && decide (ai_lk x.2.2.2.2.1 52 m = some (1, 4, 0, 0)))))
noncomputable def fd_Dr (m : Nat) : Bool := (ai_ex (hk (fd_W m)) 300 169 tb_m169 11 [1297] (fd_D m)).any fun xs => xs.all (fd_Dok m)
theorem fd_r4 : ((List.range 40).all fd_Dr) = true := by decide +kernel
theorem fd_r5 : ((List.range 40).all fun m => fd_Dr (40 + m)) = true := by decide +kernel
theorem fd_r6 : ((List.range 40).all fun m => fd_Dr (80 + m)) = true := by decide +kernel
theorem fd_r7 : ((List.range 40).all fun m => fd_Dr (120 + m)) = true := by decide +kernel
theorem fd_Dall (m : Nat) (h : m < 160) : fd_Dr m = true := by
  by_cases h1 : m < 40
  · exact List.all_eq_true.mp fd_r4 m (List.mem_range.mpr h1)
  · by_cases h2 : m < 80
    · have := List.all_eq_true.mp fd_r5 (m - 40) (List.mem_range.mpr (by omega))
      rw [show 40 + (m - 40) = m by omega] at this
      exact this
    · by_cases h3 : m < 120
      · have := List.all_eq_true.mp fd_r6 (m - 80) (List.mem_range.mpr (by omega))
        rw [show 80 + (m - 80) = m by omega] at this
        exact this
      · have := List.all_eq_true.mp fd_r7 (m - 120) (List.mem_range.mpr (by omega))
        rw [show 120 + (m - 120) = m by omega] at this
        exact this
/-- what the two sides have alike: the tape, the fault -/
def lb_eq (ws : va_W) : Prop := ∃ (t : Nat) (g : Nat → Int), vi ws 26 1 t ∧ vi ws 49 7 t ∧ t ≤ 160 ∧ (∃ u : Int, vi ws 0 9 u ∧ vi ws 49 8 u) ∧ sp_tape g t ws
def lb_alls : Prop := ∀ j : Nat, j < 38 → j ≠ 1 → ∃ ms : List mm_e, (∀ e ∈ ms, m4_ok e) ∧ lb_case ms j = true
def lb_r (i : Nat) (t : Int) (sx : Nat → Int32) (u : Int) : List Int := [0, (i : Int), t, (sx i).toInt, (sx (i + 1)).toInt, (sx (i + 2)).toInt, (sx (i + 3)).toInt, (sx (i + 4)).toInt, u]
section LBR
variable {p : Program} {l : Launch} {e : Env} {R : Room} {s : State} {m : MethodId} {args : Array Value} {below : List Frame} {meth : Method} {c : Code} {D : va_G} {tys : ai_ty} {A : Nat → Prop} {b L : Nat} {sx : Nat → Int32} {cells slots : Nat} {Q : State → Prop} {w0 : va_W} {ad : List Nat} {r0 : List Int}
theorem lb_go (hall : lb_alls) (C : ai_cx tb_m169 11 p R s m args c D tys A b L sx cells slots) (k : ∀ y : ai_s, lb_ok4 y = true → ai_G tb_TY tb_WR4 w0 ad tb_m169 p l e R s m args below meth c D tys A b L sx cells slots Q r0 y) (kf : ∀ y : ai_s, fd_x y = true → ai_G tb_TY tb_WR4 w0 ad tb_m169 p l e R s m args below meth c D tys A b L sx cells slots Q r0 y) : ai_G tb_TY tb_WR4 w0 ad tb_m169 p l e R s m args below meth c D tys A b L sx cells slots Q r0 lb_st := by
  obtain ⟨xs, h1, h2⟩ := ai_anyE lb_len
  refine (ai_ex_ok (K := tb_K4) su4_ok tv_MT 5000) 169 11 lb_cut lb_st xs tb_m169 h1 rfl C (fun x hx => ?_)
  obtain ⟨j, hj, hjx⟩ := List.getElem_of_mem hx
  have hj38 : j < 38 := by rw [← ai_beq.mp h2]; exact hj
  by_cases hj1 : j = 1
  · subst hj1
    obtain ⟨xs', a1, a2⟩ := ai_anyE fd_hd
    cases Option.some.inj (h1.symm.trans a1)
    obtain ⟨x', a3, a4⟩ := ai_anyE a2
    rw [List.getElem?_eq_getElem hj, hjx] at a3
    cases a3
    exact kf x a4
  · obtain ⟨ms, hms, hc⟩ := hall j hj38 hj1
    unfold lb_case at hc
    obtain ⟨xs', a1, a2⟩ := ai_anyE hc
    cases Option.some.inj (h1.symm.trans a1)
    obtain ⟨x', a3, a4⟩ := ai_anyE a2
    rw [List.getElem?_eq_getElem hj, hjx] at a3
    cases a3
    obtain ⟨ys, a5, a6⟩ := ai_anyE a4
    exact m4_x_ok hms 5000 169 11 [1297] x ys tb_m169 a5 rfl C (fun y hy => k y (List.all_eq_true.mp a6 y hy))
theorem lb_sx {i : Nat} {t u : Int} (hi : i + 5 ≤ L) : ai_sx L sx (lb_r i t sx u) := fun z hz => by
  cases hz
  refine ⟨⟨by show (0 : Int) ≤ i; omega, by show (i : Int) + 4 < L; omega⟩, fun o ho => ?_⟩
  match o, ho with
  | 0, _ => rfl
  | 1, _ => rfl
  | 2, _ => rfl
  | 3, _ => rfl
  | 4, _ => rfl
  | o + 5, ho => omega
theorem lb_lv {r : List Int} {lo : List (Nat × ai_v)} {lv : List (Nat × Value)} {ls : Array Slot} {i q0 q49 : Nat} (hi : i < 2147483648) (e0 : ad[0]? = some q0) (e49 : ad[49]? = some q49) (g3 : ai_lo ad b r lo lv) (hr : r[1]? = some (i : Int)) (y3 : ai_get lo 0 = some (4, 0, 0, 0)) (y4 : ai_get lo 1 = some (0, 0, 0, 0)) (y5 : ai_get lo 2 = some (0, 49, 0, 0)) (y6 : ai_get lo 3 = some (1, 1, 0, 0)) (hl : lv_has ls 4 lv) : lv_has ls 4 [(0, .ref b), (1, .ref q0), (2, .ref q49), (3, .int (nI i))] := by
  have hiI : (nI i).toInt = (i : Int) := nI_toInt (by omega)
  obtain ⟨k0, v0, a0, b0⟩ := ai_get_ok g3 y3
  obtain ⟨k1, v1, a1, b1⟩ := ai_get_ok g3 y4
  obtain ⟨k2, v2, a2, b2⟩ := ai_get_ok g3 y5
  obtain ⟨k3, v3, a3, b3⟩ := ai_get_ok g3 y6
  have hv0 : v0 = .ref b := by
    rcases b0 with ⟨q, -⟩ | ⟨q, -⟩ | ⟨q, -⟩ | ⟨q, -⟩ | ⟨-, q⟩
    · exact absurd q (by decide)
    · exact absurd q (by decide)
    · exact absurd q (by decide)
    · exact absurd q (by decide)
    · exact q
  have hv1 : v1 = .ref q0 := by
    rcases b1 with ⟨-, q, q1, q2⟩ | ⟨q, -⟩ | ⟨q, -⟩ | ⟨q, -⟩ | ⟨q, -⟩
    · rw [q2, Option.some.inj (q1.symm.trans e0)]
    all_goals exact absurd q (by decide)
  have hv2 : v2 = .ref q49 := by
    rcases b2 with ⟨-, q, q1, q2⟩ | ⟨q, -⟩ | ⟨q, -⟩ | ⟨q, -⟩ | ⟨q, -⟩
    · rw [q2, Option.some.inj (q1.symm.trans e49)]
    all_goals exact absurd q (by decide)
  have hv3 : v3 = .int (nI i) := by
    obtain ⟨j, rfl, hj⟩ := dvn b3 hr
    congr 1
    apply Int32.toInt_inj.mp
    omega
  subst hv0 hv1 hv2 hv3
  refine ⟨hl.1, hl.2.1, fun q hq => ?_⟩
  rcases List.mem_cons.mp hq with rfl | hq
  · exact lv_at hl k0 a0
  · rcases List.mem_cons.mp hq with rfl | hq
    · exact lv_at hl k1 a1
    · rcases List.mem_cons.mp hq with rfl | hq
      · exact lv_at hl k2 a2
      · rcases List.mem_cons.mp hq with rfl | hq
        · exact lv_at hl k3 a3
        · cases hq
theorem lb_lo_ok {i : Nat} {q0 q49 : Nat} {t u : Int} (hi : i < 2147483648) (e0 : ad[0]? = some q0) (e49 : ad[49]? = some q49) : ai_lo ad b (lb_r i t sx u) lb_lo [(0, .ref b), (1, .ref q0), (2, .ref q49), (3, .int (nI i))] := by
  have hiI : (nI i).toInt = (i : Int) := nI_toInt (by omega)
  exact ⟨rfl, Or.inr (Or.inr (Or.inr (Or.inr ⟨rfl, rfl⟩))), rfl, Or.inl ⟨rfl, q0, e0, rfl⟩, rfl, Or.inl ⟨rfl, q49, e49, rfl⟩, rfl, Or.inr (Or.inl ⟨rfl, _, _, rfl, rfl, by rw [hiI]; show (i : Int) = (i : Int) + 0; omega⟩), trivial⟩
theorem nowr4 : nowr tb_WR4 27 = true ∧ nowr tb_WR4 52 = true := by decide
theorem fx_vi {ws : va_W} {k i n : Nat} {z : Int} {pat : List ai_f} (hw : ai_wd tb_TY ad tys ws) (hT : tb_TY[k]? = some (1, n, pat)) (h : vi ws k i z) : fx_o ws k i = some z := by
  obtain ⟨j, h1, h2⟩ := h
  rw [← h2]
  exact sl_fx hw hT h1
set_option maxHeartbeats 2000000 in
theorem lb_feed (C : ai_cx tb_m169 11 p R s m args c D tys A b L sx cells slots) {q0 q49 : Nat} (e0 : ad[0]? = some q0) (e49 : ad[49]? = some q49) {ws : va_W} (hw : ai_wd tb_TY ad tys ws) (heq : lb_eq ws) {i : Nat} (hi : i + 5 ≤ L) (hL : L ≤ 2560)
    (k : ∀ (ws' : va_W) (H : Heap) (locs : List Loc) (ls : Array Slot), ai_wd tb_TY ad tys ws' → lb_eq ws' → va_P D vwCl ws' H → va_D A ws' → va_S A s.heap H locs → lv_has ls 4 [(0, .ref b), (1, .ref q0), (2, .ref q49), (3, .int (nI i))] → W p l e R s m args below meth c H locs cells slots Q (F0 m 1297 ls [])) : hG tb_m169 p l e R s m args below meth c D A cells slots Q 196 [(0, .ref b), (1, .ref q0), (2, .ref q49), (3, .int (nI i))] [] ws := by
  obtain ⟨t, g, v1, v7, ht, ⟨u, f9, f8⟩, hT⟩ := heq
  have bu : -2147483648 ≤ u ∧ u ≤ 2147483647 := by
    obtain ⟨z, -, h⟩ := f9
    have := ai_irg z
    omega
  have lo : ∀ z : Int32, -2147483648 ≤ z.toInt := fun z => Int32.le_toInt z
  have hiz : ∀ z : Int32, z.toInt ≤ 2147483647 := fun z => Int32.toInt_le z
  have l0 := lo (sx i); have l1 := lo (sx (i + 1)); have l2 := lo (sx (i + 2)); have l3 := lo (sx (i + 3)); have l4 := lo (sx (i + 4))
  have u0 := hiz (sx i); have u1 := hiz (sx (i + 1)); have u2 := hiz (sx (i + 2)); have u3 := hiz (sx (i + 3)); have u4 := hiz (sx (i + 4))
  have fin : ∀ {W : List (Nat × Nat × Nat)} {st : ai_s} {ch : ai_s → Bool}, ((ai_ex (hk W) 300 169 tb_m169 11 [1297] st).any fun xs => xs.all ch) = true → st.1 = 196 → ai_gm tb_TY W ws ad b L sx tys tb_m169.2.2.2.2.1 (lb_r i (t : Int) sx u) st [(0, .ref b), (1, .ref q0), (2, .ref q49), (3, .int (nI i))] [] ws → (∀ (x : ai_s) (r' : List Int) (ws' : va_W), ch x = true → ai_x (lb_r i (t : Int) sx u) r' → ai_wd tb_TY ad tys ws' → ai_fr W ws ws' → ai_kn ad b r' ws' x.2.2.2.2.1 → fd_lo x = true ∧ lb_eq ws') → hG tb_m169 p l e R s m args below meth c D A cells slots Q 196 [(0, .ref b), (1, .ref q0), (2, .ref q49), (3, .int (nI i))] [] ws := by
    intro W st ch hrun hst gm hch
    obtain ⟨xs, hx1, hx2⟩ := ai_anyE hrun
    rw [← hst]
    refine hseg (st := st) hx1 rfl C gm (fun x hx r' lv' sk' ws' hx' g' => ?_)
    obtain ⟨g1, g2, g3, g4, g5, g6, g7, g8⟩ := g'
    obtain ⟨hlo, heq'⟩ := hch x r' ws' (List.all_eq_true.mp hx2 x hx) hx' g5 g7 g6
    unfold fd_lo at hlo
    simp only [Bool.and_eq_true, decide_eq_true_eq] at hlo
    obtain ⟨o1, o2, o3, o4, o5, o6⟩ := hlo
    have hsk : sk' = [] := by
      rw [List.isEmpty_iff.mp o2] at g4
      exact g4.nil
    subst hsk
    rw [o1]
    intro H locs ls hP hD hS hl
    exact k ws' H locs ls g5 heq' hP hD hS (lb_lv (by omega) e0 e49 g3 (hx'.at rfl) o3 o4 o5 o6 hl)
  by_cases c1 : (sx (i + 1)).toInt < 0
  · refine fin fd_r1 rfl ⟨en_mk (by simp only [fd_B, fd_en, lb_r, en_b, and_true]; omega) rfl, sb0, lb_lo_ok (by omega) e0 e49, trivial, hw, kc (v1.kn (n := 2) (t := (t : Int)) rfl (by omega)) (kc (v7.kn (n := 2) (t := (t : Int)) rfl (by omega)) k0), fun _ _ _ _ h => h, fun _ => lb_sx hi⟩ (fun x r' ws' hc hx' hw' hf g6 => ⟨hc, t, g, v1.fr hf rfl, v7.fr hf rfl, ht, ⟨u, f9.fr hf rfl, f8.fr hf rfl⟩, hT.fr ht hw' hf rfl rfl⟩)
  · by_cases c2 : 127 < (sx (i + 1)).toInt
    · refine fin fd_r2 rfl ⟨en_mk (by simp only [fd_B, fd_en, lb_r, en_b, and_true]; omega) rfl, sb0, lb_lo_ok (by omega) e0 e49, trivial, hw, kc (v1.kn (n := 2) (t := (t : Int)) rfl (by omega)) (kc (v7.kn (n := 2) (t := (t : Int)) rfl (by omega)) k0), fun _ _ _ _ h => h, fun _ => lb_sx hi⟩ (fun x r' ws' hc hx' hw' hf g6 => ⟨hc, t, g, v1.fr hf rfl, v7.fr hf rfl, ht, ⟨u, f9.fr hf rfl, f8.fr hf rfl⟩, hT.fr ht hw' hf rfl rfl⟩)
    · by_cases c3 : t = 160
      · subst c3
        refine fin fd_r3 rfl ⟨en_mk (by simp only [fd_D, fd_en, lb_r, en_b, and_true]; omega) rfl, sb0, lb_lo_ok (by omega) e0 e49, trivial, hw, kc (v1.kn (n := 0) (t := 0) rfl (by omega)) (kc (v7.kn (n := 0) (t := 0) rfl (by omega)) k0), fun _ _ _ _ h => h, fun _ => lb_sx hi⟩ (fun x r' ws' hc hx' hw' hf g6 => ⟨hc, 160, g, v1.fr hf rfl, v7.fr hf rfl, ht, ⟨u, f9.fr hf rfl, f8.fr hf rfl⟩, hT.fr ht hw' hf rfl rfl⟩)
      · refine fin (st := fd_D t) (fd_Dall t (by omega)) rfl ⟨en_mk (by simp only [fd_D, fd_en, lb_r, en_b, and_true]; omega) rfl, sb0, lb_lo_ok (by omega) e0 e49, trivial, hw, kc (v1.kn (n := 0) (t := 0) rfl (by omega)) (kc (v7.kn (n := 0) (t := 0) rfl (by omega)) k0), fun _ _ _ _ h => h, fun _ => lb_sx hi⟩ (fun x r' ws' hc hx' hw' hf g6 => ?_)
        unfold fd_Dok at hc
        rw [Bool.and_eq_true, Bool.and_eq_true, Bool.and_eq_true, Bool.and_eq_true, decide_eq_true_eq, decide_eq_true_eq, decide_eq_true_eq, decide_eq_true_eq] at hc
        obtain ⟨hlo, o1, o2, o3, o4⟩ := hc
        have r0 : r'[0]? = some 0 := hx'.at rfl
        have r4 : r'[4]? = some (sx (i + 1)).toInt := hx'.at rfl
        have w27 := fx_vi hw' (k := 27) rfl (vi.lk g6 o3 r4 (t := (sx (i + 1)).toInt) (by omega))
        have w52 := fx_vi hw' (k := 52) rfl (vi.lk g6 o4 r4 (t := (sx (i + 1)).toInt) (by omega))
        have off : ∀ (kk j : Nat), (kk = 27 ∨ kk = 52) → j ≠ t → ai_wr (fd_W t) kk j j = false := by
          intro kk j hkk hj
          unfold ai_wr fd_W
          rw [List.any_eq_false]
          intro q hq hx
          simp only [List.mem_cons, List.not_mem_nil, or_false] at hq
          rcases hq with rfl | rfl | rfl | rfl <;> (simp only [Bool.and_eq_true, Bool.or_eq_true, decide_eq_true_eq] at hx; omega)
        refine ⟨hlo, t + 1, fun j => if j = t then (sx (i + 1)).toInt else g j, vi.lk g6 o1 r0 (by omega), vi.lk g6 o2 r0 (by omega), by omega, ⟨u, f9.fr hf (by unfold ai_wr fd_W; simp), f8.fr hf (by unfold ai_wr fd_W; simp)⟩, fun j hj => ?_, fun j hj => ?_⟩
        · by_cases hjt : j = t
          · rw [hjt, w27]
            show _ = some (if t = t then _ else _)
            rw [if_pos rfl]
          · show _ = some (if j = t then _ else _)
            rw [if_neg hjt]
            exact fr_fx hw' (k := 27) rfl hf (off 27 j (Or.inl rfl) hjt) (hT.1 j hj)
        · by_cases hjt : j = t
          · rw [hjt, w52]
            show _ = some (if t = t then _ else _)
            rw [if_pos rfl]
          · show _ = some (if j = t then _ else _)
            rw [if_neg hjt]
            exact fr_fx hw' (k := 52) rfl hf (off 52 j (Or.inr rfl) hjt) (hT.2 j (by omega))
set_option maxHeartbeats 2000000 in
theorem lb_round (hall : lb_alls) (C : ai_cx tb_m169 11 p R s m args c D tys A b L sx cells slots) {q0 q49 : Nat} (e0 : ad[0]? = some q0) (e49 : ad[49]? = some q49) {ws : va_W} {H : Heap} {locs : List Loc} {ls : Array Slot} (hw : ai_wd tb_TY ad tys ws) (heq : lb_eq ws) (hP : va_P D vwCl ws H) (hD : va_D A ws) (hS : va_S A s.heap H locs) {i : Nat} (hi : i + 5 ≤ L) (hL : L ≤ 2560) (hl : lv_has ls 4 [(0, .ref b), (1, .ref q0), (2, .ref q49), (3, .int (nI i))])
    (k : ∀ (ws : va_W) (H : Heap) (locs : List Loc) (ls : Array Slot), ai_wd tb_TY ad tys ws → lb_eq ws → va_P D vwCl ws H → va_D A ws → va_S A s.heap H locs → lv_has ls 4 [(0, .ref b), (1, .ref q0), (2, .ref q49), (3, .int (nI i))] → W p l e R s m args below meth c H locs cells slots Q (F0 m 1297 ls [])) : W p l e R s m args below meth c H locs cells slots Q (F0 m 26 ls []) := by
  obtain ⟨t, g, v1, v7, ht, ⟨u, f9, f8⟩, hT⟩ := heq
  have bu : -2147483648 ≤ u ∧ u ≤ 2147483647 := by
    obtain ⟨z, -, h⟩ := f9
    have := ai_irg z
    omega
  have lo : ∀ z : Int32, -2147483648 ≤ z.toInt := fun z => Int32.le_toInt z
  have hiz : ∀ z : Int32, z.toInt ≤ 2147483647 := fun z => Int32.toInt_le z
  have l0 := lo (sx i); have l1 := lo (sx (i + 1)); have l2 := lo (sx (i + 2)); have l3 := lo (sx (i + 3)); have l4 := lo (sx (i + 4))
  have u0 := hiz (sx i); have u1 := hiz (sx (i + 1)); have u2 := hiz (sx (i + 2)); have u3 := hiz (sx (i + 3)); have u4 := hiz (sx (i + 4))
  have key := lb_go (l := l) (e := e) (below := below) (meth := meth) (Q := Q) (w0 := ws) (ad := ad) (r0 := lb_r i (t : Int) sx u) hall C (fun y hy => ?_) (fun y hy => ?_)
  · exact key (lb_r i (t : Int) sx u) [(0, .ref b), (1, .ref q0), (2, .ref q49), (3, .int (nI i))] [] ws H locs ls ai_x.rf ⟨en_mk (by simp only [lb_st, lb_r, en_b, and_true]; omega) rfl, f350 rfl hT.1 hT.2, lb_lo_ok (by omega) e0 e49, trivial, hw, kc (v1.kn (n := 2) (t := (t : Int)) rfl (by omega)) (kc (v7.kn (n := 2) (t := (t : Int)) rfl (by omega)) (kc (f9.kn (n := 8) (t := u) rfl (by omega)) (kc (f8.kn (n := 8) (t := u) rfl (by omega)) k0))), fun _ _ _ _ h => h, fun _ => lb_sx hi⟩ hP hD hS hl
  · intro r lv sk ws' H' locs' ls' hx g' hP' hD' hS' hl'
    obtain ⟨g1, g2, g3, g4, g5, g6, g7, g8⟩ := g'
    unfold lb_ok4 lb_okE at hy
    simp only [Bool.and_eq_true, decide_eq_true_eq] at hy
    obtain ⟨⟨⟨⟨⟨⟨⟨y1, y2⟩, y3⟩, y4⟩, y5⟩, y6⟩, y7⟩, y8, y9⟩ := hy
    obtain ⟨vu, n1, n2⟩ := ai_anyE y9
    rw [Bool.and_eq_true, ai_beq, decide_eq_true_eq] at n2
    obtain ⟨xa, sa, da⟩ := ai_lk_ok g6 n1
    obtain ⟨xb, sb', db⟩ := ai_lk_ok g6 n2.2
    have hu' : ∃ u' : Int, vi ws' 0 9 u' ∧ vi ws' 49 8 u' := by
      rcases da with ⟨q, -⟩ | ⟨-, z, ia, qa, rfl, q3⟩ | ⟨q, -⟩ | ⟨q, -⟩ | ⟨q, -⟩
      · omega
      · obtain ⟨ib, rfl, hib⟩ : ∃ ib : Int32, xb = .int ib ∧ ib.toInt = z + vu.2.2.2 := by
          rcases db with ⟨q, -⟩ | ⟨-, z', ib, qb, rfl, q4⟩ | ⟨q, -⟩ | ⟨q, -⟩ | ⟨q, -⟩
          · omega
          · cases Option.some.inj (qa.symm.trans qb)
            exact ⟨ib, rfl, q4⟩
          all_goals omega
        exact ⟨_, ⟨ia, sa, q3⟩, ⟨ib, sb', hib⟩⟩
      all_goals omega
    have hsk : sk = [] := by
      rw [List.isEmpty_iff.mp y2] at g4
      exact g4.nil
    subst hsk
    have hr1 : r[1]? = some (i : Int) := hx.at rfl
    have hr2 : r[2]? = some (t : Int) := hx.at rfl
    have hr0 : r[0]? = some 0 := hx.at rfl
    obtain ⟨v, w1, w2⟩ := ai_anyE y7
    simp only [Bool.and_eq_true, decide_eq_true_eq] at w2
    obtain ⟨w2, w3⟩ := w2
    obtain ⟨pp, w4, w5⟩ := ai_anyE w3
    simp only [Bool.and_eq_true, decide_eq_true_eq] at w5
    obtain ⟨v', w1', w6⟩ := ai_anyE y8
    cases Option.some.inj (w1.symm.trans w1')
    rw [Bool.and_eq_true, decide_eq_true_eq, Bool.or_eq_true, Bool.or_eq_true, Bool.or_eq_true, ai_beq, ai_beq] at w6
    obtain ⟨ev, w6⟩ := w6
    obtain ⟨x1, s1, c1⟩ := ai_lk_ok g6 w1
    obtain ⟨x2, s2, c2⟩ := ai_lk_ok g6 w2
    obtain ⟨-, z1, i1, u1, rfl, u2, u3, u4⟩ := ai_i_ok g1 c1 w4
    obtain ⟨-, z2, i2, u5, rfl, u6, u7, u8⟩ := ai_i_ok g1 c2 w4
    have hii : i1 = i2 := Int32.toInt_inj.mp (by rw [u2, u6, Option.some.inj (u1.symm.trans u5)])
    subst hii
    have hv3 : v.2.2.2 = 0 := by rw [ev]
    have hle : i1.toInt ≤ t := by
      rcases w6 with w6 | w6 | w6 | w6
      · rw [w6, hr0] at u1
        cases u1
        omega
      · rw [w6, hr2] at u1
        cases u1
        omega
      · have := av_f5 g2 hr2 u1 w6
        omega
      · have := av_f4 g2 u1 hr2 w6
        omega
    have hT' := hT.fr ht g5 g7 nowr4.1 nowr4.2
    rw [y1]
    exact k ws' H' locs' ls' g5 ⟨i1.toInt.toNat, g, ⟨i1, s1, by omega⟩, ⟨i1, s2, by omega⟩, by omega, hu', hT'.1, fun j hj => hT'.2 j (by omega)⟩ hP' hD' hS' (lb_lv (by omega) e0 e49 g3 hr1 y3 y4 y5 y6 hl')
  · intro r lv sk ws' H' locs' ls' hx g' hP' hD' hS' hl'
    obtain ⟨g1, g2, g3, g4, g5, g6, g7, g8⟩ := g'
    unfold fd_x at hy
    simp only [Bool.and_eq_true, decide_eq_true_eq] at hy
    obtain ⟨y1, y2, y3, y4, y5, y6, y7, y8, y9, y10⟩ := hy
    have hr8 : r[8]? = some u := hx.at rfl
    have hsk : sk = [] := by
      rw [List.isEmpty_iff.mp y2] at g4
      exact g4.nil
    subst hsk
    have hr1 : r[1]? = some (i : Int) := hx.at rfl
    have hr2 : r[2]? = some (t : Int) := hx.at rfl
    have hT' := hT.fr ht g5 g7 nowr4.1 nowr4.2
    rw [y1]
    exact lb_feed C e0 e49 g5 ⟨t, g, vi.lk g6 y7 hr2 (by omega), vi.lk g6 y8 hr2 (by omega), ht, ⟨u, vi.lk g6 y9 hr8 (by omega), vi.lk g6 y10 hr8 (by omega)⟩, hT'⟩ hi hL k H' locs' ls' hP' hD' hS' (lb_lv (by omega) e0 e49 g3 hr1 y3 y4 y5 y6 hl')
end LBR
