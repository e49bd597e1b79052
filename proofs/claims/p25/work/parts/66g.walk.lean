/-! cases of the law by the walk: strong, fill, alter, plan, cut -/
section LWS
variable {ad : List Nat} {p : Program} {l : Launch} {e : Env} {R : Room} {s : State} {m : MethodId} {args : Array Value} {below : List Frame} {meth : Method} {c : Code} {D : va_G} {tys : ai_ty} {A : Nat → Prop} {b L : Nat} {sx : Nat → Int32} {cells slots : Nat} {Q : State → Prop}
def lw_S1 (t : sm_t) : Bool := Nat.beq t.1 1298 && (decide (t.2.1 = lw_lo) && decide (t.2.2.1 = []))
/-- a case by its summary -/
theorem lw_sum {i q0 q49 pc N : Nat} {W : List (Nat × Nat × Nat)} {en : List ai_e} {kn : List ai_k} {sb : List ai_b} {pl : List (Nat × Nat)} {S : List sm_t} {rr : List Int} {ws : va_W} (C : ai_cx tb_m169 11 p R s m args c D tys A b L sx cells slots) (e0 : ad[0]? = some q0) (e49 : ad[49]? = some q49) (hi : i + 5 ≤ L) (hL : L ≤ 2560) (hw : ai_wd tb_TY ad tys ws)
    (hrun : ((ai_ex (hk W) N 169 tb_m169 11 [1298] (pc, lw_lo, [], en, kn, sb)).any fun xs => xs.all fun x => S.any fun t => sm_is pl x t) = true) (hS : (S.all lw_S1) = true) (hok : ai_ok (lw_r sx i ++ rr) en) (hsb : ai_sb ws (lw_r sx i ++ rr) sb) (hkn : ai_kn ad b (lw_r sx i ++ rr) ws kn)
    (k : ∀ t ∈ S, ∀ (r' : List Int) (ws' : va_W), ai_x (lw_r sx i ++ rr) r' → bnd_b r' 0 t.2.2.2.2.1 → lin_b r' t.2.2.2.2.2 → ai_wd tb_TY ad tys ws' → sm_vi ws' r' pl t.2.2.2.1 → ai_fr W ws ws' → hG tb_m169 p l e R s m args below meth c D A cells slots Q 1298 [(0, .ref b), (1, .ref q0), (2, .ref q49), (3, .int (nI i))] [] ws') : hG tb_m169 p l e R s m args below meth c D A cells slots Q pc [(0, .ref b), (1, .ref q0), (2, .ref q49), (3, .int (nI i))] [] ws := by
  refine hsum (st := (pc, lw_lo, [], en, kn, sb)) hrun rfl C (r := lw_r sx i ++ rr) ⟨hok, hsb, lw_loK (by omega) e0 e49, trivial, hw, hkn, fun _ _ _ _ h => h, fun _ => lw_sx hi⟩ (fun t ht r' lv' sk' ws' hx' hb hl hs hlo hsk hw' hv hf _ => ?_)
  have h1 := List.all_eq_true.mp hS t ht
  unfold lw_S1 at h1
  rw [Bool.and_eq_true, Bool.and_eq_true, ai_beq, decide_eq_true_eq, decide_eq_true_eq] at h1
  obtain ⟨c1, c2, c3⟩ := h1
  rw [c3] at hsk
  cases hsk.nil
  rw [c2] at hlo
  have hlv : lv' = [(0, .ref b), (1, .ref q0), (2, .ref q49), (3, .int (nI i))] := by
    cases lv' with
    | nil => exact hlo.elim
    | cons y0 ys =>
      obtain ⟨h1, h2, h3⟩ := hlo
      obtain ⟨lv3, rfl, pz1⟩ := lo_ref e0 h3
      obtain ⟨lv4, rfl, pz2⟩ := lo_ref e49 pz1
      obtain ⟨z, lv5, rfl, d1, pz3⟩ := lo_int rfl pz2
      cases lo_nil pz3
      unfold vn at d1
      rw [nm_x hx' (k := 1) rfl] at d1
      have hiI : (nI i).toInt = (i : Int) := nI_toInt (by omega)
      have hz : z = nI i := Int32.toInt_inj.mp (by dsimp only at d1; omega)
      subst hz
      obtain ⟨y1, y2⟩ := y0
      cases h1
      rcases h2 with ⟨q, -⟩ | ⟨q, -⟩ | ⟨q, -⟩ | ⟨q, -⟩ | ⟨-, q⟩
      · exact absurd (show (4 : Nat) = _ from q) (by decide)
      · exact absurd (show (4 : Nat) = _ from q) (by decide)
      · exact absurd (show (4 : Nat) = _ from q) (by decide)
      · exact absurd (show (4 : Nat) = _ from q) (by decide)
      · rw [show y2 = Value.ref b from q]
  subst hlv
  rw [c1]
  exact k t ht r' ws' hx' hb hl hw' hv hf
/-- names 3 to 7 are ints; name 4 within bounds -/
def lw_eb (lo hi : Int) : List ai_e := [(0, 0, false, 0, 0), (0, 2555, false, 1, 0), (0, 0, false, 2, 0), (-2147483648, 2147483647, false, 3, 0), (lo, hi, false, 4, 0), (-2147483648, 2147483647, false, 5, 0), (-2147483648, 2147483647, false, 6, 0), (-2147483648, 2147483647, false, 7, 0)]
def lw_un (x : ai_s) : Bool := Nat.beq x.1 1298 && (x.2.2.1.isEmpty && lw_lo.all fun q => decide (ai_get x.2.1 q.1 = some q.2))
/-- a case that writes nothing -/
theorem lw_no {i q0 q49 pc N : Nat} {en : List ai_e} {kn : List ai_k} {sb : List ai_b} {rr : List Int} {ws : va_W} (C : ai_cx tb_m169 11 p R s m args c D tys A b L sx cells slots) (e0 : ad[0]? = some q0) (e49 : ad[49]? = some q49) (hi : i + 5 ≤ L) (hL : L ≤ 2560) (hw : ai_wd tb_TY ad tys ws) (hI : Inv ws)
    (hrun : ((ai_ex (hk []) N 169 tb_m169 11 [1298] (pc, lw_lo, [], en, kn, sb)).any fun xs => xs.all lw_un) = true) (hok : ai_ok (lw_r sx i ++ rr) en) (hsb : ai_sb ws (lw_r sx i ++ rr) sb) (hkn : ai_kn ad b (lw_r sx i ++ rr) ws kn)
    (k : ∀ wc, ai_wd tb_TY ad tys wc → Inv wc → hG tb_m169 p l e R s m args below meth c D A cells slots Q 1298 [(0, .ref b), (1, .ref q0), (2, .ref q49), (3, .int (nI i))] [] wc) : hG tb_m169 p l e R s m args below meth c D A cells slots Q pc [(0, .ref b), (1, .ref q0), (2, .ref q49), (3, .int (nI i))] [] ws := by
  obtain ⟨xs, y1, y2⟩ := ai_anyE hrun
  refine hseg (st := (pc, lw_lo, [], en, kn, sb)) y1 rfl C ⟨hok, hsb, lw_loK (by omega) e0 e49, trivial, hw, hkn, fun _ _ _ _ h => h, fun _ => lw_sx hi⟩ (fun x hx r' lv' sk' ws' hx' g' => ?_)
  obtain ⟨g1, g2, g3, g4, g5, g6, g7, g8⟩ := g'
  have hc := List.all_eq_true.mp y2 x hx
  unfold lw_un at hc
  rw [Bool.and_eq_true, Bool.and_eq_true] at hc
  obtain ⟨c1, c2, c3⟩ := hc
  rw [List.isEmpty_iff.mp c2] at g4
  cases g4.nil
  rw [ai_beq.mp c1]
  obtain ⟨lv2, l1, l2⟩ := lo_pick g3 lw_lo c3
  have hlv : lv2 = [(0, .ref b), (1, .ref q0), (2, .ref q49), (3, .int (nI i))] := by
    cases lv2 with
    | nil => exact l1.elim
    | cons y0 ys =>
      obtain ⟨h1, h2, h3⟩ := l1
      obtain ⟨lv3, rfl, pz1⟩ := lo_ref e0 h3
      obtain ⟨lv4, rfl, pz2⟩ := lo_ref e49 pz1
      obtain ⟨z, lv5, rfl, d1, pz3⟩ := lo_int rfl pz2
      cases lo_nil pz3
      unfold vn at d1
      rw [nm_x hx' (k := 1) rfl] at d1
      have hiI : (nI i).toInt = (i : Int) := nI_toInt (by omega)
      have hz : z = nI i := Int32.toInt_inj.mp (by dsimp only at d1; omega)
      subst hz
      obtain ⟨y1, y2⟩ := y0
      cases h1
      rcases h2 with ⟨q, -⟩ | ⟨q, -⟩ | ⟨q, -⟩ | ⟨q, -⟩ | ⟨-, q⟩
      · exact absurd (show (4 : Nat) = _ from q) (by decide)
      · exact absurd (show (4 : Nat) = _ from q) (by decide)
      · exact absurd (show (4 : Nat) = _ from q) (by decide)
      · exact absurd (show (4 : Nat) = _ from q) (by decide)
      · rw [show y2 = Value.ref b from q]
  subst hlv
  intro H locs ls hP hD hS hl
  exact k ws' g5 (hI.fr0 g5 g7) H locs ls hP hD hS ⟨hl.1, hl.2.1, fun q hq => hl.2.2 q (l2 q hq)⟩
/-- strong -/
def st_en : List ai_e := lw_eb 0 20 ++ [(0, 20, false, 8, 0)]
def st_W : List (Nat × Nat × Nat) := [(1, 1, 2), (50, 16, 17)]
def st_S : List sm_t := [(1298, lw_lo, [], [(1, 4, 0, 0), (1, 4, 0, -10)], [(0, 0, false, 0, 0), (0, 2555, false, 1, 0), (0, 0, false, 2, 0), (-2147483648, 2147483647, false, 3, 0), (0, 20, false, 4, 0), (-2147483648, 2147483647, false, 5, 0), (-2147483648, 2147483647, false, 6, 0), (-2147483648, 2147483647, false, 7, 0), (0, 20, false, 8, 0)], [])]
theorem st_r1 : ((ai_ex (hk []) 200 169 tb_m169 11 [1298] (390, lw_lo, [], lw_eb (-2147483648) (-1), [], [])).any fun xs => xs.all lw_un) = true := by decide +kernel
theorem st_r2 : ((ai_ex (hk []) 200 169 tb_m169 11 [1298] (390, lw_lo, [], lw_eb 21 2147483647, [], [])).any fun xs => xs.all lw_un) = true := by decide +kernel
theorem st_r3 : ((ai_ex (hk st_W) 200 169 tb_m169 11 [1298] (390, lw_lo, [], st_en, [(1, 1, (1, 8, 0, 0)), (50, 16, (1, 8, 0, -10))], [])).any fun xs => xs.all fun x => st_S.any fun t => sm_is [(1, 1), (50, 16)] x t) = true := by decide +kernel
theorem lw_strong {i q0 q49 : Nat} {ws : va_W} (C : ai_cx tb_m169 11 p R s m args c D tys A b L sx cells slots) (e0 : ad[0]? = some q0) (e49 : ad[49]? = some q49) (hi : i + 5 ≤ L) (hL : L ≤ 2560) (hw : ai_wd tb_TY ad tys ws) (hI : Inv ws)
    (k : ∀ wc, ai_wd tb_TY ad tys wc → Inv wc → hG tb_m169 p l e R s m args below meth c D A cells slots Q 1298 [(0, .ref b), (1, .ref q0), (2, .ref q49), (3, .int (nI i))] [] wc) : hG tb_m169 p l e R s m args below meth c D A cells slots Q 390 [(0, .ref b), (1, .ref q0), (2, .ref q49), (3, .int (nI i))] [] ws := by
  have b0 := ai_irg (sx i)
  have b1 := ai_irg (sx (i + 1))
  have b2 := ai_irg (sx (i + 2))
  have b3 := ai_irg (sx (i + 3))
  have b4 := ai_irg (sx (i + 4))
  by_cases h1 : (sx (i + 1)).toInt < 0
  · exact lw_no (rr := []) C e0 e49 hi hL hw hI st_r1 (en_mk (by simp only [lw_r, lw_eb, List.append_nil, en_b, and_true]; omega) rfl) sb0 k0 k
  by_cases h2 : 20 < (sx (i + 1)).toInt
  · exact lw_no (rr := []) C e0 e49 hi hL hw hI st_r2 (en_mk (by simp only [lw_r, lw_eb, List.append_nil, en_b, and_true]; omega) rfl) sb0 k0 k
  obtain ⟨t, g, u, q, y, n, j0, j1, E, a, P, hb, hp, hi0, hi1, hs⟩ := hI
  obtain ⟨hn1, hn2, hn4⟩ := hb.2.2.2.2.1
  obtain ⟨hc, he, hg⟩ := hp.1
  have b16 := hg.2.1
  refine lw_sum (rr := [E 16]) C e0 e49 hi hL hw st_r3 rfl (en_mk (by simp only [lw_r, st_en, lw_eb, List.cons_append, List.nil_append, en_b, and_true]; omega) rfl) sb0 (kc (hc.2.1.kn (n := 8) (t := E 16) rfl (by omega)) (kc (he.2.1.kn (n := 8) (t := E 16) rfl (by omega)) k0)) (fun t ht r' ws' hx' hbb hl hw' hv hf => ?_)
  have hx2 := List.mem_singleton.mp ht
  subst hx2
  obtain ⟨v1, v2, -⟩ := hv
  have h4 := nm_x hx' (k := 4) rfl
  refine k ws' hw' (Inv.page hb hp hi0 hi1 hs hw' hf (by decide) (cev_up (j := 1) hn4 (Or.inl rfl) hc hf ⟨rfl, rfl, rfl, rfl⟩ rfl (z := (sx (i + 1)).toInt) (v1.eq (by dsimp only; omega))) (pev_up hn4 he hf (fun j h1 h2 => wr_no fun q hq => ?_) (v2.eq (by dsimp only; omega))) (good_up hg hn4 (by omega)))
  unfold st_W at hq
  simp only [List.mem_cons, List.not_mem_nil, or_false] at hq
  rcases hq with rfl | rfl <;> dsimp only <;> omega
/-- cut -/
def ct7_en : List ai_e := lw_en ++ [(0, 8, false, 8, 0)]
def ct7_W : List (Nat × Nat × Nat) := [(1, 3, 4), (50, 26, 27)]
def ct7_S : List sm_t := [
  (1298, lw_lo, [], [(1, 8, 0, 0), (1, 8, 0, 0)], [(0, 0, false, 0, 0), (0, 2555, false, 1, 0), (0, 0, false, 2, 0), (-2147483648, 2147483647, false, 3, 0), (-2147483648, -1, false, 4, 0), (-2147483648, 2147483647, false, 5, 0), (-2147483648, 2147483647, false, 6, 0), (-2147483648, 2147483647, false, 7, 0), (0, 8, false, 8, 0)], []),
  (1298, lw_lo, [], [(1, 8, 0, 0), (1, 8, 0, 0)], [(0, 0, false, 0, 0), (0, 2555, false, 1, 0), (0, 0, false, 2, 0), (-2147483648, 2147483647, false, 3, 0), (1, 2147483647, false, 4, 0), (-2147483648, 2147483647, false, 5, 0), (-2147483648, 2147483647, false, 6, 0), (-2147483648, 2147483647, false, 7, 0), (0, 8, false, 8, 0)], [(5, 4, 8, 4, 1), (5, 4, 8, 4, 1)]),
  (1298, lw_lo, [], [(1, 4, 0, 0), (1, 4, 0, 0)], [(0, 0, false, 0, 0), (0, 2555, false, 1, 0), (0, 0, false, 2, 0), (-2147483648, 2147483647, false, 3, 0), (0, 8, false, 4, 0), (-2147483648, 2147483647, false, 5, 0), (-2147483648, 2147483647, false, 6, 0), (-2147483648, 2147483647, false, 7, 0), (0, 8, false, 8, 0)], [(4, 4, 8, 4, 1), (4, 4, 8, 4, 1)])]
theorem ct7_r : ((ai_ex (hk ct7_W) 200 169 tb_m169 11 [1298] (459, lw_lo, [], ct7_en, [(1, 3, (1, 8, 0, 0)), (50, 26, (1, 8, 0, 0))], [])).any fun xs => xs.all fun x => ct7_S.any fun t => sm_is [(1, 3), (50, 26)] x t) = true := by decide +kernel
/-- the plan becomes another; all else stays -/
theorem Inv.plan {W : List (Nat × Nat × Nat)} {ws ws' : va_W} {t : Nat} {g : Nat → Int} {u q y : Int} {n : Nat} {k0 k1 : Int} {E : Nat → Int} {a a' : Nat} {P P' : Nat → Int} (hb : baI ws t g u q y n k0 k1) (hp : pgI ws 1 0 n E a P) (hi0 : k0 = 1 → imI ws 0 n) (hi1 : k1 = 1 → imI ws 1 n) (hs : shI ws) (hw' : ai_wd tb_TY ad tys ws') (hf : ai_fr W ws ws') (hW : wrG W = true) (hW2 : (nwr W [(0, 10), (49, 24), (1, 0), (1, 1), (1, 2)] && (nowr W 2 && (nowr W 3 && (nowr W 4 && (nowr W 5 && (List.range 18).all fun j => !(ai_wr W 50 j j)))))) = true) (v1 : vi ws' 1 3 a' ∧ vi ws' 50 26 a' ∧ a' ≤ 8) (v2 : ∀ j, j < a' → vi ws' 6 j (P' j) ∧ vi ws' 50 (18 + j) (P' j) ∧ (P' j = 4 ∨ (0 ≤ P' j ∧ P' j < n))) : Inv ws' := by
  obtain ⟨w0, wA⟩ := band hW2
  obtain ⟨w2, wB⟩ := band wA
  obtain ⟨w3, wC⟩ := band wB
  obtain ⟨w4, wD⟩ := band wC
  obtain ⟨w5, w50⟩ := band wD
  have w : ∀ {c i : Nat}, (c, i) ∈ [(0, 10), (49, 24), (1, 0), (1, 1), (1, 2)] → ai_wr W c i i = false := fun hm => nwr_at w0 hm
  have wp : ∀ j, j < 18 → ai_wr W 50 j j = false := fun j hj => by
    have := List.all_eq_true.mp w50 j (List.mem_range.mpr hj)
    rw [Bool.not_eq_true'] at this
    exact this
  obtain ⟨hn1, hn2, hn4⟩ := hb.2.2.2.2.1
  obtain ⟨hc, he, hg⟩ := hp.1
  refine Inv.gen (y' := y) hb hi0 hi1 hs hw' hf hW ⟨hb.2.2.2.1.1.fr hf (w (by decide)), hb.2.2.2.1.2.fr hf (w (by decide))⟩ (hn1.fr hf (w (by decide))) (E' := E) (a := a') (P := P') ⟨⟨⟨fun i hi => ?_, hc.2.1.fr hf (w (by decide)), hc.2.2.fr hf (w (by decide))⟩, he.fr hn4 hf wp, hg⟩, v1, v2⟩
  obtain ⟨x1, x2, x3, x4⟩ := hc.1 i hi
  exact ⟨x1.fr hf (nowr_ok w2 i i), x2.fr hf (nowr_ok w3 i i), x3.fr hf (nowr_ok w4 i i), x4.fr hf (nowr_ok w5 i i)⟩
theorem lw_cut {i q0 q49 : Nat} {ws : va_W} (C : ai_cx tb_m169 11 p R s m args c D tys A b L sx cells slots) (e0 : ad[0]? = some q0) (e49 : ad[49]? = some q49) (hi : i + 5 ≤ L) (hL : L ≤ 2560) (hw : ai_wd tb_TY ad tys ws) (hI : Inv ws)
    (k : ∀ wc, ai_wd tb_TY ad tys wc → Inv wc → hG tb_m169 p l e R s m args below meth c D A cells slots Q 1298 [(0, .ref b), (1, .ref q0), (2, .ref q49), (3, .int (nI i))] [] wc) : hG tb_m169 p l e R s m args below meth c D A cells slots Q 459 [(0, .ref b), (1, .ref q0), (2, .ref q49), (3, .int (nI i))] [] ws := by
  have b0 := ai_irg (sx i)
  have b1 := ai_irg (sx (i + 1))
  have b2 := ai_irg (sx (i + 2))
  have b3 := ai_irg (sx (i + 3))
  have b4 := ai_irg (sx (i + 4))
  obtain ⟨t, g, u, q, y, n, j0, j1, E, a, P, hb, hp, hi0, hi1, hs⟩ := hI
  obtain ⟨p3, p26, p8⟩ := hp.2.1
  have hpl := hp.2.2
  refine lw_sum (rr := [(a : Int)]) C e0 e49 hi hL hw ct7_r rfl (en_mk (by simp only [lw_r, ct7_en, lw_en, List.cons_append, List.nil_append, en_b, and_true]; omega) rfl) sb0 (kc (p3.kn (n := 8) (t := (a : Int)) rfl (by omega)) (kc (p26.kn (n := 8) (t := (a : Int)) rfl (by omega)) k0)) (fun t ht r' ws' hx' hbb hl hw' hv hf => ?_)
  have h4 := nm_x hx' (k := 4) rfl
  have h8 := nm_x hx' (k := 8) rfl
  have fin : ∀ a' : Nat, a' ≤ a → vi ws' 1 3 a' → vi ws' 50 26 a' → hG tb_m169 p l e R s m args below meth c D A cells slots Q 1298 [(0, .ref b), (1, .ref q0), (2, .ref q49), (3, .int (nI i))] [] ws' := fun a' ha v1 v2 => k ws' hw' (Inv.plan (P' := P) hb hp hi0 hi1 hs hw' hf (by decide) (by decide) ⟨v1, v2, by omega⟩ (fun j hj => by
    obtain ⟨x1, x2, x3⟩ := hpl j (by omega)
    exact ⟨x1.fr hf (nowr_ok (c := 6) (by decide) j j), x2.fr hf (wr_no fun q hq => by
      unfold ct7_W at hq
      simp only [List.mem_cons, List.not_mem_nil, or_false] at hq
      rcases hq with rfl | rfl <;> dsimp only <;> omega), x3⟩))
  unfold ct7_S at ht
  rcases List.mem_cons.mp ht with rfl | ht
  · obtain ⟨v1, v2, -⟩ := hv
    exact fin a (Nat.le_refl _) (v1.eq (by dsimp only; omega)) (v2.eq (by dsimp only; omega))
  rcases List.mem_cons.mp ht with rfl | ht
  · obtain ⟨v1, v2, -⟩ := hv
    exact fin a (Nat.le_refl _) (v1.eq (by dsimp only; omega)) (v2.eq (by dsimp only; omega))
  rcases List.mem_cons.mp ht with rfl | ht
  · obtain ⟨v1, v2, -⟩ := hv
    simp (config := { decide := true }) only [bnd_b, lin_b, lin_q, Nat.reduceAdd, Nat.zero_add, Nat.reduceEqDiff, reduceIte, and_true, Int.add_zero] at hbb hl
    exact fin (sx (i + 1)).toInt.toNat (by omega) (v1.eq (by dsimp only; omega)) (v2.eq (by dsimp only; omega))
  · cases ht
/-- plan -/
def pn_en : List ai_e := lw_en ++ [(0, 4, false, 8, 0), (-2147483648, 2147483647, false, 9, 0), (0, 4, false, 10, 0)]
def pn_W (a : Nat) : List (Nat × Nat × Nat) := [(1, 3, 4), (6, a, a + 1), (50, 26, 27), (50, 18 + a, 19 + a)]
def pn_S (a : Nat) : List sm_t := [
  (1298, lw_lo, [], [(1, 0, 0, (a : Int) + 1), (1, 0, 0, (a : Int) + 1), (1, 4, 0, 0), (1, 4, 0, 0)], [(0, 0, false, 0, 0), (0, 2555, false, 1, 0), (0, 0, false, 2, 0), (-2147483648, 2147483647, false, 3, 0), (4, 4, false, 4, 0), (-2147483648, 2147483647, false, 5, 0), (-2147483648, 2147483647, false, 6, 0), (-2147483648, 2147483647, false, 7, 0), (0, 4, false, 8, 0), (-2147483648, 2147483647, false, 9, 0), (0, 4, false, 10, 0)], []),
  (1298, lw_lo, [], [(1, 0, 0, (a : Int)), (1, 0, 0, (a : Int)), (1, 9, 0, 0), (1, 10, 0, 0)], [(0, 0, false, 0, 0), (0, 2555, false, 1, 0), (0, 0, false, 2, 0), (-2147483648, 2147483647, false, 3, 0), (-2147483648, -1, false, 4, 0), (-2147483648, 2147483647, false, 5, 0), (-2147483648, 2147483647, false, 6, 0), (-2147483648, 2147483647, false, 7, 0), (0, 4, false, 8, 0), (-2147483648, 2147483647, false, 9, 0), (0, 4, false, 10, 0)], [(140, 4, 0, 4, 4), (140, 4, 0, 4, 4)]),
  (1298, lw_lo, [], [(1, 0, 0, (a : Int)), (1, 0, 0, (a : Int)), (1, 9, 0, 0), (1, 10, 0, 0)], [(0, 0, false, 0, 0), (0, 2555, false, 1, 0), (0, 0, false, 2, 0), (-2147483648, 2147483647, false, 3, 0), (0, 2147483647, false, 4, 0), (-2147483648, 2147483647, false, 5, 0), (-2147483648, 2147483647, false, 6, 0), (-2147483648, 2147483647, false, 7, 0), (0, 4, false, 8, 0), (-2147483648, 2147483647, false, 9, 0), (0, 4, false, 10, 0)], [(140, 4, 0, 4, 4), (5, 4, 8, 4, 0), (5, 4, 8, 4, 0), (140, 4, 0, 4, 4)]),
  (1298, lw_lo, [], [(1, 0, 0, (a : Int) + 1), (1, 0, 0, (a : Int) + 1), (1, 4, 0, 0), (1, 4, 0, 0)], [(0, 0, false, 0, 0), (0, 2555, false, 1, 0), (0, 0, false, 2, 0), (-2147483648, 2147483647, false, 3, 0), (0, 3, false, 4, 0), (-2147483648, 2147483647, false, 5, 0), (-2147483648, 2147483647, false, 6, 0), (-2147483648, 2147483647, false, 7, 0), (1, 4, false, 8, 0), (-2147483648, 2147483647, false, 9, 0), (0, 4, false, 10, 0)], [(4, 4, 8, 4, 0), (4, 4, 8, 4, 0), (140, 4, 0, 4, 4)])]
def pn_kn (a : Nat) : List ai_k := [(1, 0, (1, 8, 0, 0)), (49, 1, (1, 8, 0, 0)), (1, 3, (1, 0, 0, (a : Int))), (50, 26, (1, 0, 0, (a : Int))), (6, a, (1, 9, 0, 0)), (50, 18 + a, (1, 10, 0, 0))]
noncomputable def pn_r (a : Nat) : Bool := (ai_ex (hk (pn_W a)) 300 169 tb_m169 11 [1298] (436, lw_lo, [], pn_en, pn_kn a, [])).any fun xs => xs.all fun x => (pn_S a).any fun t => sm_is [(1, 3), (50, 26), (6, a), (50, 18 + a)] x t
theorem pn_ra : ((List.range 8).all pn_r) = true := by decide +kernel
theorem pn_r8 : ((ai_ex (hk []) 300 169 tb_m169 11 [1298] (436, lw_lo, [], lw_en ++ [(0, 4, false, 8, 0)], [(1, 0, (1, 8, 0, 0)), (49, 1, (1, 8, 0, 0)), (1, 3, (1, 0, 0, 8)), (50, 26, (1, 0, 0, 8))], [])).any fun xs => xs.all lw_un) = true := by decide +kernel
end LWS
