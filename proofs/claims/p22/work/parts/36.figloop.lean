/-! .. its rounds by hand, until it ends -/
section MFL
variable {ad : List Nat} {p : Program} {l : Launch} {e : Env} {R : Room} {s : State} {m : MethodId} {args : Array Value} {below : List Frame} {meth : Method} {c : Code} {D : va_G} {tys : ai_ty} {A : Nat → Prop} {b L : Nat} {sx : Nat → Int32} {cells slots : Nat} {Q : State → Prop}
theorem mf_back (C : ai_cx tb_m104 5 p R s m args c D tys A b L sx cells slots) {ws : va_W} {lv : List (Nat × Value)} (k : hG tb_m104 p l e R s m args below meth c D A cells slots Q 140 lv [] ws) : hG tb_m104 p l e R s m args below meth c D A cells slots Q 214 lv [] ws := by
  intro H locs ls hP hD hS hl
  exact lv_goto (tgt := 140) C.1 C.2.1 (tv_m104.1.1.1 (214, .goto (-74), 3) (List.mem_of_getElem? (i := 106) rfl)) (by decide) (k H locs ls hP hD hS hl)
theorem mf_stC (C : ai_cx tb_m104 5 p R s m args c D tys A b L sx cells slots) {ws : va_W} {zn zh zc zv : Int32} {g : Nat → Int} (hw : ai_wd tb_TY ad tys ws) (hn : ai_sl ws 49 7 (.int zn)) (hh : ai_sl ws 49 12 (.int zh)) (hc : ai_sl ws 49 11 (.int zc)) (hv : ai_sl ws 49 14 (.int zv)) (h2 : zh.toInt + 2 ≤ zc.toInt) (hg : ∀ i, i < 160 → fx_o ws 52 i = some (g i)) {lv : List (Nat × Value)} (hlv : ai_lo ad b [0] ms_lo lv)
    (k1 : ∀ (ws' : va_W) (lv' : List (Nat × Value)), ai_wd tb_TY ad tys ws' → ai_fr mf_WR ws ws' → ai_sl ws' 49 11 (.int zc) → ai_sl ws' 49 14 (.int zv) → ai_lo ad b [0] ms_lo lv' → (zn.toInt.toNat ≤ zc.toInt.toNat ∨ g zc.toInt.toNat < 48 ∨ 57 < g zc.toInt.toNat) → hG tb_m104 p l e R s m args below meth c D A cells slots Q 217 lv' [] ws')
    (k2 : ∀ (ws' : va_W) (lv' : List (Nat × Value)) (zc' : Int32), ai_wd tb_TY ad tys ws' → ai_fr mf_WR ws ws' → ai_sl ws' 49 11 (.int zc') → ai_sl ws' 49 14 (.int zv) → zc'.toInt = zc.toInt + 1 → zc.toInt < zn.toInt → 48 ≤ g zc.toInt.toNat → g zc.toInt.toNat ≤ 57 → ai_lo ad b [0] ms_lo lv' → hG tb_m104 p l e R s m args below meth c D A cells slots Q 214 lv' [] ws') : hG tb_m104 p l e R s m args below meth c D A cells slots Q 140 lv [] ws := by
  obtain ⟨n0, n1⟩ := f49 (i := 7) hw hn rfl
  obtain ⟨c0, c1⟩ := f49 (i := 11) hw hc rfl
  obtain ⟨i0, i1⟩ := f49 (i := 12) hw hh rfl
  obtain ⟨v0, v1⟩ := f49 (i := 14) hw hv rfl
  obtain ⟨xs, h1, h3⟩ := ai_anyE mf_rC
  have gm : ai_gm tb_TY mf_WR ws ad b L sx tys tb_m104.2.2.2.2.1 [0, 0, zn.toInt, zh.toInt, zc.toInt, zv.toInt] mf_C lv [] ws := by
    refine ⟨en_mk (by simp only [mf_C, mf_e, List.cons_append, List.nil_append, en_b, and_true]; omega) rfl, fun q hq => ?_, lo0_ok (r := [0]) rfl rfl rfl hlv, trivial, hw, kc (kn1 hn (n := 2) (t := zn.toInt) rfl (by omega)) (kc (kn1 hh (n := 3) (t := zh.toInt) rfl (by omega)) (kc (kn1 hc (n := 4) (t := zc.toInt) rfl (by omega)) (kc (kn1 hv (n := 5) (t := zv.toInt) rfl (by omega)) k0))), fun _ _ _ _ h => h, fun h => by cases h⟩
    rw [List.mem_singleton.mp hq]
    exact ⟨zc.toInt, zh.toInt, zc.toInt, rfl, rfl, rfl, fun h => absurd (show (5 : Nat) = 0 from h) (by decide), fun h => absurd (show (5 : Nat) = 1 from h) (by decide), fun h => absurd (show (5 : Nat) = 2 from h) (by decide), fun h => absurd (show (5 : Nat) = 4 from h) (by decide), fun _ => h2, fun h => absurd (show (100 : Nat) ≤ 5 from h) (by decide)⟩
  refine hseg (st := mf_C) h1 rfl C gm (fun x hx r' lv' sk' ws' hx' g' => ?_)
  obtain ⟨g1, g2, g3, g4, g5, g6, g7, g8⟩ := g'
  have r0 : r'[0]? = some 0 := hx'.at rfl
  have r2 : r'[2]? = some zn.toInt := hx'.at rfl
  have r3 : r'[3]? = some zh.toInt := hx'.at rfl
  have r4 : r'[4]? = some zc.toInt := hx'.at rfl
  have r5 : r'[5]? = some zv.toInt := hx'.at rfl
  have hox := List.all_eq_true.mp h3 x hx
  unfold mf_okC at hox
  rw [Bool.and_eq_true, Bool.or_eq_true] at hox
  obtain ⟨hs, hox⟩ := hox
  have hsk : sk' = [] := by
    rw [List.isEmpty_iff.mp hs] at g4
    exact g4.nil
  subst hsk
  rcases hox with hox | hox
  · exfalso
    obtain ⟨q, hq, hox⟩ := List.any_eq_true.mp hox
    rw [Bool.and_eq_true, Bool.and_eq_true, Bool.and_eq_true, Bool.and_eq_true, ai_beq, ai_beq, ai_beq, decide_eq_true_eq] at hox
    obtain ⟨a1, a2, a3, a4, a5⟩ := hox
    obtain ⟨za, zb, zr, e1, e2, e3, e4, -⟩ := g2 q hq
    rw [a2, r4] at e1
    rw [a3, r3] at e2
    cases e1
    cases e2
    have e5 := e4 a1
    obtain ⟨e0, b1, b2, b3⟩ := ai_any g1 e3 a5
    rw [decide_eq_true_eq] at b1
    omega
  · have keepv : ∀ {v : Nat} {z : Int32} {i : Nat}, ai_lk x.2.2.2.2.1 49 i = some (1, v, 0, 0) → r'[v]? = some z.toInt → ai_sl ws' 49 i (.int z) := fun {v z i} hl hr => by
      obtain ⟨x1, s1, d1⟩ := ai_lk_ok g6 hl
      obtain ⟨j, rfl, hj⟩ := dvn d1 hr
      have hjz : j = z := Int32.toInt_inj.mp (by rw [hj]; omega)
      rw [← hjz]
      exact s1
    rw [Bool.or_eq_true] at hox
    rcases hox with hox | hox
    · rw [Bool.and_eq_true, Bool.and_eq_true, Bool.and_eq_true, Bool.and_eq_true, ai_beq, decide_eq_true_eq, Bool.or_eq_true] at hox
      obtain ⟨p1, p2, p3, p0, p4⟩ := hox
      have p2 := keepv (decide_eq_true_eq.mp p2) r4
      have p3 := keepv (decide_eq_true_eq.mp p3) r5
      rw [p1]
      refine k1 ws' lv' g5 g7 p2 p3 (lo0_ok r0 rfl rfl (by rw [← p0]; exact g3)) ?_
      rcases p4 with p4 | p4
      · have := av_f5 g2 r4 r2 p4
        exact Or.inl (by omega)
      · rw [Bool.and_eq_true] at p4
        have h4 := av_f4 g2 r4 r2 p4.1
        exact Or.inr (mg_outok g1 g2 r4 (by rw [Int.add_zero]; exact hg _ (by omega)) p4.2)
    · rw [Bool.and_eq_true, Bool.and_eq_true, Bool.and_eq_true, Bool.and_eq_true, Bool.and_eq_true, ai_beq, decide_eq_true_eq] at hox
      obtain ⟨p1, p2, p3, p4, p5, p6⟩ := hox
      have p3 := keepv (decide_eq_true_eq.mp p3) r5
      obtain ⟨x1, s1, d1⟩ := ai_lk_ok g6 (decide_eq_true_eq.mp p2)
      obtain ⟨i, rfl, hi⟩ := dvn d1 r4
      have h4 := av_f4 g2 r4 r2 p5
      obtain ⟨b1, b2⟩ := mg_inok g1 g2 r4 (by rw [Int.add_zero]; exact hg _ (by omega)) p6
      rw [p1]
      exact k2 ws' lv' i g5 g7 s1 p3 hi (by omega) b1 b2 (lo0_ok r0 rfl rfl (by rw [← p4]; exact g3))
theorem mf_loopC (C : ai_cx tb_m104 5 p R s m args c D tys A b L sx cells slots) {zn zh zv : Int32} {g : Nat → Int} :
    ∀ (N : Nat) (ws : va_W) (zc : Int32) (lv : List (Nat × Value)), (160 - zc.toInt).toNat < N → ai_wd tb_TY ad tys ws → ai_sl ws 49 7 (.int zn) → ai_sl ws 49 12 (.int zh) → ai_sl ws 49 11 (.int zc) → ai_sl ws 49 14 (.int zv) → zh.toInt + 2 ≤ zc.toInt → (∀ i, i < 160 → fx_o ws 52 i = some (g i)) → ai_lo ad b [0] ms_lo lv →
    (∀ (ws' : va_W) (lv' : List (Nat × Value)) (ze : Int32), ai_wd tb_TY ad tys ws' → ai_fr mf_WR ws ws' → ai_sl ws' 49 11 (.int ze) → ai_sl ws' 49 14 (.int zv) → ai_lo ad b [0] ms_lo lv' → ze.toInt.toNat = tp_skip g zn.toInt.toNat 48 57 zc.toInt.toNat → hG tb_m104 p l e R s m args below meth c D A cells slots Q 217 lv' [] ws') → hG tb_m104 p l e R s m args below meth c D A cells slots Q 140 lv [] ws := by
  intro N
  induction N with
  | zero => exact fun ws zc lv h => absurd h (Nat.not_lt_zero _)
  | succ N ih =>
    intro ws zc lv hN hw hn hh hc hv h2 hg hlv k
    obtain ⟨n0, n1⟩ := f49 (i := 7) hw hn rfl
    obtain ⟨c0, c1⟩ := f49 (i := 11) hw hc rfl
    refine mf_stC C hw hn hh hc hv h2 hg hlv (fun ws' lv' hw' hf hc' hv' hlo ho => ?_) (fun ws' lv' zc' hw' hf hc' hv' e1 hlt a1 a2 hlv' => ?_)
    · refine k ws' lv' zc hw' hf hc' hv' hlo ?_
      rw [tp_skip_out]
      omega
    · refine mf_back C (ih ws' zc' lv' (by omega) hw' (hf 49 7 _ (by decide) hn) (hf 49 12 _ (by decide) hh) hc' hv' (by omega) (fun i hi => fr_fx hw' (k := 52) rfl hf (by unfold ai_wr mf_WR; simp) (hg i hi)) hlv' (fun ws2 lv2 ze hw2 hf2 h7 h8 hlo e3 => ?_))
      refine k ws2 lv2 ze hw2 (hf.tr hf2) h7 h8 hlo ?_
      rw [e3, tp_skip_in (p := zc.toInt.toNat) (by omega) a1 a2, show zc'.toInt.toNat = zc.toInt.toNat + 1 by omega]
theorem mf_stB (C : ai_cx tb_m104 5 p R s m args c D tys A b L sx cells slots) {ws : va_W} {zn zh zc zv : Int32} {g : Nat → Int} (hw : ai_wd tb_TY ad tys ws) (hn : ai_sl ws 49 7 (.int zn)) (hh : ai_sl ws 49 12 (.int zh)) (hc : ai_sl ws 49 11 (.int zc)) (hv : ai_sl ws 49 14 (.int zv)) (h2 : zc.toInt = zh.toInt + 1) (v0 : 0 ≤ zv.toInt) (v1 : zv.toInt ≤ 9) (hg : ∀ i, i < 160 → fx_o ws 52 i = some (g i)) {lv : List (Nat × Value)} (hlv : ai_lo ad b [0] ms_lo lv)
    (k1 : ∀ (ws' : va_W) (lv' : List (Nat × Value)), ai_wd tb_TY ad tys ws' → ai_fr mf_WR ws ws' → ai_sl ws' 49 11 (.int zc) → ai_sl ws' 49 14 (.int zv) → ai_lo ad b [0] ms_lo lv' → (zn.toInt.toNat ≤ zc.toInt.toNat ∨ g zc.toInt.toNat < 48 ∨ 57 < g zc.toInt.toNat) → hG tb_m104 p l e R s m args below meth c D A cells slots Q 217 lv' [] ws')
    (k2 : ∀ (ws' : va_W) (lv' : List (Nat × Value)) (zc' zv' : Int32), ai_wd tb_TY ad tys ws' → ai_fr mf_WR ws ws' → ai_sl ws' 49 11 (.int zc') → ai_sl ws' 49 14 (.int zv') → zc'.toInt = zc.toInt + 1 → zv'.toInt = 10 * zv.toInt + (g zc.toInt.toNat - 48) → zc.toInt < zn.toInt → 48 ≤ g zc.toInt.toNat → g zc.toInt.toNat ≤ 57 → ai_lo ad b [0] ms_lo lv' → hG tb_m104 p l e R s m args below meth c D A cells slots Q 214 lv' [] ws') : hG tb_m104 p l e R s m args below meth c D A cells slots Q 140 lv [] ws := by
  obtain ⟨n0, n1⟩ := f49 (i := 7) hw hn rfl
  obtain ⟨c0, c1⟩ := f49 (i := 11) hw hc rfl
  obtain ⟨i0, i1⟩ := f49 (i := 12) hw hh rfl
  obtain ⟨xs, h1, h3⟩ := ai_anyE mf_rB
  have gm : ai_gm tb_TY mf_WR ws ad b L sx tys tb_m104.2.2.2.2.1 [0, 0, zn.toInt, zh.toInt, zv.toInt] mf_B lv [] ws := by
    refine ⟨en_mk (by simp only [mf_B, mf_e, List.cons_append, List.nil_append, en_b, and_true]; omega) rfl, (fun q hq => by cases hq), lo0_ok (r := [0]) rfl rfl rfl hlv, trivial, hw, kc (kn1 hn (n := 2) (t := zn.toInt) rfl (by omega)) (kc (kn1 hh (n := 3) (t := zh.toInt) rfl (by omega)) (kc (kn1 hc (n := 3) (t := zh.toInt) rfl (by omega)) (kc (kn1 hv (n := 4) (t := zv.toInt) rfl (by omega)) k0))), fun _ _ _ _ h => h, fun h => by cases h⟩
  refine hseg (st := mf_B) h1 rfl C gm (fun x hx r' lv' sk' ws' hx' g' => ?_)
  obtain ⟨g1, g2, g3, g4, g5, g6, g7, g8⟩ := g'
  have r0 : r'[0]? = some 0 := hx'.at rfl
  have r2 : r'[2]? = some zn.toInt := hx'.at rfl
  have r3 : r'[3]? = some zh.toInt := hx'.at rfl
  have r4 : r'[4]? = some zv.toInt := hx'.at rfl
  have ez : (zh.toInt + 1).toNat = zc.toInt.toNat := by omega
  have hox := List.all_eq_true.mp h3 x hx
  unfold mf_okB at hox
  rw [Bool.and_eq_true, Bool.or_eq_true] at hox
  obtain ⟨hs, hox⟩ := hox
  have hsk : sk' = [] := by
    rw [List.isEmpty_iff.mp hs] at g4
    exact g4.nil
  subst hsk
  rcases hox with hox | hox
  · exact (mf_badok g1 g2 r3 (by decide) hox).elim
  rw [Bool.or_eq_true] at hox
  rcases hox with hox | hox
  · rw [Bool.and_eq_true, Bool.and_eq_true, Bool.and_eq_true, Bool.and_eq_true, ai_beq, decide_eq_true_eq, Bool.or_eq_true] at hox
    obtain ⟨p1, p2, p3, p0, p4⟩ := hox
    obtain ⟨x1, s1, d1⟩ := ai_lk_ok g6 (decide_eq_true_eq.mp p2)
    obtain ⟨j, rfl, hj⟩ := dvn d1 r3
    have hjz : j = zc := Int32.toInt_inj.mp (by omega)
    obtain ⟨x2, s2, d2⟩ := ai_lk_ok g6 (decide_eq_true_eq.mp p3)
    obtain ⟨i, rfl, hi⟩ := dvn d2 r4
    have hiz : i = zv := Int32.toInt_inj.mp (by omega)
    rw [hjz] at s1
    rw [hiz] at s2
    rw [p1]
    refine k1 ws' lv' g5 g7 s1 s2 (lo0_ok r0 rfl rfl (by rw [← p0]; exact g3)) ?_
    rcases p4 with p4 | p4
    · have := av_f5 g2 r3 r2 p4
      exact Or.inl (by omega)
    · rw [Bool.and_eq_true] at p4
      have h4 := av_f4 g2 r3 r2 p4.1
      exact Or.inr (mg_outok g1 g2 r3 (by rw [ez]; exact hg _ (by omega)) p4.2)
  · rw [Bool.and_eq_true, Bool.and_eq_true, Bool.and_eq_true, Bool.and_eq_true, Bool.and_eq_true, ai_beq, decide_eq_true_eq] at hox
    obtain ⟨p1, p2, p3, p4, p5, p6⟩ := hox
    obtain ⟨x1, s1, d1⟩ := ai_lk_ok g6 (decide_eq_true_eq.mp p2)
    obtain ⟨i, rfl, hi⟩ := dvn d1 r3
    have h4 := av_f4 g2 r3 r2 p4
    have hb : fx_o ws 52 (zh.toInt + 1).toNat = some (g zc.toInt.toNat) := by rw [ez]; exact hg _ (by omega)
    obtain ⟨b1, b2⟩ := mg_inok g1 g2 r3 hb p5
    obtain ⟨v, l14, p6⟩ := ai_anyE p6
    rw [Bool.and_eq_true, Bool.and_eq_true, decide_eq_true_eq] at p6
    obtain ⟨ev, p7, p8⟩ := p6
    obtain ⟨q, hq, p8⟩ := List.any_eq_true.mp p8
    rw [Bool.and_eq_true, Bool.and_eq_true, Bool.and_eq_true, Bool.and_eq_true, ai_beq, ai_beq, decide_eq_true_eq] at p8
    obtain ⟨q1, q2, q3, q4, q5⟩ := p8
    obtain ⟨vb, eb, t1, t2, -, -⟩ := mg_ok g1 g2 r3 hb q4
    have t1 := ai_beq.mp t1
    obtain ⟨q', hq', f1, f2, f3, f4, f5⟩ := av_mem q5
    obtain ⟨ua, ub, ur, -, -, -, -, -, -, -, -, u9⟩ := g2 q' hq'
    obtain ⟨y1, y2, w1, w2, -, -, w3, -⟩ := (u9 (by omega)).2.1 (by omega)
    rw [f2, r4] at w1
    cases w1
    have w3 := w3 (by omega)
    rw [f1, f4] at w3
    rw [f5 _ rfl] at w2
    obtain ⟨ya, yb, yr, z1, z2, z3, -, z4, -⟩ := g2 q hq
    have z5 := z4 q1
    rw [w2] at z1
    cases z1
    rw [← t1, t2] at z2
    cases z2
    rw [q3] at z5
    rw [q2] at z3
    obtain ⟨e0, c3, c4, c5⟩ := ai_any g1 z3 p7
    rw [Bool.and_eq_true, decide_eq_true_eq, decide_eq_true_eq] at c3
    obtain ⟨x2, s2, d2⟩ := ai_lk_ok g6 l14
    rw [ev] at d2
    obtain ⟨zv', rfl, hv'⟩ := dvn d2 z3
    have w4 : y2 = 10 * zv.toInt := by rw [w3]; show ((510 - 500 : Nat) : Int) * (zv.toInt + 0) = _; omega
    rw [p1]
    exact k2 ws' lv' i zv' g5 g7 s1 s2 (by omega) (by omega) (by omega) b1 b2 (lo0_ok r0 rfl rfl (by rw [← p3]; exact g3))
theorem mf_stA (C : ai_cx tb_m104 5 p R s m args c D tys A b L sx cells slots) {ws : va_W} {zn zc zv : Int32} {g : Nat → Int} (hw : ai_wd tb_TY ad tys ws) (hn : ai_sl ws 49 7 (.int zn)) (hh : ai_sl ws 49 12 (.int zc)) (hc : ai_sl ws 49 11 (.int zc)) (hv : ai_sl ws 49 14 (.int zv)) (v0 : zv.toInt = 0) (hg : ∀ i, i < 160 → fx_o ws 52 i = some (g i)) {lv : List (Nat × Value)} (hlv : ai_lo ad b [0] ms_lo lv)
    (k1 : ∀ (ws' : va_W) (lv' : List (Nat × Value)), ai_wd tb_TY ad tys ws' → ai_fr mf_WR ws ws' → ai_sl ws' 49 11 (.int zc) → ai_sl ws' 49 14 (.int zv) → ai_lo ad b [0] ms_lo lv' → (zn.toInt.toNat ≤ zc.toInt.toNat ∨ g zc.toInt.toNat < 48 ∨ 57 < g zc.toInt.toNat) → hG tb_m104 p l e R s m args below meth c D A cells slots Q 217 lv' [] ws')
    (k2 : ∀ (ws' : va_W) (lv' : List (Nat × Value)) (zc' zv' : Int32), ai_wd tb_TY ad tys ws' → ai_fr mf_WR ws ws' → ai_sl ws' 49 11 (.int zc') → ai_sl ws' 49 14 (.int zv') → zc'.toInt = zc.toInt + 1 → zv'.toInt = g zc.toInt.toNat - 48 → zc.toInt < zn.toInt → 48 ≤ g zc.toInt.toNat → g zc.toInt.toNat ≤ 57 → ai_lo ad b [0] ms_lo lv' → hG tb_m104 p l e R s m args below meth c D A cells slots Q 214 lv' [] ws') : hG tb_m104 p l e R s m args below meth c D A cells slots Q 140 lv [] ws := by
  obtain ⟨n0, n1⟩ := f49 (i := 7) hw hn rfl
  obtain ⟨c0, c1⟩ := f49 (i := 11) hw hc rfl
  obtain ⟨xs, h1, h3⟩ := ai_anyE mf_rA
  have gm : ai_gm tb_TY mf_WR ws ad b L sx tys tb_m104.2.2.2.2.1 [0, 0, zn.toInt, zc.toInt] mf_A lv [] ws := by
    refine ⟨en_mk (by simp only [mf_A, mf_e, en_b, and_true]; omega) rfl, (fun q hq => by cases hq), lo0_ok (r := [0]) rfl rfl rfl hlv, trivial, hw, kc (kn1 hn (n := 2) (t := zn.toInt) rfl (by omega)) (kc (kn1 hh (n := 3) (t := zc.toInt) rfl (by omega)) (kc (kn1 hc (n := 3) (t := zc.toInt) rfl (by omega)) (kc (kn1 hv (n := 0) (t := 0) rfl (by omega)) k0))), fun _ _ _ _ h => h, fun h => by cases h⟩
  refine hseg (st := mf_A) h1 rfl C gm (fun x hx r' lv' sk' ws' hx' g' => ?_)
  obtain ⟨g1, g2, g3, g4, g5, g6, g7, g8⟩ := g'
  have r0 : r'[0]? = some 0 := hx'.at rfl
  have r2 : r'[2]? = some zn.toInt := hx'.at rfl
  have r3 : r'[3]? = some zc.toInt := hx'.at rfl
  have ez : (zc.toInt + 0).toNat = zc.toInt.toNat := by omega
  have hox := List.all_eq_true.mp h3 x hx
  unfold mf_okA at hox
  rw [Bool.and_eq_true, Bool.or_eq_true] at hox
  obtain ⟨hs, hox⟩ := hox
  have hsk : sk' = [] := by
    rw [List.isEmpty_iff.mp hs] at g4
    exact g4.nil
  subst hsk
  rcases hox with hox | hox
  · exact (mf_badok g1 g2 r3 (by decide) hox).elim
  rw [Bool.or_eq_true] at hox
  rcases hox with hox | hox
  · rw [Bool.and_eq_true, Bool.and_eq_true, Bool.and_eq_true, Bool.and_eq_true, ai_beq, decide_eq_true_eq, Bool.or_eq_true] at hox
    obtain ⟨p1, p2, p3, p0, p4⟩ := hox
    obtain ⟨x1, s1, d1⟩ := ai_lk_ok g6 (decide_eq_true_eq.mp p2)
    obtain ⟨j, rfl, hj⟩ := dvn d1 r3
    have hjz : j = zc := Int32.toInt_inj.mp (by omega)
    obtain ⟨x2, s2, d2⟩ := ai_lk_ok g6 (decide_eq_true_eq.mp p3)
    obtain ⟨i, rfl, hi⟩ := dvn d2 r0
    have hiz : i = zv := Int32.toInt_inj.mp (by omega)
    rw [hjz] at s1
    rw [hiz] at s2
    rw [p1]
    refine k1 ws' lv' g5 g7 s1 s2 (lo0_ok r0 rfl rfl (by rw [← p0]; exact g3)) ?_
    rcases p4 with p4 | p4
    · have := av_f5 g2 r3 r2 p4
      exact Or.inl (by omega)
    · rw [Bool.and_eq_true] at p4
      have h4 := av_f4 g2 r3 r2 p4.1
      exact Or.inr (mg_outok g1 g2 r3 (by rw [ez]; exact hg _ (by omega)) p4.2)
  · rw [Bool.and_eq_true, Bool.and_eq_true, Bool.and_eq_true, Bool.and_eq_true, Bool.and_eq_true, ai_beq, decide_eq_true_eq] at hox
    obtain ⟨p1, p2, p3, p4, p5, p6⟩ := hox
    obtain ⟨x1, s1, d1⟩ := ai_lk_ok g6 (decide_eq_true_eq.mp p2)
    obtain ⟨i, rfl, hi⟩ := dvn d1 r3
    have h4 := av_f4 g2 r3 r2 p4
    have hb : fx_o ws 52 (zc.toInt + 0).toNat = some (g zc.toInt.toNat) := by rw [ez]; exact hg _ (by omega)
    obtain ⟨b1, b2⟩ := mg_inok g1 g2 r3 hb p5
    obtain ⟨v, l14, p6⟩ := ai_anyE p6
    rw [Bool.and_eq_true, decide_eq_true_eq] at p6
    obtain ⟨ev, p7⟩ := p6
    obtain ⟨vb, eb, t1, t2, -, -⟩ := mg_ok g1 g2 r3 hb p7
    have t1 := ai_beq.mp t1
    obtain ⟨x2, s2, d2⟩ := ai_lk_ok g6 l14
    rw [ev, ← t1] at d2
    obtain ⟨zv', rfl, hv'⟩ := dvn d2 t2
    rw [p1]
    exact k2 ws' lv' i zv' g5 g7 s1 s2 (by omega) (by omega) (by omega) b1 b2 (lo0_ok r0 rfl rfl (by rw [← p3]; exact g3))
/-- all of it: where the figures end, and the number of the first two -/
theorem mf_loop (C : ai_cx tb_m104 5 p R s m args c D tys A b L sx cells slots) {ws : va_W} {zn zc zv : Int32} {g : Nat → Int} (hw : ai_wd tb_TY ad tys ws) (hn : ai_sl ws 49 7 (.int zn)) (hh : ai_sl ws 49 12 (.int zc)) (hc : ai_sl ws 49 11 (.int zc)) (hv : ai_sl ws 49 14 (.int zv)) (v0 : zv.toInt = 0) (hg : ∀ i, i < 160 → fx_o ws 52 i = some (g i)) {lv : List (Nat × Value)} (hlv : ai_lo ad b [0] ms_lo lv)
    (k : ∀ (ws' : va_W) (lv' : List (Nat × Value)) (ze zw : Int32), ai_wd tb_TY ad tys ws' → ai_fr mf_WR ws ws' → ai_sl ws' 49 11 (.int ze) → ai_sl ws' 49 14 (.int zw) → ai_lo ad b [0] ms_lo lv' → ze.toInt.toNat = tp_skip g zn.toInt.toNat 48 57 zc.toInt.toNat → (ze.toInt - zc.toInt ≤ 2 → zw.toInt = tp_num g zc.toInt.toNat ze.toInt.toNat) → hG tb_m104 p l e R s m args below meth c D A cells slots Q 217 lv' [] ws') : hG tb_m104 p l e R s m args below meth c D A cells slots Q 140 lv [] ws := by
  obtain ⟨n0, n1⟩ := f49 (i := 7) hw hn rfl
  obtain ⟨c0, c1⟩ := f49 (i := 11) hw hc rfl
  refine mf_stA C hw hn hh hc hv v0 hg hlv (fun ws1 lv1 hw1 hf1 hc1 hv1 hlo ho => ?_) (fun ws1 lv1 z1 y1 hw1 hf1 hc1 hv1 e1 w1 hlt a1 a2 hlv1 => ?_)
  · refine k ws1 lv1 zc zv hw1 hf1 hc1 hv1 hlo ?_ (fun _ => ?_)
    · rw [tp_skip_out]
      omega
    · unfold tp_num
      rw [if_pos (by omega), v0]
  · have hg1 : ∀ i, i < 160 → fx_o ws1 52 i = some (g i) := fun i hi => fr_fx hw1 (k := 52) rfl hf1 (by unfold ai_wr mf_WR; simp) (hg i hi)
    have s1 : tp_skip g zn.toInt.toNat 48 57 zc.toInt.toNat = tp_skip g zn.toInt.toNat 48 57 z1.toInt.toNat := by
      rw [tp_skip_in (p := zc.toInt.toNat) (by omega) a1 a2, show z1.toInt.toNat = zc.toInt.toNat + 1 by omega]
    refine mf_back C (mf_stB C hw1 (hf1 49 7 _ (by decide) hn) (hf1 49 12 _ (by decide) hh) hc1 hv1 e1 (by omega) (by omega) hg1 hlv1 (fun ws2 lv2 hw2 hf2 hc2 hv2 hlo ho => ?_) (fun ws2 lv2 z2 y2 hw2 hf2 hc2 hv2 e2 w2 hlt2 a3 a4 hlv2 => ?_))
    · refine k ws2 lv2 z1 y1 hw2 (hf1.tr hf2) hc2 hv2 hlo ?_ (fun _ => ?_)
      · rw [s1, tp_skip_out]
        omega
      · unfold tp_num
        rw [if_neg (by omega), if_pos (by omega), w1]
    · have hg2 : ∀ i, i < 160 → fx_o ws2 52 i = some (g i) := fun i hi => fr_fx hw2 (k := 52) rfl hf2 (by unfold ai_wr mf_WR; simp) (hg1 i hi)
      refine mf_back C (mf_loopC C ((160 - z2.toInt).toNat + 1) ws2 z2 lv2 (Nat.lt_succ_self _) hw2 (hf2 49 7 _ (by decide) (hf1 49 7 _ (by decide) hn)) (hf2 49 12 _ (by decide) (hf1 49 12 _ (by decide) hh)) hc2 hv2 (by omega) hg2 hlv2 (fun ws3 lv3 ze hw3 hf3 hc3 hv3 hlo e3 => ?_))
      have s2 : tp_skip g zn.toInt.toNat 48 57 z1.toInt.toNat = tp_skip g zn.toInt.toNat 48 57 z2.toInt.toNat := by
        rw [tp_skip_in (p := z1.toInt.toNat) (by omega) a3 a4, show z2.toInt.toNat = z1.toInt.toNat + 1 by omega]
      refine k ws3 lv3 ze y2 hw3 ((hf1.tr hf2).tr hf3) hc3 hv3 hlo (by rw [e3, s1, s2]) (fun h => ?_)
      have hle := (tp_skip_le (g := g) (n := zn.toInt.toNat) (p := z2.toInt.toNat) (lo := 48) (hi := 57)).1
      unfold tp_num
      rw [if_neg (by omega), if_neg (by omega), w2, w1, show z1.toInt.toNat = zc.toInt.toNat + 1 by omega]
end MFL
