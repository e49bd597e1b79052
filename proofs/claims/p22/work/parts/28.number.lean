/-- a field, an element of a row: its int, within its kind's bounds -/
theorem pl_f {T : List ai_c} {ad : List Nat} {tys : ai_ty} {ws : va_W} {k ci i : Nat} {F : List ai_f} {lo hi : Int} (h : ai_wd T ad tys ws) (hT : T[k]? = some (0, ci, F)) (hF : F[i]? = some (1, 0, lo, hi)) : ∃ z : Int32, ai_sl ws k i (.int z) ∧ lo ≤ z.toInt ∧ z.toInt ≤ hi := by
  obtain ⟨a, e, h1, h2, h3⟩ := h.get hT
  rcases h3 with ⟨-, fs, rfl, h4, h5⟩ | ⟨z, -⟩ | ⟨z, -⟩ | ⟨z, -⟩
  · obtain ⟨x, h6, h7⟩ := h5 i _ hF
    rcases h7 with ⟨z, -⟩ | ⟨-, j, rfl, b1, b2⟩ | ⟨z, -⟩
    · exact absurd (id z : (1 : Nat) = 0) (by decide)
    · exact ⟨j, ⟨a, _, h1, Or.inl ⟨ci, fs, rfl, h6⟩⟩, b1, b2⟩
    · exact absurd (id z : (1 : Nat) = 2) (by decide)
  · rcases z with z | z
    · exact absurd (id z : (0 : Nat) = 1) (by decide)
    · exact absurd (id z : (0 : Nat) = 2) (by decide)
  · exact absurd (id z : (0 : Nat) = 3) (by decide)
  · exact absurd (id z : (0 : Nat) = 4) (by decide)
theorem pl_a {T : List ai_c} {ad : List Nat} {tys : ai_ty} {ws : va_W} {k n i a0 b0 : Nat} {pat : List ai_f} {lo hi : Int} (h : ai_wd T ad tys ws) (hT : T[k]? = some (1, n, pat)) (hi' : i < n) (hF : ai_pt pat i = some (a0, b0, lo, hi)) : ∃ z : Int32, ai_sl ws k i (.int z) ∧ lo ≤ z.toInt ∧ z.toInt ≤ hi := by
  obtain ⟨a, e, h1, h2, h3⟩ := h.get hT
  rcases h3 with ⟨z, -⟩ | ⟨-, cA, f, rfl, -, h5⟩ | ⟨z, -⟩ | ⟨z, -⟩
  · exact absurd (id z : (1 : Nat) = 0) (by decide)
  · obtain ⟨b1, b2⟩ := h5 i _ hi' hF
    exact ⟨f i, ⟨a, _, h1, Or.inr ⟨cA, n, f, rfl, hi', rfl⟩⟩, b1, b2⟩
  · exact absurd (id z : (1 : Nat) = 3) (by decide)
  · exact absurd (id z : (1 : Nat) = 4) (by decide)
/-! takeNumber, by hand over its walks -/
def tn_lo : List (Nat × ai_v) := [(0, (0, 26, 0, 0))]
def tn_WR : List (Nat × Nat × Nat) := [(26, 8, 9), (26, 10, 11)]
def tn_st : ai_s := (0, tn_lo, [], [(0, 0, false, 0, 0), (0, 2555, false, 1, 0), (0, 160, false, 2, 0), (0, 160, false, 3, 0)], [(26, 9, (1, 2, 0, 0)), (26, 7, (1, 3, 0, 0))], [])
def tn_d (x : ai_s) (f : ai_e → Bool) : Bool := x.2.2.2.2.2.any fun q => Nat.beq q.1 0 && (Nat.beq q.2.1 3 && (Nat.beq q.2.2.1 2 && (decide (q.2.2.2.2 = 0) && (x.2.2.2.1[q.2.2.2.1]?).any f)))
def tn_ok (x : ai_s) : Bool := x.2.2.1.isEmpty && ((Nat.beq x.1 18 && (decide (ai_lk x.2.2.2.2.1 26 8 = some (1, 0, 0, 4)) && tn_d x fun e => decide (3 ≤ e.1))) || (Nat.beq x.1 19 && (decide (x.2.1 = tn_lo) && tn_d x fun e => decide (e.2.1 ≤ 2))))
theorem tn_r : ((ai_ex (hk tn_WR) 60 36 tb_m36 3 [19] tn_st).any fun xs => xs.all tn_ok) = true := by decide +kernel
/-- one figure, two figures -/
def ta_st (k : Nat) : ai_s := (19, tn_lo, [], [(0, 0, false, 0, 0), (0, 2555, false, 1, 0), (0, 160 - (k : Int), false, 2, 0)], [(26, 9, (1, 2, 0, 0)), (26, 7, (1, 2, 0, (k : Int)))], [])
def ta_g (x : ai_s) (n : Nat) (o : Int) : Bool := x.2.2.2.2.2.any fun q => Nat.beq q.1 1027 && (Nat.beq q.2.1 2 && (Nat.beq q.2.2.2.1 n && decide (q.2.2.2.2 = o)))
def ta_m (x : ai_s) (v m : Nat) : Bool := x.2.2.2.2.2.any fun q => Nat.beq q.1 510 && (Nat.beq q.2.1 v && (Nat.beq q.2.2.2.1 m && decide (q.2.2.2.2 = -48)))
def ta_1 (x : ai_s) : Bool := x.2.2.1.isEmpty && (Nat.beq x.1 69 && (decide (ai_lk x.2.2.2.2.1 26 8 = some (1, 0, 0, 2)) && (ai_lk x.2.2.2.2.1 26 10).any fun v => decide (v = (1, v.2.1, 0, -48)) && ta_g x v.2.1 0))
def ta_2 (x : ai_s) : Bool := x.2.2.1.isEmpty && (Nat.beq x.1 69 && (decide (ai_lk x.2.2.2.2.1 26 8 = some (1, 0, 0, 2)) && (ai_lk x.2.2.2.2.1 26 10).any fun v => decide (v = (1, v.2.1, 0, -48)) && x.2.2.2.2.2.any fun q => Nat.beq q.1 1 && (Nat.beq q.2.2.2.1 v.2.1 && (decide (q.2.2.2.2 = 0) && (ta_g x q.2.2.1 1 && (((x.2.2.2.1[q.2.2.2.1]?).any fun e => decide (-1000 ≤ e.1) && decide (e.2.1 ≤ 1000)) && x.2.2.2.2.2.any fun q' => Nat.beq q'.1 1027 && (ta_g x q'.2.2.2.1 0 && ta_m x q'.2.2.2.1 q.2.1)))))))
theorem ta_r1 : ((ai_ex (hk tn_WR) 200 36 tb_m36 3 [] (ta_st 1)).any fun xs => xs.all ta_1) = true := by decide +kernel
theorem ta_r2 : ((ai_ex (hk tn_WR) 200 36 tb_m36 3 [] (ta_st 2)).any fun xs => xs.all ta_2) = true := by decide +kernel
theorem kn1 {ad : List Nat} {b : Nat} {r : List Int} {ws : va_W} {k i n : Nat} {o t : Int} {z : Int32} (h : ai_sl ws k i (.int z)) (hr : r[n]? = some t) (hz : z.toInt = t + o) : ∃ x, ai_sl ws k i x ∧ ai_dv ad b r (1, n, 0, o) x := ⟨_, h, Or.inr (Or.inl ⟨rfl, t, z, hr, rfl, hz⟩)⟩
theorem ta_gok {w0 : va_W} {r : List Int} {x : ai_s} {n : Nat} {o zf t : Int} (g2 : ai_sb w0 r x.2.2.2.2.2) (h2 : r[2]? = some zf) (ht : fx_o w0 27 (zf + o).toNat = some t) (h : ta_g x n o = true) : r[n]? = some t := by
  obtain ⟨q, hq, h⟩ := List.any_eq_true.mp h
  rw [Bool.and_eq_true, Bool.and_eq_true, Bool.and_eq_true, ai_beq, ai_beq, ai_beq, decide_eq_true_eq] at h
  obtain ⟨a1, a2, a3, a4⟩ := h
  obtain ⟨za, zb, zr, e1, e2, e3, -, -, -, -, -, e9⟩ := g2 q hq
  obtain ⟨z1, z2, f1, f2, f3, f4⟩ := (e9 (by omega)).1 (by omega)
  rw [a2, h2] at f1
  cases f1
  rw [a1, a4, show 1027 - 1000 = 27 from rfl] at f4
  rw [← a3, f2, f4 t ht]
theorem ta_mok {w0 : va_W} {r : List Int} {x : ai_s} {v m : Nat} (g2 : ai_sb w0 r x.2.2.2.2.2) (h : ta_m x v m = true) : ∃ za zr : Int, r[v]? = some za ∧ r[m]? = some zr ∧ zr = 10 * (za - 48) := by
  obtain ⟨q, hq, h⟩ := List.any_eq_true.mp h
  rw [Bool.and_eq_true, Bool.and_eq_true, Bool.and_eq_true, ai_beq, ai_beq, ai_beq, decide_eq_true_eq] at h
  obtain ⟨a1, a2, a3, a4⟩ := h
  obtain ⟨za, zb, zr, e1, e2, e3, -, -, -, -, -, e9⟩ := g2 q hq
  obtain ⟨z1, z2, f1, f2, -, -, f5, -⟩ := (e9 (by omega)).2.1 (by omega)
  have f6 := f5 (by omega)
  rw [a1, a4] at f6
  refine ⟨z1, z2, by rw [← a2]; exact f1, by rw [← a3]; exact f2, ?_⟩
  rw [f6, show ((510 - 500 : Nat) : Int) = 10 from rfl]
  rfl
theorem tn_dok {w0 : va_W} {r : List Int} {x : ai_s} {zf ze : Int} {f : ai_e → Bool} (g1 : ai_ok r x.2.2.2.1) (g2 : ai_sb w0 r x.2.2.2.2.2) (h2 : r[2]? = some zf) (h3 : r[3]? = some ze) (h : tn_d x f = true) : ∃ e : ai_e, f e = true ∧ e.1 ≤ ze - zf ∧ ze - zf ≤ e.2.1 := by
  obtain ⟨q, hq, h⟩ := List.any_eq_true.mp h
  rw [Bool.and_eq_true, Bool.and_eq_true, Bool.and_eq_true, Bool.and_eq_true, ai_beq, ai_beq, ai_beq, decide_eq_true_eq] at h
  obtain ⟨a1, a2, a3, a4, a5⟩ := h
  obtain ⟨za, zb, zr, e1, e2, e3, e4, -⟩ := g2 q hq
  rw [a2, h3] at e1
  rw [a3, h2] at e2
  cases e1
  cases e2
  have e5 := e4 a1
  obtain ⟨e, b1, b2, b3⟩ := ai_any g1 e3 a5
  exact ⟨e, b1, by omega, by omega⟩
def tz_st : ai_s := (19, tn_lo, [], [(0, 0, false, 0, 0), (0, 2555, false, 1, 0), (0, 160, false, 2, 0), (0, 160, false, 3, 0)], [(26, 9, (1, 2, 0, 0)), (26, 7, (1, 3, 0, 0))], [])
def tz_ok (x : ai_s) : Bool := x.2.2.1.isEmpty && ((Nat.beq x.1 69 && (decide (ai_lk x.2.2.2.2.1 26 8 = some (1, 0, 0, 2)) && decide (ai_lk x.2.2.2.2.1 26 10 = some (1, 0, 0, 0)))) || (Nat.beq x.1 42 && x.2.2.2.2.2.any fun q => Nat.beq q.1 4 && (Nat.beq q.2.1 2 && (Nat.beq q.2.2.1 3 && decide (q.2.2.2.2 = 0)))))
theorem tz_r : ((ai_ex (hk tn_WR) 60 36 tb_m36 3 [42] tz_st).any fun xs => xs.all tz_ok) = true := by decide +kernel
section TNS
variable {ad : List Nat} {p : Program} {l : Launch} {e : Env} {R : Room} {s : State} {m : MethodId} {args : Array Value} {below : List Frame} {meth : Method} {c : Code} {D : va_G} {tys : ai_ty} {A : Nat → Prop} {b L : Nat} {sx : Nat → Int32} {cells slots : Nat} {Q : State → Prop}
theorem tn_fig {k : Nat} (hk : k = 1 ∨ k = 2) (C : ai_cx tb_m36 3 p R s m args c D tys A b L sx cells slots) {ws : va_W} {zf ze : Int32} {g : Nat → Int} (hw : ai_wd tb_TY ad tys ws) (hf : ai_sl ws 26 9 (.int zf)) (he : ai_sl ws 26 7 (.int ze)) (f0 : 0 ≤ zf.toInt) (e1 : ze.toInt ≤ 160) (hlt : ze.toInt = zf.toInt + (k : Int)) (hg : ∀ i, i < 160 → fx_o ws 27 i = some (g i)) {lv : List (Nat × Value)} (hlv : ai_lo ad b [0] tn_lo lv)
    (k2 : ∀ (ws' : va_W) (lv' : List (Nat × Value)) (zv : Int32), ai_wd tb_TY ad tys ws' → ai_fr tn_WR ws ws' → ai_sl ws' 26 8 (.int 2) → ai_sl ws' 26 10 (.int zv) → zv.toInt = tp_num g zf.toInt.toNat ze.toInt.toNat → hG tb_m36 p l e R s m args below meth c D A cells slots Q 69 lv' [] ws') : hG tb_m36 p l e R s m args below meth c D A cells slots Q 19 lv [] ws := by
  have gm : ai_gm tb_TY tn_WR ws ad b L sx tys tb_m36.2.2.2.2.1 [0, 0, zf.toInt] (ta_st k) lv [] ws := by
    refine ⟨⟨rfl, fun n z e hz he => ?_⟩, (fun q hq => by cases hq), lo0_ok (r := [0]) rfl rfl rfl hlv, trivial, hw, fun q hq => ?_, fun _ _ _ _ h => h, fun h => by cases h⟩
    · match n, hz, he with
      | 0, hz, he => cases hz; cases he; exact ⟨Int.le_refl _, Int.le_refl _, (fun h => by cases h), 0, rfl, Int.le_refl _⟩
      | 1, hz, he => cases hz; cases he; exact ⟨by decide, by decide, (fun h => by cases h), 0, rfl, Int.le_refl _⟩
      | 2, hz, he => cases hz; cases he; exact ⟨f0, by show zf.toInt ≤ 160 - (k : Int); omega, (fun h => by cases h), _, rfl, by show zf.toInt + 0 ≤ zf.toInt; omega⟩
      | n + 3, hz, he => cases hz
    · have hq : q ∈ [(26, 9, ((1, 2, 0, 0) : ai_v)), (26, 7, (1, 2, 0, (k : Int)))] := hq
      rcases List.mem_cons.mp hq with rfl | hq
      · exact kn1 hf (n := 2) (t := zf.toInt) rfl (by omega)
      · rcases List.mem_cons.mp hq with rfl | hq
        · exact kn1 he (n := 2) (t := zf.toInt) rfl hlt
        · cases hq
  rcases hk with rfl | rfl
  · obtain ⟨xs, h1, h2⟩ := ai_anyE ta_r1
    refine hseg (st := ta_st 1) h1 rfl C gm (fun x hx r' lv' sk' ws' hx' g' => ?_)
    obtain ⟨g1, g2, g3, g4, g5, g6, g7, g8⟩ := g'
    have r0 : r'[0]? = some 0 := hx'.at rfl
    have r2 : r'[2]? = some zf.toInt := hx'.at rfl
    have hox := List.all_eq_true.mp h2 x hx
    unfold ta_1 at hox
    rw [Bool.and_eq_true, Bool.and_eq_true, Bool.and_eq_true, ai_beq, decide_eq_true_eq] at hox
    obtain ⟨hs, p1, p2, p3⟩ := hox
    have hsk : sk' = [] := by
      rw [List.isEmpty_iff.mp hs] at g4
      exact g4.nil
    subst hsk
    obtain ⟨v, v1, v2⟩ := ai_anyE p3
    rw [Bool.and_eq_true, decide_eq_true_eq] at v2
    obtain ⟨x1, s1, d1⟩ := ai_lk_ok g6 p2
    obtain ⟨i, rfl, hi⟩ := dvn d1 r0
    have hii : i = 2 := Int32.toInt_inj.mp (by rw [hi]; rfl)
    subst hii
    obtain ⟨x2, s2, d2⟩ := ai_lk_ok g6 v1
    have rv := ta_gok (t := g zf.toInt.toNat) g2 r2 (by rw [Int.add_zero]; exact hg _ (by omega)) v2.2
    rw [v2.1] at d2
    obtain ⟨zv, rfl, hv⟩ := dvn d2 rv
    rw [p1]
    refine k2 ws' lv' zv g5 g7 s1 s2 ?_
    unfold tp_num
    rw [if_neg (by omega), if_pos (by omega), hv]
    omega
  · obtain ⟨xs, h1, h2⟩ := ai_anyE ta_r2
    refine hseg (st := ta_st 2) h1 rfl C gm (fun x hx r' lv' sk' ws' hx' g' => ?_)
    obtain ⟨g1, g2, g3, g4, g5, g6, g7, g8⟩ := g'
    have r0 : r'[0]? = some 0 := hx'.at rfl
    have r2 : r'[2]? = some zf.toInt := hx'.at rfl
    have hox := List.all_eq_true.mp h2 x hx
    unfold ta_2 at hox
    rw [Bool.and_eq_true, Bool.and_eq_true, Bool.and_eq_true, ai_beq, decide_eq_true_eq] at hox
    obtain ⟨hs, p1, p2, p3⟩ := hox
    have hsk : sk' = [] := by
      rw [List.isEmpty_iff.mp hs] at g4
      exact g4.nil
    subst hsk
    obtain ⟨v, v1, v2⟩ := ai_anyE p3
    rw [Bool.and_eq_true, decide_eq_true_eq] at v2
    obtain ⟨v2, v3⟩ := v2
    obtain ⟨q, hq, v3⟩ := List.any_eq_true.mp v3
    rw [Bool.and_eq_true, Bool.and_eq_true, Bool.and_eq_true, Bool.and_eq_true, Bool.and_eq_true, ai_beq, ai_beq, decide_eq_true_eq] at v3
    obtain ⟨q1, q2, q3, q4, q5, q6⟩ := v3
    obtain ⟨q', -, q6⟩ := List.any_eq_true.mp q6
    rw [Bool.and_eq_true, Bool.and_eq_true] at q6
    obtain ⟨-, q7, q8⟩ := q6
    obtain ⟨x1, s1, d1⟩ := ai_lk_ok g6 p2
    obtain ⟨i, rfl, hi⟩ := dvn d1 r0
    have hii : i = 2 := Int32.toInt_inj.mp (by rw [hi]; rfl)
    subst hii
    obtain ⟨x2, s2, d2⟩ := ai_lk_ok g6 v1
    have rv := ta_gok (t := g zf.toInt.toNat) g2 r2 (by rw [Int.add_zero]; exact hg _ (by omega)) q7
    have rw' := ta_gok (t := g (zf.toInt.toNat + 1)) g2 r2 (by rw [show (zf.toInt + 1).toNat = zf.toInt.toNat + 1 by omega]; exact hg _ (by omega)) q4
    obtain ⟨za, zm, m1, m2, m3⟩ := ta_mok g2 q8
    rw [rv] at m1
    cases m1
    obtain ⟨ya, yb, yr, y1, y2, y3, -, y4, -⟩ := g2 q hq
    have y5 := y4 q1
    rw [m2] at y1
    cases y1
    rw [rw'] at y2
    cases y2
    rw [q3] at y5
    obtain ⟨e0, b1, b2, b3⟩ := ai_any g1 y3 q5
    rw [Bool.and_eq_true, decide_eq_true_eq, decide_eq_true_eq] at b1
    rw [v2] at d2
    obtain ⟨zv, rfl, hv⟩ := dvn d2 (by rw [← q2]; exact y3)
    rw [p1]
    refine k2 ws' lv' zv g5 g7 s1 s2 ?_
    have b27 : ∀ i, i < 160 → 0 ≤ g i ∧ g i ≤ 127 := fun i hi => by
      obtain ⟨j, j1, j2⟩ := fx_o_sl (hg i hi)
      obtain ⟨z, z1, z2, z3⟩ := pl_a (k := 27) (n := 160) (pat := [(1, 0, 0, 127)]) (lo := 0) (hi := 127) (a0 := 1) (b0 := 0) (i := i) hw rfl hi (by show ([(1, 0, 0, 127)] : List ai_f)[i % 1]? = _; rw [Nat.mod_one]; rfl)
      have := j1.fun z1
      cases this
      omega
    have c1 := b27 zf.toInt.toNat (by omega)
    have c2 := b27 (zf.toInt.toNat + 1) (by omega)
    unfold tp_num
    rw [if_neg (by omega), if_neg (by omega), hv]
    omega
theorem tn_zero (C : ai_cx tb_m36 3 p R s m args c D tys A b L sx cells slots) {ws : va_W} {zf ze : Int32} (hw : ai_wd tb_TY ad tys ws) (hf : ai_sl ws 26 9 (.int zf)) (he : ai_sl ws 26 7 (.int ze)) (f0 : 0 ≤ zf.toInt) (f1 : zf.toInt ≤ 160) (e0 : 0 ≤ ze.toInt) (e1 : ze.toInt ≤ 160) (hle : ze.toInt ≤ zf.toInt) {lv : List (Nat × Value)} (hlv : ai_lo ad b [0] tn_lo lv)
    (k2 : ∀ (ws' : va_W) (lv' : List (Nat × Value)) (zv : Int32), ai_wd tb_TY ad tys ws' → ai_fr tn_WR ws ws' → ai_sl ws' 26 8 (.int 2) → ai_sl ws' 26 10 (.int zv) → zv.toInt = 0 → hG tb_m36 p l e R s m args below meth c D A cells slots Q 69 lv' [] ws') : hG tb_m36 p l e R s m args below meth c D A cells slots Q 19 lv [] ws := by
  have gm : ai_gm tb_TY tn_WR ws ad b L sx tys tb_m36.2.2.2.2.1 [0, 0, zf.toInt, ze.toInt] tz_st lv [] ws := by
    refine ⟨⟨rfl, fun n z e hz he => ?_⟩, (fun q hq => by cases hq), lo0_ok (r := [0]) rfl rfl rfl hlv, trivial, hw, fun q hq => ?_, fun _ _ _ _ h => h, fun h => by cases h⟩
    · match n, hz, he with
      | 0, hz, he => cases hz; cases he; exact ⟨Int.le_refl _, Int.le_refl _, (fun h => by cases h), 0, rfl, Int.le_refl _⟩
      | 1, hz, he => cases hz; cases he; exact ⟨by decide, by decide, (fun h => by cases h), 0, rfl, Int.le_refl _⟩
      | 2, hz, he => cases hz; cases he; exact ⟨f0, f1, (fun h => by cases h), _, rfl, by show zf.toInt + 0 ≤ zf.toInt; omega⟩
      | 3, hz, he => cases hz; cases he; exact ⟨e0, e1, (fun h => by cases h), _, rfl, by show ze.toInt + 0 ≤ ze.toInt; omega⟩
      | n + 4, hz, he => cases hz
    · have hq : q ∈ [(26, 9, ((1, 2, 0, 0) : ai_v)), (26, 7, (1, 3, 0, 0))] := hq
      rcases List.mem_cons.mp hq with rfl | hq
      · exact kn1 hf (n := 2) (t := zf.toInt) rfl (by omega)
      · rcases List.mem_cons.mp hq with rfl | hq
        · exact kn1 he (n := 3) (t := ze.toInt) rfl (by omega)
        · cases hq
  obtain ⟨xs, h1, h2⟩ := ai_anyE tz_r
  refine hseg (st := tz_st) h1 rfl C gm (fun x hx r' lv' sk' ws' hx' g' => ?_)
  obtain ⟨g1, g2, g3, g4, g5, g6, g7, g8⟩ := g'
  have r0 : r'[0]? = some 0 := hx'.at rfl
  have r2 : r'[2]? = some zf.toInt := hx'.at rfl
  have r3 : r'[3]? = some ze.toInt := hx'.at rfl
  have hox := List.all_eq_true.mp h2 x hx
  unfold tz_ok at hox
  rw [Bool.and_eq_true, Bool.or_eq_true] at hox
  obtain ⟨hs, hox⟩ := hox
  have hsk : sk' = [] := by
    rw [List.isEmpty_iff.mp hs] at g4
    exact g4.nil
  subst hsk
  rcases hox with hox | hox
  · rw [Bool.and_eq_true, Bool.and_eq_true, ai_beq, decide_eq_true_eq, decide_eq_true_eq] at hox
    obtain ⟨p1, p2, p3⟩ := hox
    obtain ⟨x1, s1, d1⟩ := ai_lk_ok g6 p2
    obtain ⟨i, rfl, hi⟩ := dvn d1 r0
    have hii : i = 2 := Int32.toInt_inj.mp (by rw [hi]; rfl)
    subst hii
    obtain ⟨x2, s2, d2⟩ := ai_lk_ok g6 p3
    obtain ⟨j, rfl, hj⟩ := dvn d2 r0
    rw [p1]
    exact k2 ws' lv' j g5 g7 s1 s2 (by rw [hj]; rfl)
  · rw [Bool.and_eq_true, ai_beq] at hox
    obtain ⟨q, hq, h⟩ := List.any_eq_true.mp hox.2
    rw [Bool.and_eq_true, Bool.and_eq_true, Bool.and_eq_true, ai_beq, ai_beq, ai_beq, decide_eq_true_eq] at h
    obtain ⟨a1, a2, a3, a4⟩ := h
    obtain ⟨za, zb, zr, y1, y2, -, -, -, -, y4, -⟩ := g2 q hq
    rw [a2, r2] at y1
    rw [a3, r3] at y2
    cases y1
    cases y2
    have := y4 a1
    omega
theorem tn_all (C : ai_cx tb_m36 3 p R s m args c D tys A b L sx cells slots) {ws : va_W} {zf ze : Int32} {g : Nat → Int} (hw : ai_wd tb_TY ad tys ws) (hf : ai_sl ws 26 9 (.int zf)) (he : ai_sl ws 26 7 (.int ze)) (f0 : 0 ≤ zf.toInt) (f1 : zf.toInt ≤ 160) (e0 : 0 ≤ ze.toInt) (e1 : ze.toInt ≤ 160) (hg : ∀ i, i < 160 → fx_o ws 27 i = some (g i)) {lv : List (Nat × Value)} (hlv : ai_lo ad b [0] tn_lo lv)
    (k4 : ∀ (ws' : va_W) (lv' : List (Nat × Value)), ai_wd tb_TY ad tys ws' → ai_fr tn_WR ws ws' → ai_sl ws' 26 8 (.int 4) → 2 < ze.toInt - zf.toInt → hG tb_m36 p l e R s m args below meth c D A cells slots Q 18 lv' [] ws')
    (k2 : ∀ (ws' : va_W) (lv' : List (Nat × Value)) (zv : Int32), ai_wd tb_TY ad tys ws' → ai_fr tn_WR ws ws' → ai_sl ws' 26 8 (.int 2) → ai_sl ws' 26 10 (.int zv) → ze.toInt - zf.toInt ≤ 2 → zv.toInt = tp_num g zf.toInt.toNat ze.toInt.toNat → hG tb_m36 p l e R s m args below meth c D A cells slots Q 69 lv' [] ws') : hG tb_m36 p l e R s m args below meth c D A cells slots Q 0 lv [] ws := by
  obtain ⟨xs, h1, h2⟩ := ai_anyE tn_r
  have gm : ai_gm tb_TY tn_WR ws ad b L sx tys tb_m36.2.2.2.2.1 [0, 0, zf.toInt, ze.toInt] tn_st lv [] ws := by
    refine ⟨⟨rfl, fun n z e hz he => ?_⟩, (fun q hq => by cases hq), lo0_ok (r := [0]) rfl rfl rfl hlv, trivial, hw, fun q hq => ?_, fun _ _ _ _ h => h, fun h => by cases h⟩
    · match n, hz, he with
      | 0, hz, he => cases hz; cases he; exact ⟨Int.le_refl _, Int.le_refl _, (fun h => by cases h), 0, rfl, Int.le_refl _⟩
      | 1, hz, he => cases hz; cases he; exact ⟨by decide, by decide, (fun h => by cases h), 0, rfl, Int.le_refl _⟩
      | 2, hz, he => cases hz; cases he; exact ⟨f0, f1, (fun h => by cases h), _, rfl, by show zf.toInt + 0 ≤ zf.toInt; omega⟩
      | 3, hz, he => cases hz; cases he; exact ⟨e0, e1, (fun h => by cases h), _, rfl, by show ze.toInt + 0 ≤ ze.toInt; omega⟩
      | n + 4, hz, he => cases hz
    · have hq : q ∈ [(26, 9, ((1, 2, 0, 0) : ai_v)), (26, 7, (1, 3, 0, 0))] := hq
      rcases List.mem_cons.mp hq with rfl | hq
      · exact kn1 hf (n := 2) (t := zf.toInt) rfl (by omega)
      · rcases List.mem_cons.mp hq with rfl | hq
        · exact kn1 he (n := 3) (t := ze.toInt) rfl (by omega)
        · cases hq
  refine hseg (st := tn_st) h1 rfl C gm (fun x hx r' lv' sk' ws' hx' g' => ?_)
  obtain ⟨g1, g2, g3, g4, g5, g6, g7, g8⟩ := g'
  have r0 : r'[0]? = some 0 := hx'.at rfl
  have r2 : r'[2]? = some zf.toInt := hx'.at rfl
  have r3 : r'[3]? = some ze.toInt := hx'.at rfl
  have hox := List.all_eq_true.mp h2 x hx
  unfold tn_ok at hox
  rw [Bool.and_eq_true, Bool.or_eq_true] at hox
  obtain ⟨hs, hox⟩ := hox
  have hsk : sk' = [] := by
    rw [List.isEmpty_iff.mp hs] at g4
    exact g4.nil
  subst hsk
  rcases hox with hox | hox
  · rw [Bool.and_eq_true, Bool.and_eq_true, ai_beq, decide_eq_true_eq] at hox
    obtain ⟨p1, p2, p3⟩ := hox
    obtain ⟨w0', b1, b2, b3⟩ := tn_dok g1 g2 r2 r3 p3
    rw [decide_eq_true_eq] at b1
    obtain ⟨x1, s1, d1⟩ := ai_lk_ok g6 p2
    obtain ⟨i, rfl, hi⟩ := dvn d1 r0
    have hii : i = 4 := Int32.toInt_inj.mp (by rw [hi]; rfl)
    subst hii
    rw [p1]
    exact k4 ws' lv' g5 g7 s1 (by omega)
  · rw [Bool.and_eq_true, Bool.and_eq_true, ai_beq, decide_eq_true_eq] at hox
    obtain ⟨p1, p2, p3⟩ := hox
    obtain ⟨w0', b1, b2, b3⟩ := tn_dok g1 g2 r2 r3 p3
    rw [decide_eq_true_eq] at b1
    have hf' : ai_sl ws' 26 9 (.int zf) := g7 26 9 _ (by decide) hf
    have he' : ai_sl ws' 26 7 (.int ze) := g7 26 7 _ (by decide) he
    have hd : ze.toInt ≤ zf.toInt ∨ ze.toInt = zf.toInt + ((1 : Nat) : Int) ∨ ze.toInt = zf.toInt + ((2 : Nat) : Int) := by omega
    have hlv' : ai_lo ad b [0] tn_lo lv' := lo0_ok r0 rfl rfl (by rw [← p2]; exact g3)
    have hg' : ∀ i, i < 160 → fx_o ws' 27 i = some (g i) := fun i hi => fr_fx (k := 27) g5 rfl g7 (by unfold ai_wr tn_WR; simp) (hg i hi)
    rw [p1]
    rcases hd with hd | hd | hd
    · refine tn_zero C g5 hf' he' f0 f1 e0 e1 hd hlv' (fun ws2 lv2 zv a1 a2 a3 a4 a5 => k2 ws2 lv2 zv a1 (g7.tr a2) a3 a4 (by omega) ?_)
      rw [a5]
      unfold tp_num
      rw [if_pos (by omega)]
    · exact tn_fig (k := 1) (Or.inl rfl) C g5 hf' he' f0 e1 hd hg' hlv' (fun ws2 lv2 zv a1 a2 a3 a4 a5 => k2 ws2 lv2 zv a1 (g7.tr a2) a3 a4 (by omega) a5)
    · exact tn_fig (k := 2) (Or.inr rfl) C g5 hf' he' f0 e1 hd hg' hlv' (fun ws2 lv2 zv a1 a2 a3 a4 a5 => k2 ws2 lv2 zv a1 (g7.tr a2) a3 a4 (by omega) a5)
end TNS
