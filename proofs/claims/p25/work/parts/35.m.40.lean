section
/-! literal states, made quickly -/
def en_b : List Int → List ai_e → Prop
  | [], [] => True
  | z :: r, e :: en => (e.1 ≤ z ∧ z ≤ e.2.1) ∧ en_b r en
  | _, _ => False
theorem en_b_len : ∀ {r : List Int} {en : List ai_e}, en_b r en → r.length = en.length
  | [], [], _ => rfl
  | [], _ :: _, h => h.elim
  | _ :: _, [], h => h.elim
  | _ :: r, _ :: en, h => by
    show r.length + 1 = en.length + 1
    rw [en_b_len h.2]
theorem en_b_get : ∀ {r : List Int} {en : List ai_e} {k : Nat} {z : Int} {e : ai_e}, en_b r en → r[k]? = some z → en[k]? = some e → e.1 ≤ z ∧ z ≤ e.2.1
  | [], _, _, _, _, _, h1, _ => by cases h1
  | _ :: _, [], _, _, _, h, _, _ => h.elim
  | y :: r, f :: en, 0, z, e, h, h1, h2 => by
    cases h1
    cases h2
    exact h.1
  | y :: r, f :: en, k + 1, z, e, h, h1, h2 => en_b_get (r := r) (en := en) (k := k) h.2 h1 h2
def en_s (en : List ai_e) : Bool := (List.range en.length).all fun k => (en[k]?).all fun e => !e.2.2.1 && (Nat.beq e.2.2.2.1 k && decide (e.2.2.2.2 = 0))
theorem en_mk {r : List Int} {en : List ai_e} (h : en_b r en) (s : en_s en = true) : ai_ok r en := by
  refine ⟨en_b_len h, fun k z e hz he => ?_⟩
  obtain ⟨b1, b2⟩ := en_b_get h hz he
  have hk : k < en.length := (List.getElem?_eq_some_iff.mp he).1
  have s1 := List.all_eq_true.mp s k (List.mem_range.mpr hk)
  rw [he] at s1
  have s1 : (!e.2.2.1 && (Nat.beq e.2.2.2.1 k && decide (e.2.2.2.2 = 0))) = true := s1
  rw [Bool.and_eq_true, Bool.and_eq_true, ai_beq, decide_eq_true_eq, Bool.not_eq_true'] at s1
  obtain ⟨s2, s3, s4⟩ := s1
  exact ⟨b1, b2, fun h => (by rw [s2] at h; cases h), z, by rw [s3]; exact hz, by omega⟩
theorem k0 {ad : List Nat} {b : Nat} {r : List Int} {ws : va_W} : ai_kn ad b r ws [] := fun q h => by cases h
theorem kc {ad : List Nat} {b : Nat} {r : List Int} {ws : va_W} {q : ai_k} {kn : List ai_k} (h : ∃ x, ai_sl ws q.1 q.2.1 x ∧ ai_dv ad b r q.2.2 x) (t : ai_kn ad b r ws kn) : ai_kn ad b r ws (q :: kn) := fun k hk => by
  rcases List.mem_cons.mp hk with rfl | hk
  · exact h
  · exact t k hk
/-! the reference's step: the loop of figures, in three states of it -/
/-- the byte of row 52 at name a and o is told, with bounds -/
def mg (x : ai_s) (a : Nat) (o : Int) (h : Nat → ai_e → Bool) : Bool := x.2.2.2.2.2.any fun q => Nat.beq q.1 1052 && (Nat.beq q.2.1 a && (decide (q.2.2.2.2 = o) && (x.2.2.2.1[q.2.2.2.1]?).any (h q.2.2.2.1)))
theorem mg_ok {w0 : va_W} {r : List Int} {x : ai_s} {a : Nat} {o za t : Int} {h : Nat → ai_e → Bool} (g1 : ai_ok r x.2.2.2.1) (g2 : ai_sb w0 r x.2.2.2.2.2) (ha : r[a]? = some za) (ht : fx_o w0 52 (za + o).toNat = some t) (hh : mg x a o h = true) : ∃ (v : Nat) (e : ai_e), h v e = true ∧ r[v]? = some t ∧ e.1 ≤ t ∧ t ≤ e.2.1 := by
  obtain ⟨q, hq, hh⟩ := List.any_eq_true.mp hh
  rw [Bool.and_eq_true, Bool.and_eq_true, Bool.and_eq_true, ai_beq, ai_beq, decide_eq_true_eq] at hh
  obtain ⟨a1, a2, a3, a4⟩ := hh
  obtain ⟨ya, yb, yr, -, -, -, -, -, -, -, -, e9⟩ := g2 q hq
  obtain ⟨z1, z2, f1, f2, f3, f4⟩ := (e9 (by omega)).1 (by omega)
  rw [a2, ha] at f1
  cases f1
  rw [a1, a3, show 1052 - 1000 = 52 from rfl] at f4
  have f5 := f4 t ht
  subst f5
  obtain ⟨e, b1, b2, b3⟩ := ai_any g1 f2 a4
  exact ⟨_, e, b1, f2, b2, b3⟩
def mg_out (x : ai_s) (a : Nat) (o : Int) : Bool := mg x a o fun _ e => decide (e.2.1 < 48) || decide (57 < e.1)
def mg_in (x : ai_s) (a : Nat) (o : Int) : Bool := mg x a o fun _ e => decide (48 ≤ e.1) && decide (e.2.1 ≤ 57)
theorem mg_outok {w0 : va_W} {r : List Int} {x : ai_s} {a : Nat} {o za t : Int} (g1 : ai_ok r x.2.2.2.1) (g2 : ai_sb w0 r x.2.2.2.2.2) (ha : r[a]? = some za) (ht : fx_o w0 52 (za + o).toNat = some t) (hh : mg_out x a o = true) : t < 48 ∨ 57 < t := by
  obtain ⟨v, e, b1, -, b2, b3⟩ := mg_ok g1 g2 ha ht hh
  rw [Bool.or_eq_true, decide_eq_true_eq, decide_eq_true_eq] at b1
  omega
theorem mg_inok {w0 : va_W} {r : List Int} {x : ai_s} {a : Nat} {o za t : Int} (g1 : ai_ok r x.2.2.2.1) (g2 : ai_sb w0 r x.2.2.2.2.2) (ha : r[a]? = some za) (ht : fx_o w0 52 (za + o).toNat = some t) (hh : mg_in x a o = true) : 48 ≤ t ∧ t ≤ 57 := by
  obtain ⟨v, e, b1, -, b2, b3⟩ := mg_ok g1 g2 ha ht hh
  rw [Bool.and_eq_true, decide_eq_true_eq, decide_eq_true_eq] at b1
  omega
def mf_WR : List (Nat × Nat × Nat) := [(49, 11, 12), (49, 14, 15)]
def mf_e : List ai_e := [(0, 0, false, 0, 0), (0, 2555, false, 1, 0), (0, 160, false, 2, 0), (0, 160, false, 3, 0)]
def mf_A : ai_s := (140, ms_lo, [], mf_e, [(49, 7, (1, 2, 0, 0)), (49, 12, (1, 3, 0, 0)), (49, 11, (1, 3, 0, 0)), (49, 14, (1, 0, 0, 0))], [])
def mf_B : ai_s := (140, ms_lo, [], mf_e ++ [(0, 9, false, 4, 0)], [(49, 7, (1, 2, 0, 0)), (49, 12, (1, 3, 0, 0)), (49, 11, (1, 3, 0, 1)), (49, 14, (1, 4, 0, 0))], [])
def mf_C : ai_s := (140, ms_lo, [], mf_e ++ [(0, 160, false, 4, 0), (-2147483648, 2147483647, false, 5, 0)], [(49, 7, (1, 2, 0, 0)), (49, 12, (1, 3, 0, 0)), (49, 11, (1, 4, 0, 0)), (49, 14, (1, 5, 0, 0))], [(5, 4, 3, 4, 2)])
def mf_lk (x : ai_s) (v : ai_v) : Bool := decide (ai_lk x.2.2.2.2.1 49 11 = some v)
def mf_lv (x : ai_s) (v : ai_v) : Bool := decide (ai_lk x.2.2.2.2.1 49 14 = some v)
def mf_bad (x : ai_s) (o : Int) : Bool := x.2.2.2.2.2.any fun q => Nat.beq q.1 0 && (Nat.beq q.2.1 3 && (Nat.beq q.2.2.1 3 && (decide (q.2.2.2.2 = o) && (x.2.2.2.1[q.2.2.2.1]?).any fun e => decide (2 ≤ e.1))))
theorem mf_badok {w0 : va_W} {r : List Int} {x : ai_s} {o za : Int} (g1 : ai_ok r x.2.2.2.1) (g2 : ai_sb w0 r x.2.2.2.2.2) (h3 : r[3]? = some za) (ho : -1 ≤ o) (h : mf_bad x o = true) : False := by
  obtain ⟨q, hq, hox⟩ := List.any_eq_true.mp h
  rw [Bool.and_eq_true, Bool.and_eq_true, Bool.and_eq_true, Bool.and_eq_true, ai_beq, ai_beq, ai_beq, decide_eq_true_eq] at hox
  obtain ⟨a1, a2, a3, a4, a5⟩ := hox
  obtain ⟨ya, yb, yr, e1, e2, e3, e4, -⟩ := g2 q hq
  rw [a2, h3] at e1
  rw [a3, h3] at e2
  cases e1
  cases e2
  have e5 := e4 a1
  obtain ⟨e0, b1, b2, b3⟩ := ai_any g1 e3 a5
  rw [decide_eq_true_eq] at b1
  omega
def mf_okA (x : ai_s) : Bool := x.2.2.1.isEmpty && (mf_bad x 0 ||
  ((Nat.beq x.1 217 && (mf_lk x (1, 3, 0, 0) && (mf_lv x (1, 0, 0, 0) && (decide (x.2.1 = ms_lo) && (av_f x 5 3 2 none 0 || (av_f x 4 3 2 none 0 && mg_out x 3 0)))))) ||
   (Nat.beq x.1 214 && (mf_lk x (1, 3, 0, 1) && (decide (x.2.1 = ms_lo) && (av_f x 4 3 2 none 0 && (mg_in x 3 0 && (ai_lk x.2.2.2.2.1 49 14).any fun v => decide (v = (1, v.2.1, 0, -48)) && mg x 3 0 fun n _ => Nat.beq n v.2.1)))))))
def mf_okB (x : ai_s) : Bool := x.2.2.1.isEmpty && (mf_bad x (-1) ||
  ((Nat.beq x.1 217 && (mf_lk x (1, 3, 0, 1) && (mf_lv x (1, 4, 0, 0) && (decide (x.2.1 = ms_lo) && (av_f x 5 3 2 none (-1) || (av_f x 4 3 2 none (-1) && mg_out x 3 1)))))) ||
   (Nat.beq x.1 214 && (mf_lk x (1, 3, 0, 2) && (decide (x.2.1 = ms_lo) && (av_f x 4 3 2 none (-1) && (mg_in x 3 1 && (ai_lk x.2.2.2.2.1 49 14).any fun v => decide (v = (1, v.2.1, 0, -48)) && (((x.2.2.2.1[v.2.1]?).any fun e => decide (-1000 ≤ e.1) && decide (e.2.1 ≤ 1000)) && x.2.2.2.2.2.any fun q => Nat.beq q.1 1 && (Nat.beq q.2.2.2.1 v.2.1 && (decide (q.2.2.2.2 = 0) && ((mg x 3 1 fun n _ => Nat.beq n q.2.2.1) && av_f x 510 4 4 (some q.2.1) 0)))))))))))
def mf_okC (x : ai_s) : Bool := x.2.2.1.isEmpty && ((x.2.2.2.2.2.any fun q => Nat.beq q.1 0 && (Nat.beq q.2.1 4 && (Nat.beq q.2.2.1 3 && (decide (q.2.2.2.2 = 0) && (x.2.2.2.1[q.2.2.2.1]?).any fun e => decide (e.2.1 ≤ 1))))) ||
  ((Nat.beq x.1 217 && (mf_lk x (1, 4, 0, 0) && (mf_lv x (1, 5, 0, 0) && (decide (x.2.1 = ms_lo) && (av_f x 5 4 2 none 0 || (av_f x 4 4 2 none 0 && mg_out x 4 0)))))) ||
   (Nat.beq x.1 214 && (mf_lk x (1, 4, 0, 1) && (mf_lv x (1, 5, 0, 0) && (decide (x.2.1 = ms_lo) && (av_f x 4 4 2 none 0 && mg_in x 4 0)))))))
theorem mf_rA : ((ai_ex (hk mf_WR) 200 104 tb_m104 5 [214, 217] mf_A).any fun xs => xs.all mf_okA) = true := by decide +kernel
theorem mf_rB : ((ai_ex (hk mf_WR) 200 104 tb_m104 5 [214, 217] mf_B).any fun xs => xs.all mf_okB) = true := by decide +kernel
theorem mf_rC : ((ai_ex (hk mf_WR) 200 104 tb_m104 5 [214, 217] mf_C).any fun xs => xs.all mf_okC) = true := by decide +kernel
end
section
/-! .. its rounds by hand, until it ends -/
section MFL
variable {ad : List Nat} {p : Program} {l : Launch} {e : Env} {R : Room} {s : State} {m : MethodId} {args : Array Value} {below : List Frame} {meth : Method} {c : Code} {D : va_G} {tys : ai_ty} {A : Nat → Prop} {b L : Nat} {sx : Nat → Int32} {cells slots : Nat} {Q : State → Prop}
theorem mf_back (C : ai_cx tb_m104 5 p R s m args c D tys A b L sx cells slots) {ws : va_W} {lv : List (Nat × Value)} (k : hG tb_m104 p l e R s m args below meth c D A cells slots Q 140 lv [] ws) : hG tb_m104 p l e R s m args below meth c D A cells slots Q 214 lv [] ws := by
  intro H locs ls hP hD hS hl
  exact lv_goto (tgt := 140) C.1 C.2.1 (tv_m104.1.1.1 (214, .goto (-74), 3) (List.mem_of_getElem? (i := 106) rfl)) (by decide) (k H locs ls hP hD hS hl)
theorem mf_stC (C : ai_cx tb_m104 5 p R s m args c D tys A b L sx cells slots) {ws : va_W} {zn zh zc zv : Int32} {g : Nat → Int} (hw : ai_wd tb_TY ad tys ws) (hn : ai_sl ws 49 7 (.int zn)) (hh : ai_sl ws 49 12 (.int zh)) (hc : ai_sl ws 49 11 (.int zc)) (hv : ai_sl ws 49 14 (.int zv)) (h2 : zh.toInt + 2 ≤ zc.toInt) (hg : ∀ i, i < 160 → fx_o ws 52 i = some (g i)) {lv : List (Nat × Value)} (hlv : ai_lo ad b [0] ms_lo lv)
    (k1 : ∀ (ws' : va_W) (lv' : List (Nat × Value)), ai_wd tb_TY ad tys ws' → ai_fr mf_WR ws ws' → ai_sl ws' 49 11 (.int zc) → ai_sl ws' 49 14 (.int zv) → ai_lo ad b [0] ms_lo lv' → (zn.toInt.toNat ≤ zc.toInt.toNat ∨ g zc.toInt.toNat < 48 ∨ 57 < g zc.toInt.toNat) → hG tb_m104 p l e R s m args below meth c D A cells slots Q 217 lv' [] ws')
    (k2 : ∀ (ws' : va_W) (lv' : List (Nat × Value)) (zc' : Int32), ai_wd tb_TY ad tys ws' → ai_fr mf_WR ws ws' → ai_sl ws' 49 11 (.int zc') → ai_sl ws' 49 14 (.int zv) → zc'.toInt = zc.toInt + 1 → zc.toInt < zn.toInt → 48 ≤ g zc.toInt.toNat → g zc.toInt.toNat ≤ 57 → ai_lo ad b [0] ms_lo lv' → hG tb_m104 p l e R s m args below meth c D A cells slots Q 214 lv' [] ws') : hG tb_m104 p l e R s m args below meth c D A cells slots Q 140 lv [] ws := by
  obtain ⟨n0, n1⟩ := f49 (i := 7) hw hn rfl
  obtain ⟨c0, c1⟩ := f49 (i := 11) hw hc rfl
  obtain ⟨i0, i1⟩ := f49 (i := 12) hw hh rfl
  obtain ⟨v0, v1⟩ := f49 (i := 14) hw hv rfl
  obtain ⟨xs, h1, h3⟩ := ai_anyE mf_rC
  have gm : ai_gm tb_TY mf_WR ws ad b L sx tys tb_m104.2.2.2.2.1 [0, 0, zn.toInt, zh.toInt, zc.toInt, zv.toInt] mf_C lv [] ws := by
    refine ⟨en_mk (by simp only [mf_C, mf_e, List.cons_append, List.nil_append, en_b, and_true]; omega) rfl, fun q hq => ?_, lo0_ok (r := [0]) rfl rfl rfl hlv, trivial, hw, kc (kn1 hn (n := 2) (t := zn.toInt) rfl (by omega)) (kc (kn1 hh (n := 3) (t := zh.toInt) rfl (by omega)) (kc (kn1 hc (n := 4) (t := zc.toInt) rfl (by omega)) (kc (kn1 hv (n := 5) (t := zv.toInt) rfl (by omega)) k0))), fun _ _ _ _ h => h, fun h => by cases h⟩
    rw [List.mem_singleton.mp hq]
    exact ⟨zc.toInt, zh.toInt, zc.toInt, rfl, rfl, rfl, fun h => absurd (show (5 : Nat) = 0 from h) (by decide), fun h => absurd (show (5 : Nat) = 1 from h) (by decide), fun h => absurd (show (5 : Nat) = 2 from h) (by decide), fun h => absurd (show (5 : Nat) = 4 from h) (by decide), fun _ => h2, fun h => absurd (show (100 : Nat) ≤ 5 from h) (by decide)⟩
  refine hseg (st := mf_C) h1 rfl C gm (fun x hx r' lv' sk' ws' hx' g' => ?_)
  obtain ⟨g1, g2, g3, g4, g5, g6, g7, g8⟩ := g'
  have r0 : r'[0]? = some 0 := hx'.at rfl
  have r2 : r'[2]? = some zn.toInt := hx'.at rfl
  have r3 : r'[3]? = some zh.toInt := hx'.at rfl
  have r4 : r'[4]? = some zc.toInt := hx'.at rfl
  have r5 : r'[5]? = some zv.toInt := hx'.at rfl
  have hox := List.all_eq_true.mp h3 x hx
  unfold mf_okC at hox
  rw [Bool.and_eq_true, Bool.or_eq_true] at hox
  obtain ⟨hs, hox⟩ := hox
  have hsk : sk' = [] := by
    rw [List.isEmpty_iff.mp hs] at g4
    exact g4.nil
  subst hsk
  rcases hox with hox | hox
  · exfalso
    obtain ⟨q, hq, hox⟩ := List.any_eq_true.mp hox
    rw [Bool.and_eq_true, Bool.and_eq_true, Bool.and_eq_true, Bool.and_eq_true, ai_beq, ai_beq, ai_beq, decide_eq_true_eq] at hox
    obtain ⟨a1, a2, a3, a4, a5⟩ := hox
    obtain ⟨za, zb, zr, e1, e2, e3, e4, -⟩ := g2 q hq
    rw [a2, r4] at e1
    rw [a3, r3] at e2
    cases e1
    cases e2
    have e5 := e4 a1
    obtain ⟨e0, b1, b2, b3⟩ := ai_any g1 e3 a5
    rw [decide_eq_true_eq] at b1
    omega
  · have keepv : ∀ {v : Nat} {z : Int32} {i : Nat}, ai_lk x.2.2.2.2.1 49 i = some (1, v, 0, 0) → r'[v]? = some z.toInt → ai_sl ws' 49 i (.int z) := fun {v z i} hl hr => by
      obtain ⟨x1, s1, d1⟩ := ai_lk_ok g6 hl
      obtain ⟨j, rfl, hj⟩ := dvn d1 hr
      have hjz : j = z := Int32.toInt_inj.mp (by rw [hj]; omega)
      rw [← hjz]
      exact s1
    rw [Bool.or_eq_true] at hox
    rcases hox with hox | hox
    · rw [Bool.and_eq_true, Bool.and_eq_true, Bool.and_eq_true, Bool.and_eq_true, ai_beq, decide_eq_true_eq, Bool.or_eq_true] at hox
      obtain ⟨p1, p2, p3, p0, p4⟩ := hox
      have p2 := keepv (decide_eq_true_eq.mp p2) r4
      have p3 := keepv (decide_eq_true_eq.mp p3) r5
      rw [p1]
      refine k1 ws' lv' g5 g7 p2 p3 (lo0_ok r0 rfl rfl (by rw [← p0]; exact g3)) ?_
      rcases p4 with p4 | p4
      · have := av_f5 g2 r4 r2 p4
        exact Or.inl (by omega)
      · rw [Bool.and_eq_true] at p4
        have h4 := av_f4 g2 r4 r2 p4.1
        exact Or.inr (mg_outok g1 g2 r4 (by rw [Int.add_zero]; exact hg _ (by omega)) p4.2)
    · rw [Bool.and_eq_true, Bool.and_eq_true, Bool.and_eq_true, Bool.and_eq_true, Bool.and_eq_true, ai_beq, decide_eq_true_eq] at hox
      obtain ⟨p1, p2, p3, p4, p5, p6⟩ := hox
      have p3 := keepv (decide_eq_true_eq.mp p3) r5
      obtain ⟨x1, s1, d1⟩ := ai_lk_ok g6 (decide_eq_true_eq.mp p2)
      obtain ⟨i, rfl, hi⟩ := dvn d1 r4
      have h4 := av_f4 g2 r4 r2 p5
      obtain ⟨b1, b2⟩ := mg_inok g1 g2 r4 (by rw [Int.add_zero]; exact hg _ (by omega)) p6
      rw [p1]
      exact k2 ws' lv' i g5 g7 s1 p3 hi (by omega) b1 b2 (lo0_ok r0 rfl rfl (by rw [← p4]; exact g3))
theorem mf_loopC (C : ai_cx tb_m104 5 p R s m args c D tys A b L sx cells slots) {zn zh zv : Int32} {g : Nat → Int} :
    ∀ (N : Nat) (ws : va_W) (zc : Int32) (lv : List (Nat × Value)), (160 - zc.toInt).toNat < N → ai_wd tb_TY ad tys ws → ai_sl ws 49 7 (.int zn) → ai_sl ws 49 12 (.int zh) → ai_sl ws 49 11 (.int zc) → ai_sl ws 49 14 (.int zv) → zh.toInt + 2 ≤ zc.toInt → (∀ i, i < 160 → fx_o ws 52 i = some (g i)) → ai_lo ad b [0] ms_lo lv →
    (∀ (ws' : va_W) (lv' : List (Nat × Value)) (ze : Int32), ai_wd tb_TY ad tys ws' → ai_fr mf_WR ws ws' → ai_sl ws' 49 11 (.int ze) → ai_sl ws' 49 14 (.int zv) → ai_lo ad b [0] ms_lo lv' → ze.toInt.toNat = tp_skip g zn.toInt.toNat 48 57 zc.toInt.toNat → hG tb_m104 p l e R s m args below meth c D A cells slots Q 217 lv' [] ws') → hG tb_m104 p l e R s m args below meth c D A cells slots Q 140 lv [] ws := by
  intro N
  induction N with
  | zero => exact fun ws zc lv h => absurd h (Nat.not_lt_zero _)
  | succ N ih =>
    intro ws zc lv hN hw hn hh hc hv h2 hg hlv k
    obtain ⟨n0, n1⟩ := f49 (i := 7) hw hn rfl
    obtain ⟨c0, c1⟩ := f49 (i := 11) hw hc rfl
    refine mf_stC C hw hn hh hc hv h2 hg hlv (fun ws' lv' hw' hf hc' hv' hlo ho => ?_) (fun ws' lv' zc' hw' hf hc' hv' e1 hlt a1 a2 hlv' => ?_)
    · refine k ws' lv' zc hw' hf hc' hv' hlo ?_
      rw [tp_skip_out]
      omega
    · refine mf_back C (ih ws' zc' lv' (by omega) hw' (hf 49 7 _ (by decide) hn) (hf 49 12 _ (by decide) hh) hc' hv' (by omega) (fun i hi => fr_fx hw' (k := 52) rfl hf (by unfold ai_wr mf_WR; simp) (hg i hi)) hlv' (fun ws2 lv2 ze hw2 hf2 h7 h8 hlo e3 => ?_))
      refine k ws2 lv2 ze hw2 (hf.tr hf2) h7 h8 hlo ?_
      rw [e3, tp_skip_in (p := zc.toInt.toNat) (by omega) a1 a2, show zc'.toInt.toNat = zc.toInt.toNat + 1 by omega]
theorem mf_stB (C : ai_cx tb_m104 5 p R s m args c D tys A b L sx cells slots) {ws : va_W} {zn zh zc zv : Int32} {g : Nat → Int} (hw : ai_wd tb_TY ad tys ws) (hn : ai_sl ws 49 7 (.int zn)) (hh : ai_sl ws 49 12 (.int zh)) (hc : ai_sl ws 49 11 (.int zc)) (hv : ai_sl ws 49 14 (.int zv)) (h2 : zc.toInt = zh.toInt + 1) (v0 : 0 ≤ zv.toInt) (v1 : zv.toInt ≤ 9) (hg : ∀ i, i < 160 → fx_o ws 52 i = some (g i)) {lv : List (Nat × Value)} (hlv : ai_lo ad b [0] ms_lo lv)
    (k1 : ∀ (ws' : va_W) (lv' : List (Nat × Value)), ai_wd tb_TY ad tys ws' → ai_fr mf_WR ws ws' → ai_sl ws' 49 11 (.int zc) → ai_sl ws' 49 14 (.int zv) → ai_lo ad b [0] ms_lo lv' → (zn.toInt.toNat ≤ zc.toInt.toNat ∨ g zc.toInt.toNat < 48 ∨ 57 < g zc.toInt.toNat) → hG tb_m104 p l e R s m args below meth c D A cells slots Q 217 lv' [] ws')
    (k2 : ∀ (ws' : va_W) (lv' : List (Nat × Value)) (zc' zv' : Int32), ai_wd tb_TY ad tys ws' → ai_fr mf_WR ws ws' → ai_sl ws' 49 11 (.int zc') → ai_sl ws' 49 14 (.int zv') → zc'.toInt = zc.toInt + 1 → zv'.toInt = 10 * zv.toInt + (g zc.toInt.toNat - 48) → zc.toInt < zn.toInt → 48 ≤ g zc.toInt.toNat → g zc.toInt.toNat ≤ 57 → ai_lo ad b [0] ms_lo lv' → hG tb_m104 p l e R s m args below meth c D A cells slots Q 214 lv' [] ws') : hG tb_m104 p l e R s m args below meth c D A cells slots Q 140 lv [] ws := by
  obtain ⟨n0, n1⟩ := f49 (i := 7) hw hn rfl
  obtain ⟨c0, c1⟩ := f49 (i := 11) hw hc rfl
  obtain ⟨i0, i1⟩ := f49 (i := 12) hw hh rfl
  obtain ⟨xs, h1, h3⟩ := ai_anyE mf_rB
  have gm : ai_gm tb_TY mf_WR ws ad b L sx tys tb_m104.2.2.2.2.1 [0, 0, zn.toInt, zh.toInt, zv.toInt] mf_B lv [] ws := by
    refine ⟨en_mk (by simp only [mf_B, mf_e, List.cons_append, List.nil_append, en_b, and_true]; omega) rfl, (fun q hq => by cases hq), lo0_ok (r := [0]) rfl rfl rfl hlv, trivial, hw, kc (kn1 hn (n := 2) (t := zn.toInt) rfl (by omega)) (kc (kn1 hh (n := 3) (t := zh.toInt) rfl (by omega)) (kc (kn1 hc (n := 3) (t := zh.toInt) rfl (by omega)) (kc (kn1 hv (n := 4) (t := zv.toInt) rfl (by omega)) k0))), fun _ _ _ _ h => h, fun h => by cases h⟩
  refine hseg (st := mf_B) h1 rfl C gm (fun x hx r' lv' sk' ws' hx' g' => ?_)
  obtain ⟨g1, g2, g3, g4, g5, g6, g7, g8⟩ := g'
  have r0 : r'[0]? = some 0 := hx'.at rfl
  have r2 : r'[2]? = some zn.toInt := hx'.at rfl
  have r3 : r'[3]? = some zh.toInt := hx'.at rfl
  have r4 : r'[4]? = some zv.toInt := hx'.at rfl
  have ez : (zh.toInt + 1).toNat = zc.toInt.toNat := by omega
  have hox := List.all_eq_true.mp h3 x hx
  unfold mf_okB at hox
  rw [Bool.and_eq_true, Bool.or_eq_true] at hox
  obtain ⟨hs, hox⟩ := hox
  have hsk : sk' = [] := by
    rw [List.isEmpty_iff.mp hs] at g4
    exact g4.nil
  subst hsk
  rcases hox with hox | hox
  · exact (mf_badok g1 g2 r3 (by decide) hox).elim
  rw [Bool.or_eq_true] at hox
  rcases hox with hox | hox
  · rw [Bool.and_eq_true, Bool.and_eq_true, Bool.and_eq_true, Bool.and_eq_true, ai_beq, decide_eq_true_eq, Bool.or_eq_true] at hox
    obtain ⟨p1, p2, p3, p0, p4⟩ := hox
    obtain ⟨x1, s1, d1⟩ := ai_lk_ok g6 (decide_eq_true_eq.mp p2)
    obtain ⟨j, rfl, hj⟩ := dvn d1 r3
    have hjz : j = zc := Int32.toInt_inj.mp (by omega)
    obtain ⟨x2, s2, d2⟩ := ai_lk_ok g6 (decide_eq_true_eq.mp p3)
    obtain ⟨i, rfl, hi⟩ := dvn d2 r4
    have hiz : i = zv := Int32.toInt_inj.mp (by omega)
    rw [hjz] at s1
    rw [hiz] at s2
    rw [p1]
    refine k1 ws' lv' g5 g7 s1 s2 (lo0_ok r0 rfl rfl (by rw [← p0]; exact g3)) ?_
    rcases p4 with p4 | p4
    · have := av_f5 g2 r3 r2 p4
      exact Or.inl (by omega)
    · rw [Bool.and_eq_true] at p4
      have h4 := av_f4 g2 r3 r2 p4.1
      exact Or.inr (mg_outok g1 g2 r3 (by rw [ez]; exact hg _ (by omega)) p4.2)
  · rw [Bool.and_eq_true, Bool.and_eq_true, Bool.and_eq_true, Bool.and_eq_true, Bool.and_eq_true, ai_beq, decide_eq_true_eq] at hox
    obtain ⟨p1, p2, p3, p4, p5, p6⟩ := hox
    obtain ⟨x1, s1, d1⟩ := ai_lk_ok g6 (decide_eq_true_eq.mp p2)
    obtain ⟨i, rfl, hi⟩ := dvn d1 r3
    have h4 := av_f4 g2 r3 r2 p4
    have hb : fx_o ws 52 (zh.toInt + 1).toNat = some (g zc.toInt.toNat) := by rw [ez]; exact hg _ (by omega)
    obtain ⟨b1, b2⟩ := mg_inok g1 g2 r3 hb p5
    obtain ⟨v, l14, p6⟩ := ai_anyE p6
    rw [Bool.and_eq_true, Bool.and_eq_true, decide_eq_true_eq] at p6
    obtain ⟨ev, p7, p8⟩ := p6
    obtain ⟨q, hq, p8⟩ := List.any_eq_true.mp p8
    rw [Bool.and_eq_true, Bool.and_eq_true, Bool.and_eq_true, Bool.and_eq_true, ai_beq, ai_beq, decide_eq_true_eq] at p8
    obtain ⟨q1, q2, q3, q4, q5⟩ := p8
    obtain ⟨vb, eb, t1, t2, -, -⟩ := mg_ok g1 g2 r3 hb q4
    have t1 := ai_beq.mp t1
    obtain ⟨q', hq', f1, f2, f3, f4, f5⟩ := av_mem q5
    obtain ⟨ua, ub, ur, -, -, -, -, -, -, -, -, u9⟩ := g2 q' hq'
    obtain ⟨y1, y2, w1, w2, -, -, w3, -⟩ := (u9 (by omega)).2.1 (by omega)
    rw [f2, r4] at w1
    cases w1
    have w3 := w3 (by omega)
    rw [f1, f4] at w3
    rw [f5 _ rfl] at w2
    obtain ⟨ya, yb, yr, z1, z2, z3, -, z4, -⟩ := g2 q hq
    have z5 := z4 q1
    rw [w2] at z1
    cases z1
    rw [← t1, t2] at z2
    cases z2
    rw [q3] at z5
    rw [q2] at z3
    obtain ⟨e0, c3, c4, c5⟩ := ai_any g1 z3 p7
    rw [Bool.and_eq_true, decide_eq_true_eq, decide_eq_true_eq] at c3
    obtain ⟨x2, s2, d2⟩ := ai_lk_ok g6 l14
    rw [ev] at d2
    obtain ⟨zv', rfl, hv'⟩ := dvn d2 z3
    have w4 : y2 = 10 * zv.toInt := by rw [w3]; show ((510 - 500 : Nat) : Int) * (zv.toInt + 0) = _; omega
    rw [p1]
    exact k2 ws' lv' i zv' g5 g7 s1 s2 (by omega) (by omega) (by omega) b1 b2 (lo0_ok r0 rfl rfl (by rw [← p3]; exact g3))
theorem mf_stA (C : ai_cx tb_m104 5 p R s m args c D tys A b L sx cells slots) {ws : va_W} {zn zc zv : Int32} {g : Nat → Int} (hw : ai_wd tb_TY ad tys ws) (hn : ai_sl ws 49 7 (.int zn)) (hh : ai_sl ws 49 12 (.int zc)) (hc : ai_sl ws 49 11 (.int zc)) (hv : ai_sl ws 49 14 (.int zv)) (v0 : zv.toInt = 0) (hg : ∀ i, i < 160 → fx_o ws 52 i = some (g i)) {lv : List (Nat × Value)} (hlv : ai_lo ad b [0] ms_lo lv)
    (k1 : ∀ (ws' : va_W) (lv' : List (Nat × Value)), ai_wd tb_TY ad tys ws' → ai_fr mf_WR ws ws' → ai_sl ws' 49 11 (.int zc) → ai_sl ws' 49 14 (.int zv) → ai_lo ad b [0] ms_lo lv' → (zn.toInt.toNat ≤ zc.toInt.toNat ∨ g zc.toInt.toNat < 48 ∨ 57 < g zc.toInt.toNat) → hG tb_m104 p l e R s m args below meth c D A cells slots Q 217 lv' [] ws')
    (k2 : ∀ (ws' : va_W) (lv' : List (Nat × Value)) (zc' zv' : Int32), ai_wd tb_TY ad tys ws' → ai_fr mf_WR ws ws' → ai_sl ws' 49 11 (.int zc') → ai_sl ws' 49 14 (.int zv') → zc'.toInt = zc.toInt + 1 → zv'.toInt = g zc.toInt.toNat - 48 → zc.toInt < zn.toInt → 48 ≤ g zc.toInt.toNat → g zc.toInt.toNat ≤ 57 → ai_lo ad b [0] ms_lo lv' → hG tb_m104 p l e R s m args below meth c D A cells slots Q 214 lv' [] ws') : hG tb_m104 p l e R s m args below meth c D A cells slots Q 140 lv [] ws := by
  obtain ⟨n0, n1⟩ := f49 (i := 7) hw hn rfl
  obtain ⟨c0, c1⟩ := f49 (i := 11) hw hc rfl
  obtain ⟨xs, h1, h3⟩ := ai_anyE mf_rA
  have gm : ai_gm tb_TY mf_WR ws ad b L sx tys tb_m104.2.2.2.2.1 [0, 0, zn.toInt, zc.toInt] mf_A lv [] ws := by
    refine ⟨en_mk (by simp only [mf_A, mf_e, en_b, and_true]; omega) rfl, (fun q hq => by cases hq), lo0_ok (r := [0]) rfl rfl rfl hlv, trivial, hw, kc (kn1 hn (n := 2) (t := zn.toInt) rfl (by omega)) (kc (kn1 hh (n := 3) (t := zc.toInt) rfl (by omega)) (kc (kn1 hc (n := 3) (t := zc.toInt) rfl (by omega)) (kc (kn1 hv (n := 0) (t := 0) rfl (by omega)) k0))), fun _ _ _ _ h => h, fun h => by cases h⟩
  refine hseg (st := mf_A) h1 rfl C gm (fun x hx r' lv' sk' ws' hx' g' => ?_)
  obtain ⟨g1, g2, g3, g4, g5, g6, g7, g8⟩ := g'
  have r0 : r'[0]? = some 0 := hx'.at rfl
  have r2 : r'[2]? = some zn.toInt := hx'.at rfl
  have r3 : r'[3]? = some zc.toInt := hx'.at rfl
  have ez : (zc.toInt + 0).toNat = zc.toInt.toNat := by omega
  have hox := List.all_eq_true.mp h3 x hx
  unfold mf_okA at hox
  rw [Bool.and_eq_true, Bool.or_eq_true] at hox
  obtain ⟨hs, hox⟩ := hox
  have hsk : sk' = [] := by
    rw [List.isEmpty_iff.mp hs] at g4
    exact g4.nil
  subst hsk
  rcases hox with hox | hox
  · exact (mf_badok g1 g2 r3 (by decide) hox).elim
  rw [Bool.or_eq_true] at hox
  rcases hox with hox | hox
  · rw [Bool.and_eq_true, Bool.and_eq_true, Bool.and_eq_true, Bool.and_eq_true, ai_beq, decide_eq_true_eq, Bool.or_eq_true] at hox
    obtain ⟨p1, p2, p3, p0, p4⟩ := hox
    obtain ⟨x1, s1, d1⟩ := ai_lk_ok g6 (decide_eq_true_eq.mp p2)
    obtain ⟨j, rfl, hj⟩ := dvn d1 r3
    have hjz : j = zc := Int32.toInt_inj.mp (by omega)
    obtain ⟨x2, s2, d2⟩ := ai_lk_ok g6 (decide_eq_true_eq.mp p3)
    obtain ⟨i, rfl, hi⟩ := dvn d2 r0
    have hiz : i = zv := Int32.toInt_inj.mp (by omega)
    rw [hjz] at s1
    rw [hiz] at s2
    rw [p1]
    refine k1 ws' lv' g5 g7 s1 s2 (lo0_ok r0 rfl rfl (by rw [← p0]; exact g3)) ?_
    rcases p4 with p4 | p4
    · have := av_f5 g2 r3 r2 p4
      exact Or.inl (by omega)
    · rw [Bool.and_eq_true] at p4
      have h4 := av_f4 g2 r3 r2 p4.1
      exact Or.inr (mg_outok g1 g2 r3 (by rw [ez]; exact hg _ (by omega)) p4.2)
  · rw [Bool.and_eq_true, Bool.and_eq_true, Bool.and_eq_true, Bool.and_eq_true, Bool.and_eq_true, ai_beq, decide_eq_true_eq] at hox
    obtain ⟨p1, p2, p3, p4, p5, p6⟩ := hox
    obtain ⟨x1, s1, d1⟩ := ai_lk_ok g6 (decide_eq_true_eq.mp p2)
    obtain ⟨i, rfl, hi⟩ := dvn d1 r3
    have h4 := av_f4 g2 r3 r2 p4
    have hb : fx_o ws 52 (zc.toInt + 0).toNat = some (g zc.toInt.toNat) := by rw [ez]; exact hg _ (by omega)
    obtain ⟨b1, b2⟩ := mg_inok g1 g2 r3 hb p5
    obtain ⟨v, l14, p6⟩ := ai_anyE p6
    rw [Bool.and_eq_true, decide_eq_true_eq] at p6
    obtain ⟨ev, p7⟩ := p6
    obtain ⟨vb, eb, t1, t2, -, -⟩ := mg_ok g1 g2 r3 hb p7
    have t1 := ai_beq.mp t1
    obtain ⟨x2, s2, d2⟩ := ai_lk_ok g6 l14
    rw [ev, ← t1] at d2
    obtain ⟨zv', rfl, hv'⟩ := dvn d2 t2
    rw [p1]
    exact k2 ws' lv' i zv' g5 g7 s1 s2 (by omega) (by omega) (by omega) b1 b2 (lo0_ok r0 rfl rfl (by rw [← p3]; exact g3))
/-- all of it: where the figures end, and the number of the first two -/
theorem mf_loop (C : ai_cx tb_m104 5 p R s m args c D tys A b L sx cells slots) {ws : va_W} {zn zc zv : Int32} {g : Nat → Int} (hw : ai_wd tb_TY ad tys ws) (hn : ai_sl ws 49 7 (.int zn)) (hh : ai_sl ws 49 12 (.int zc)) (hc : ai_sl ws 49 11 (.int zc)) (hv : ai_sl ws 49 14 (.int zv)) (v0 : zv.toInt = 0) (hg : ∀ i, i < 160 → fx_o ws 52 i = some (g i)) {lv : List (Nat × Value)} (hlv : ai_lo ad b [0] ms_lo lv)
    (k : ∀ (ws' : va_W) (lv' : List (Nat × Value)) (ze zw : Int32), ai_wd tb_TY ad tys ws' → ai_fr mf_WR ws ws' → ai_sl ws' 49 11 (.int ze) → ai_sl ws' 49 14 (.int zw) → ai_lo ad b [0] ms_lo lv' → ze.toInt.toNat = tp_skip g zn.toInt.toNat 48 57 zc.toInt.toNat → (ze.toInt - zc.toInt ≤ 2 → zw.toInt = tp_num g zc.toInt.toNat ze.toInt.toNat) → hG tb_m104 p l e R s m args below meth c D A cells slots Q 217 lv' [] ws') : hG tb_m104 p l e R s m args below meth c D A cells slots Q 140 lv [] ws := by
  obtain ⟨n0, n1⟩ := f49 (i := 7) hw hn rfl
  obtain ⟨c0, c1⟩ := f49 (i := 11) hw hc rfl
  refine mf_stA C hw hn hh hc hv v0 hg hlv (fun ws1 lv1 hw1 hf1 hc1 hv1 hlo ho => ?_) (fun ws1 lv1 z1 y1 hw1 hf1 hc1 hv1 e1 w1 hlt a1 a2 hlv1 => ?_)
  · refine k ws1 lv1 zc zv hw1 hf1 hc1 hv1 hlo ?_ (fun _ => ?_)
    · rw [tp_skip_out]
      omega
    · unfold tp_num
      rw [if_pos (by omega), v0]
  · have hg1 : ∀ i, i < 160 → fx_o ws1 52 i = some (g i) := fun i hi => fr_fx hw1 (k := 52) rfl hf1 (by unfold ai_wr mf_WR; simp) (hg i hi)
    have s1 : tp_skip g zn.toInt.toNat 48 57 zc.toInt.toNat = tp_skip g zn.toInt.toNat 48 57 z1.toInt.toNat := by
      rw [tp_skip_in (p := zc.toInt.toNat) (by omega) a1 a2, show z1.toInt.toNat = zc.toInt.toNat + 1 by omega]
    refine mf_back C (mf_stB C hw1 (hf1 49 7 _ (by decide) hn) (hf1 49 12 _ (by decide) hh) hc1 hv1 e1 (by omega) (by omega) hg1 hlv1 (fun ws2 lv2 hw2 hf2 hc2 hv2 hlo ho => ?_) (fun ws2 lv2 z2 y2 hw2 hf2 hc2 hv2 e2 w2 hlt2 a3 a4 hlv2 => ?_))
    · refine k ws2 lv2 z1 y1 hw2 (hf1.tr hf2) hc2 hv2 hlo ?_ (fun _ => ?_)
      · rw [s1, tp_skip_out]
        omega
      · unfold tp_num
        rw [if_neg (by omega), if_pos (by omega), w1]
    · have hg2 : ∀ i, i < 160 → fx_o ws2 52 i = some (g i) := fun i hi => fr_fx hw2 (k := 52) rfl hf2 (by unfold ai_wr mf_WR; simp) (hg1 i hi)
      refine mf_back C (mf_loopC C ((160 - z2.toInt).toNat + 1) ws2 z2 lv2 (Nat.lt_succ_self _) hw2 (hf2 49 7 _ (by decide) (hf1 49 7 _ (by decide) hn)) (hf2 49 12 _ (by decide) (hf1 49 12 _ (by decide) hh)) hc2 hv2 (by omega) hg2 hlv2 (fun ws3 lv3 ze hw3 hf3 hc3 hv3 hlo e3 => ?_))
      have s2 : tp_skip g zn.toInt.toNat 48 57 z1.toInt.toNat = tp_skip g zn.toInt.toNat 48 57 z2.toInt.toNat := by
        rw [tp_skip_in (p := z1.toInt.toNat) (by omega) a3 a4, show z2.toInt.toNat = z1.toInt.toNat + 1 by omega]
      refine k ws3 lv3 ze y2 hw3 ((hf1.tr hf2).tr hf3) hc3 hv3 hlo (by rw [e3, s1, s2]) (fun h => ?_)
      have hle := (tp_skip_le (g := g) (n := zn.toInt.toNat) (p := z2.toInt.toNat) (lo := 48) (hi := 57)).1
      unfold tp_num
      rw [if_neg (by omega), if_neg (by omega), w2, w1, show z1.toInt.toNat = zc.toInt.toNat + 1 by omega]
end MFL
end
section
/-! the reference's step is sp_tok over row 52 -/
theorem lkv {ad : List Nat} {b : Nat} {r : List Int} {ws : va_W} {kn : List ai_k} {k i n : Nat} {o z : Int} (g6 : ai_kn ad b r ws kn) (h : ai_lk kn k i = some (1, n, 0, o)) (hr : r[n]? = some z) : ∃ j : Int32, ai_sl ws k i (.int j) ∧ j.toInt = z + o := by
  obtain ⟨x, s, d⟩ := ai_lk_ok g6 h
  obtain ⟨j, rfl, hj⟩ := dvn d hr
  exact ⟨j, s, hj⟩
def mgi (x : ai_s) (lo hi : Int) : Bool := mg x 3 0 fun _ e => decide (lo ≤ e.1) && decide (e.2.1 ≤ hi)
def mgo (x : ai_s) (lo hi : Int) : Bool := mg x 3 0 fun _ e => decide (e.2.1 < lo) || decide (hi < e.1)
def mgn (x : ai_s) : Bool := mg x 3 0 fun v e => decide (e.2.1 < 59) || decide (59 < e.1) || av_f x 140 v 0 none 59
def s9 (x : ai_s) (i : Nat) (v : ai_v) : Bool := decide (ai_lk x.2.2.2.2.1 49 i = some v)
def st_WR : List (Nat × Nat × Nat) := [(49, 9, 15)]
def st_0 : ai_s := (0, ms_lo, [], [(0, 0, false, 0, 0), (0, 2555, false, 1, 0)], [(49, 9, (1, 0, 0, 0))], [])
def st_0ok (x : ai_s) : Bool := x.2.2.1.isEmpty && (Nat.beq x.1 8 && decide (x.2.1 = ms_lo))
theorem st_r0 : ((ai_ex (hk []) 20 104 tb_m104 5 [8] st_0).any fun xs => xs.all st_0ok) = true := by decide +kernel
def st_34 : ai_s := (34, ms_lo, [], mf_e, [(49, 7, (1, 2, 0, 0)), (49, 11, (1, 3, 0, 0)), (49, 9, (1, 0, 0, 0))], [])
def st_34ok (x : ai_s) : Bool := x.2.2.1.isEmpty && (s9 x 12 (1, 3, 0, 0) &&
  ((Nat.beq x.1 269 && (s9 x 13 (1, 0, 0, 0) && (s9 x 9 (1, 0, 0, 0) && (s9 x 11 (1, 3, 0, 0) && (s9 x 14 (1, 0, 0, 0) && av_f x 5 3 2 none 0))))) ||
   (av_f x 4 3 2 none 0 &&
    ((Nat.beq x.1 269 && (s9 x 13 (1, 0, 0, 3) && (s9 x 9 (1, 0, 0, 0) && (s9 x 11 (1, 3, 0, 1) && (s9 x 14 (1, 0, 0, 0) && mgi x 59 59))))) ||
     ((Nat.beq x.1 269 && (s9 x 9 (1, 0, 0, 1) && (s9 x 10 (1, 3, 0, 0) && (mgn x && (mgo x 97 122 && mgo x 48 57))))) ||
      (decide (ai_get x.2.1 0 = some (0, 49, 0, 0)) && (s9 x 9 (1, 0, 0, 0) && (s9 x 11 (1, 3, 0, 0) && (s9 x 14 (1, 0, 0, 0) &&
       ((Nat.beq x.1 84 && mgi x 97 122) || (Nat.beq x.1 140 && mgi x 48 57)))))))))))
theorem st_r34 : ((ai_ex (hk st_WR) 200 104 tb_m104 5 [84, 140] st_34).any fun xs => xs.all st_34ok) = true := by decide +kernel
def st_118 : ai_s := (118, ms_lo, [], [(0, 0, false, 0, 0), (0, 2555, false, 1, 0)], [], [])
def st_118ok (x : ai_s) : Bool := x.2.2.1.isEmpty && (Nat.beq x.1 269 && s9 x 13 (1, 0, 0, 1))
theorem st_r118 : ((ai_ex (hk [(49, 13, 14)]) 20 104 tb_m104 5 [] st_118).any fun xs => xs.all st_118ok) = true := by decide +kernel
def st_W217 : List (Nat × Nat × Nat) := [(49, 9, 11), (49, 13, 14)]
def st_217 : ai_s := (217, ms_lo, [], mf_e, [(49, 12, (1, 2, 0, 0)), (49, 11, (1, 3, 0, 0)), (49, 9, (1, 0, 0, 0))], [])
def st_217ok (x : ai_s) : Bool := x.2.2.1.isEmpty && (Nat.beq x.1 269 &&
  (((tn_d x fun e => decide (e.2.1 ≤ 2)) && (s9 x 9 (1, 0, 0, 0) && s9 x 13 (1, 0, 0, 2))) ||
   ((tn_d x fun e => decide (3 ≤ e.1)) && (s9 x 9 (1, 0, 0, 1) && s9 x 10 (1, 2, 0, 0)))))
theorem st_r217 : ((ai_ex (hk st_W217) 60 104 tb_m104 5 [] st_217).any fun xs => xs.all st_217ok) = true := by decide +kernel
section STA
variable {ad : List Nat} {M : ai_m} {p : Program} {l : Launch} {e : Env} {R : Room} {s : State} {m : MethodId} {args : Array Value} {below : List Frame} {meth : Method} {c : Code} {D : va_G} {tys : ai_ty} {A : Nat → Prop} {b L : Nat} {sx : Nat → Int32} {cells slots : Nat} {Q : State → Prop}
theorem hG_this {r : List Int} {lo : List (Nat × ai_v)} {lv : List (Nat × Value)} {cl pc : Nat} {sk : List Value} {ws : va_W} (h : ai_lo ad b r lo lv) (hg : ai_get lo 0 = some (0, cl, 0, 0)) (k : ∀ lv1, ai_lo ad b [0] [(0, (0, cl, 0, 0))] lv1 → hG M p l e R s m args below meth c D A cells slots Q pc lv1 sk ws) : hG M p l e R s m args below meth c D A cells slots Q pc lv sk ws := by
  obtain ⟨n, x, h1, h2⟩ := ai_get_ok h hg
  intro H locs ls hP hD hS hl
  refine k [(0, x)] ⟨rfl, ?_, trivial⟩ H locs ls hP hD hS ⟨hl.1, hl.2.1, fun q hq => ?_⟩
  · rcases h2 with h2 | ⟨q, -⟩ | ⟨q, -⟩ | ⟨q, -⟩ | ⟨q, -⟩
    · exact Or.inl h2
    · exact absurd (id q : (0 : Nat) = 1) (by decide)
    · exact absurd (id q : (0 : Nat) = 2) (by decide)
    · exact absurd (id q : (0 : Nat) = 3) (by decide)
    · exact absurd (id q : (0 : Nat) = 4) (by decide)
  · rw [List.mem_singleton.mp hq]
    exact lv_at hl n h1
/-- what the reference's cells are behind a step: token t from f to e, its number v -/
def st_is (ws : va_W) (t f e : Nat) (v : Int) : Prop :=
  (t = 4 → ∃ zb za : Int32, ai_sl ws 49 9 (.int zb) ∧ zb.toInt = 1 ∧ ai_sl ws 49 10 (.int za) ∧ za.toInt = (f : Int)) ∧
  (t ≠ 4 → ∃ zb zs zh zt zv : Int32, ai_sl ws 49 9 (.int zb) ∧ zb.toInt = 0 ∧ ai_sl ws 49 11 (.int zs) ∧ zs.toInt = (e : Int) ∧ ai_sl ws 49 12 (.int zh) ∧ zh.toInt = (f : Int) ∧ ai_sl ws 49 13 (.int zt) ∧ zt.toInt = (t : Int) ∧ ai_sl ws 49 14 (.int zv) ∧ zv.toInt = v)
theorem st_fr {W : List (Nat × Nat × Nat)} {u v : va_W} (h : ai_fr W u v) (hw : ∀ q ∈ W, q.1 = 49 ∧ 9 ≤ q.2.1 ∧ q.2.2 ≤ 15) : ai_fr st_WR u v := fun c i x a b' => h c i x (by
  unfold ai_wr st_WR at a
  unfold ai_wr
  rw [List.any_eq_false] at a ⊢
  intro q hq hx
  have := a (49, 9, 15) (List.mem_singleton.mpr rfl)
  obtain ⟨w1, w2, w3⟩ := hw q hq
  simp only [Bool.and_eq_true, Bool.or_eq_true, decide_eq_true_eq] at hx this
  omega) b'
set_option maxHeartbeats 4000000 in
theorem st_all (C : ai_cx tb_m104 5 p R s m args c D tys A b L sx cells slots) {ws : va_W} {zn zp zo : Int32} {g : Nat → Int} (hw : ai_wd tb_TY ad tys ws) (hn : ai_sl ws 49 7 (.int zn)) (hp : ai_sl ws 49 11 (.int zp)) (hb : ai_sl ws 49 9 (.int zo)) (hb0 : zo.toInt = 0) (hg : ∀ i, i < 160 → fx_o ws 52 i = some (g i)) {lv : List (Nat × Value)} (hlv : ai_lo ad b [0] ms_lo lv)
    (k : ∀ (ws' : va_W) (lv' : List (Nat × Value)) (t f en : Nat) (v : Int), ai_wd tb_TY ad tys ws' → ai_fr st_WR ws ws' → sp_tok g zn.toInt.toNat zp.toInt.toNat = (t, f, en, v) → f ≤ 160 → en ≤ 160 → -2147483648 ≤ v → v ≤ 2147483647 → st_is ws' t f en v → hG tb_m104 p l e R s m args below meth c D A cells slots Q 269 lv' [] ws') : hG tb_m104 p l e R s m args below meth c D A cells slots Q 0 lv [] ws := by
  obtain ⟨n0, n1⟩ := f49 (i := 7) hw hn rfl
  obtain ⟨xs0, h01, h02⟩ := ai_anyE st_r0
  have gm0 : ai_gm tb_TY [] ws ad b L sx tys tb_m104.2.2.2.2.1 [0, 0] st_0 lv [] ws := by
    refine ⟨en_mk (by simp only [st_0, en_b, and_true]; omega) rfl, (fun q hq => by cases hq), lo0_ok (r := [0]) rfl rfl rfl hlv, trivial, hw, kc (kn1 hb (n := 0) (t := 0) rfl (by omega)) k0, fun _ _ _ _ h => h, fun h => by cases h⟩
  refine hseg (st := st_0) h01 rfl C gm0 (fun x hx r' lv1 sk' ws0 hx' g' => ?_)
  obtain ⟨-, -, g3, g4, hw0, -, f0, -⟩ := g'
  have r0 : r'[0]? = some 0 := hx'.at rfl
  have hox := List.all_eq_true.mp h02 x hx
  unfold st_0ok at hox
  rw [Bool.and_eq_true, Bool.and_eq_true, ai_beq, decide_eq_true_eq] at hox
  obtain ⟨hs, p1, p2⟩ := hox
  have hsk : sk' = [] := by
    rw [List.isEmpty_iff.mp hs] at g4
    exact g4.nil
  subst hsk
  rw [p1]
  have hlv1 : ai_lo ad b [0] ms_lo lv1 := lo0_ok r0 rfl rfl (by rw [← p2]; exact g3)
  clear g3 g4 hx hx' hs p1 p2 r0 r'
  have wn : ∀ (k i : Nat), ai_wr [] k i i = false := fun _ _ => rfl
  have hn0 := f0 49 7 _ (wn _ _) hn
  have hp0 := f0 49 11 _ (wn _ _) hp
  have hb00 := f0 49 9 _ (wn _ _) hb
  have hg0 : ∀ i, i < 160 → fx_o ws0 52 i = some (g i) := fun i hi => fr_fx hw0 (k := 52) rfl f0 (wn _ _) (hg i hi)
  have F0 : ai_fr st_WR ws ws0 := st_fr f0 (fun q hq => by cases hq)
  refine ms_loop (j := 0) (by decide) C ((160 - zp.toInt).toNat + 1) ws0 zp lv1 (Nat.lt_succ_self _) hw0 hn0 hp0 hg0 hlv1 (fun ws1 lv2 zf hw1 f1 hc1 hlv2 eF => ?_)
  have hn1 := f1 49 7 _ (by decide) hn0
  have hb1 := f1 49 9 _ (by decide) hb00
  have hg1 : ∀ i, i < 160 → fx_o ws1 52 i = some (g i) := fun i hi => fr_fx hw1 (k := 52) rfl f1 (by unfold ai_wr ms_WR; simp) (hg0 i hi)
  have F1 : ai_fr st_WR ws ws1 := F0.tr (st_fr f1 (fun q hq => by rw [List.mem_singleton.mp hq]; decide))
  have eF : tp_skip g zn.toInt.toNat 32 32 zp.toInt.toNat = zf.toInt.toNat := eF.symm
  obtain ⟨c0, c1⟩ := f49 (i := 11) hw1 hc1 rfl
  obtain ⟨xs1, h11, h12⟩ := ai_anyE st_r34
  have gm1 : ai_gm tb_TY st_WR ws1 ad b L sx tys tb_m104.2.2.2.2.1 [0, 0, zn.toInt, zf.toInt] st_34 lv2 [] ws1 := by
    refine ⟨en_mk (by simp only [st_34, mf_e, en_b, and_true]; omega) rfl, (fun q hq => by cases hq), lo0_ok (r := [0]) rfl rfl rfl hlv2, trivial, hw1, kc (kn1 hn1 (n := 2) (t := zn.toInt) rfl (by omega)) (kc (kn1 hc1 (n := 3) (t := zf.toInt) rfl (by omega)) (kc (kn1 hb1 (n := 0) (t := 0) rfl (by omega)) k0)), fun _ _ _ _ h => h, fun h => by cases h⟩
  refine hseg (st := st_34) h11 rfl C gm1 (fun x hx r' lv3 sk' ws2 hx' g' => ?_)
  obtain ⟨g1, g2, g3, g4, hw2, g6, f2, -⟩ := g'
  have F2 : ai_fr st_WR ws ws2 := F1.tr f2
  have r0 : r'[0]? = some 0 := hx'.at rfl
  have r2 : r'[2]? = some zn.toInt := hx'.at rfl
  have r3 : r'[3]? = some zf.toInt := hx'.at rfl
  have hox := List.all_eq_true.mp h12 x hx
  unfold st_34ok at hox
  rw [Bool.and_eq_true, Bool.and_eq_true, Bool.or_eq_true] at hox
  obtain ⟨hs, q12, hox⟩ := hox
  have hsk : sk' = [] := by
    rw [List.isEmpty_iff.mp hs] at g4
    exact g4.nil
  subst hsk
  obtain ⟨zh, s12, e12⟩ := lkv g6 (decide_eq_true_eq.mp q12) r3
  have bt : zf.toInt < zn.toInt → fx_o ws1 52 (zf.toInt + 0).toNat = some (g zf.toInt.toNat) := fun h => by
    rw [Int.add_zero]
    exact hg1 _ (by omega)
  have bi : ∀ {lo hi : Int}, zf.toInt < zn.toInt → mgi x lo hi = true → lo ≤ g zf.toInt.toNat ∧ g zf.toInt.toNat ≤ hi := fun {lo hi} h hh => by
    obtain ⟨v, e0, b1, -, b2, b3⟩ := mg_ok g1 g2 r3 (bt h) hh
    rw [Bool.and_eq_true, decide_eq_true_eq, decide_eq_true_eq] at b1
    omega
  have bo : ∀ {lo hi : Int}, zf.toInt < zn.toInt → mgo x lo hi = true → g zf.toInt.toNat < lo ∨ hi < g zf.toInt.toNat := fun {lo hi} h hh => by
    obtain ⟨v, e0, b1, -, b2, b3⟩ := mg_ok g1 g2 r3 (bt h) hh
    rw [Bool.or_eq_true, decide_eq_true_eq, decide_eq_true_eq] at b1
    omega
  rcases hox with hox | hox
  · rw [Bool.and_eq_true, Bool.and_eq_true, Bool.and_eq_true, Bool.and_eq_true, Bool.and_eq_true, ai_beq] at hox
    obtain ⟨p1, q13, q9, q11, q14, h5⟩ := hox
    obtain ⟨zt, s13, e13⟩ := lkv g6 (decide_eq_true_eq.mp q13) r0
    obtain ⟨zb, s9', e9⟩ := lkv g6 (decide_eq_true_eq.mp q9) r0
    obtain ⟨zs, s11, e11⟩ := lkv g6 (decide_eq_true_eq.mp q11) r3
    obtain ⟨zv, s14, e14⟩ := lkv g6 (decide_eq_true_eq.mp q14) r0
    have h5 := av_f5 g2 r3 r2 h5
    rw [p1]
    refine k ws2 lv3 0 zf.toInt.toNat zf.toInt.toNat 0 hw2 F2 ?_ (by omega) (by omega) (by decide) (by decide) ⟨fun h => absurd h (by decide), fun _ => ⟨zb, zs, zh, zt, zv, s9', by omega, s11, by omega, s12, by omega, s13, by omega, s14, by omega⟩⟩
    unfold sp_tok
    rw [eF, if_pos (by omega)]
  · rw [Bool.and_eq_true] at hox
    obtain ⟨h4, hox⟩ := hox
    have h4 := av_f4 g2 r3 r2 h4
    have h4 : zf.toInt < zn.toInt := by omega
    rw [Bool.or_eq_true] at hox
    rcases hox with hox | hox
    · rw [Bool.and_eq_true, Bool.and_eq_true, Bool.and_eq_true, Bool.and_eq_true, Bool.and_eq_true, ai_beq] at hox
      obtain ⟨p1, q13, q9, q11, q14, i0⟩ := hox
      obtain ⟨zt, s13, e13⟩ := lkv g6 (decide_eq_true_eq.mp q13) r0
      obtain ⟨zb, s9', e9⟩ := lkv g6 (decide_eq_true_eq.mp q9) r0
      obtain ⟨zs, s11, e11⟩ := lkv g6 (decide_eq_true_eq.mp q11) r3
      obtain ⟨zv, s14, e14⟩ := lkv g6 (decide_eq_true_eq.mp q14) r0
      have i0 := bi h4 i0
      rw [p1]
      refine k ws2 lv3 3 zf.toInt.toNat (zf.toInt.toNat + 1) 0 hw2 F2 ?_ (by omega) (by omega) (by decide) (by decide) ⟨fun h => absurd h (by decide), fun _ => ⟨zb, zs, zh, zt, zv, s9', by omega, s11, by omega, s12, by omega, s13, by omega, s14, by omega⟩⟩
      unfold sp_tok
      rw [eF, if_neg (by omega), if_pos (by omega)]
    · rw [Bool.or_eq_true] at hox
      rcases hox with hox | hox
      · rw [Bool.and_eq_true, Bool.and_eq_true, Bool.and_eq_true, Bool.and_eq_true, Bool.and_eq_true, ai_beq] at hox
        obtain ⟨p1, q9, q10, m1, m2, m3⟩ := hox
        obtain ⟨zb, s9', e9⟩ := lkv g6 (decide_eq_true_eq.mp q9) r0
        obtain ⟨za, s10, e10⟩ := lkv g6 (decide_eq_true_eq.mp q10) r3
        have m2 := bo h4 m2
        have m3 := bo h4 m3
        have m1 : g zf.toInt.toNat ≠ 59 := by
          obtain ⟨v, e0, b1, b4, b2, b3⟩ := mg_ok g1 g2 r3 (bt h4) m1
          rw [Bool.or_eq_true, Bool.or_eq_true, decide_eq_true_eq, decide_eq_true_eq] at b1
          rcases b1 with (b1 | b1) | b1
          · omega
          · omega
          · exact av_ne g2 r0 b4 b1
        rw [p1]
        refine k ws2 lv3 4 zf.toInt.toNat zf.toInt.toNat 0 hw2 F2 ?_ (by omega) (by omega) (by decide) (by decide) ⟨fun _ => ⟨zb, za, s9', by omega, s10, by omega⟩, fun h => absurd rfl h⟩
        unfold sp_tok
        rw [eF, if_neg (by omega), if_neg m1, if_neg (fun hc => by have := tp_i_iff.mp hc; omega), if_neg (fun hc => by have := tp_i_iff.mp hc; omega)]
      · rw [Bool.and_eq_true, Bool.and_eq_true, Bool.and_eq_true, Bool.and_eq_true, decide_eq_true_eq, Bool.or_eq_true] at hox
        obtain ⟨q0, q9, q11, q14, hox⟩ := hox
        obtain ⟨zb, s9', e9⟩ := lkv g6 (decide_eq_true_eq.mp q9) r0
        obtain ⟨zs, s11, e11⟩ := lkv g6 (decide_eq_true_eq.mp q11) r3
        obtain ⟨zv, s14, e14⟩ := lkv g6 (decide_eq_true_eq.mp q14) r0
        have ezs : zs = zf := Int32.toInt_inj.mp (by omega)
        have ezh : zh = zf := Int32.toInt_inj.mp (by omega)
        subst ezs
        subst ezh
        have hn2 : ai_sl ws2 49 7 (.int zn) := f2 49 7 _ (by decide) hn1
        have hg2 : ∀ i, i < 160 → fx_o ws2 52 i = some (g i) := fun i hi => fr_fx hw2 (k := 52) rfl f2 (by unfold ai_wr st_WR; simp) (hg1 i hi)
        rcases hox with hox | hox
        · rw [Bool.and_eq_true, ai_beq] at hox
          have i0 := bi h4 hox.2
          rw [hox.1]
          refine hG_this g3 q0 (fun lv4 hlv4 => ?_)
          refine ms_loop (j := 1) (by decide) C ((160 - zh.toInt).toNat + 1) ws2 zh lv4 (Nat.lt_succ_self _) hw2 hn2 s11 hg2 hlv4 (fun ws3 lv5 ze hw3 f3 hc3 hlv5 eE => ?_)
          have eE : tp_skip g zn.toInt.toNat 97 122 zh.toInt.toNat = ze.toInt.toNat := eE.symm
          have F3 : ai_fr st_WR ws ws3 := F2.tr (st_fr f3 (fun q hq => by rw [List.mem_singleton.mp hq]; decide))
          have s93 := f3 49 9 _ (by decide) s9'
          have s123 := f3 49 12 _ (by decide) s12
          have s143 := f3 49 14 _ (by decide) s14
          obtain ⟨d0, d1⟩ := f49 (i := 11) hw3 hc3 rfl
          obtain ⟨xs2, h21, h22⟩ := ai_anyE st_r118
          have gm2 : ai_gm tb_TY [(49, 13, 14)] ws3 ad b L sx tys tb_m104.2.2.2.2.1 [0, 0] st_118 lv5 [] ws3 := by
            refine ⟨en_mk (by simp only [st_118, en_b, and_true]; omega) rfl, (fun q hq => by cases hq), lo0_ok (r := [0]) rfl rfl rfl hlv5, trivial, hw3, k0, fun _ _ _ _ h => h, fun h => by cases h⟩
          refine hseg (st := st_118) h21 rfl C gm2 (fun x2 hx2 r2' lv6 sk2 ws4 hx2' g2' => ?_)
          obtain ⟨-, -, -, k4, hw4, k6, f4, -⟩ := g2'
          have hox2 := List.all_eq_true.mp h22 x2 hx2
          unfold st_118ok at hox2
          rw [Bool.and_eq_true, Bool.and_eq_true, ai_beq] at hox2
          obtain ⟨hs2, p1, q13⟩ := hox2
          have hsk2 : sk2 = [] := by
            rw [List.isEmpty_iff.mp hs2] at k4
            exact k4.nil
          subst hsk2
          obtain ⟨zt, s13, e13⟩ := lkv k6 (decide_eq_true_eq.mp q13) (hx2'.at (show ([0, 0] : List Int)[0]? = some 0 from rfl))
          rw [p1]
          refine k ws4 lv6 1 zh.toInt.toNat ze.toInt.toNat 0 hw4 (F3.tr (st_fr f4 (fun q hq => by rw [List.mem_singleton.mp hq]; decide))) ?_ (by omega) (by omega) (by decide) (by decide) ⟨fun h => absurd h (by decide), fun _ => ⟨zb, ze, zh, zt, zv, f4 49 9 _ (by decide) s93, by omega, f4 49 11 _ (by decide) hc3, by omega, f4 49 12 _ (by decide) s123, by omega, s13, by omega, f4 49 14 _ (by decide) s143, by omega⟩⟩
          unfold sp_tok
          rw [eF, if_neg (by omega), if_neg (by omega), if_pos (tp_i_iff.mpr i0), eE]
        · rw [Bool.and_eq_true, ai_beq] at hox
          have i0 := bi h4 hox.2
          rw [hox.1]
          refine hG_this g3 q0 (fun lv4 hlv4 => ?_)
          refine mf_loop C hw2 hn2 s12 s11 s14 (by omega) hg2 hlv4 (fun ws3 lv5 ze zw hw3 f3 hc3 hv3 hlv5 eE hnum => ?_)
          have eE : tp_skip g zn.toInt.toNat 48 57 zh.toInt.toNat = ze.toInt.toNat := eE.symm
          have F3 : ai_fr st_WR ws ws3 := F2.tr (st_fr f3 (fun q hq => by
            rcases List.mem_cons.mp hq with rfl | hq
            · decide
            · rw [List.mem_singleton.mp hq]; decide))
          have s93 := f3 49 9 _ (by decide) s9'
          have s123 := f3 49 12 _ (by decide) s12
          obtain ⟨d0, d1⟩ := f49 (i := 11) hw3 hc3 rfl
          obtain ⟨xs2, h21, h22⟩ := ai_anyE st_r217
          have gm2 : ai_gm tb_TY st_W217 ws3 ad b L sx tys tb_m104.2.2.2.2.1 [0, 0, zh.toInt, ze.toInt] st_217 lv5 [] ws3 := by
            refine ⟨en_mk (by simp only [st_217, mf_e, en_b, and_true]; omega) rfl, (fun q hq => by cases hq), lo0_ok (r := [0]) rfl rfl rfl hlv5, trivial, hw3, kc (kn1 s123 (n := 2) (t := zh.toInt) rfl (by omega)) (kc (kn1 hc3 (n := 3) (t := ze.toInt) rfl (by omega)) (kc (kn1 s93 (n := 0) (t := 0) rfl (by omega)) k0)), fun _ _ _ _ h => h, fun h => by cases h⟩
          refine hseg (st := st_217) h21 rfl C gm2 (fun x2 hx2 r2' lv6 sk2 ws4 hx2' g2' => ?_)
          obtain ⟨k1, k2, -, k4, hw4, k6, f4, -⟩ := g2'
          have y0 : r2'[0]? = some 0 := hx2'.at rfl
          have y2 : r2'[2]? = some zh.toInt := hx2'.at rfl
          have y3 : r2'[3]? = some ze.toInt := hx2'.at rfl
          have hox2 := List.all_eq_true.mp h22 x2 hx2
          unfold st_217ok at hox2
          rw [Bool.and_eq_true, Bool.and_eq_true, ai_beq, Bool.or_eq_true] at hox2
          obtain ⟨hs2, p1, hox2⟩ := hox2
          have hsk2 : sk2 = [] := by
            rw [List.isEmpty_iff.mp hs2] at k4
            exact k4.nil
          subst hsk2
          have F4 : ai_fr st_WR ws ws4 := F3.tr (st_fr f4 (fun q hq => by
            rcases List.mem_cons.mp hq with rfl | hq
            · decide
            · rw [List.mem_singleton.mp hq]; decide))
          rw [p1]
          rcases hox2 with hox2 | hox2
          · rw [Bool.and_eq_true, Bool.and_eq_true] at hox2
            obtain ⟨hd, q9', q13⟩ := hox2
            obtain ⟨e0, b1, b2, b3⟩ := tn_dok k1 k2 y2 y3 hd
            rw [decide_eq_true_eq] at b1
            obtain ⟨zt, s13, e13⟩ := lkv k6 (decide_eq_true_eq.mp q13) y0
            obtain ⟨zb', s94, e9'⟩ := lkv k6 (decide_eq_true_eq.mp q9') y0
            have hnum := hnum (by omega)
            refine k ws4 lv6 2 zh.toInt.toNat ze.toInt.toNat (tp_num g zh.toInt.toNat ze.toInt.toNat) hw4 F4 ?_ (by omega) (by omega) (by rw [← hnum]; exact Int32.le_toInt _) (by rw [← hnum]; exact Int32.toInt_le _) ⟨fun h => absurd h (by decide), fun _ => ⟨zb', ze, zh, zt, zw, s94, by omega, f4 49 11 _ (by decide) hc3, by omega, f4 49 12 _ (by decide) s123, by omega, s13, by omega, f4 49 14 _ (by decide) hv3, hnum⟩⟩
            unfold sp_tok
            rw [eF, if_neg (by omega), if_neg (by omega), if_neg (fun hc => by have := tp_i_iff.mp hc; omega), if_pos (tp_i_iff.mpr i0), eE, if_neg (by omega)]
          · rw [Bool.and_eq_true, Bool.and_eq_true] at hox2
            obtain ⟨hd, q9', q10⟩ := hox2
            obtain ⟨e0, b1, b2, b3⟩ := tn_dok k1 k2 y2 y3 hd
            rw [decide_eq_true_eq] at b1
            obtain ⟨za, s10, e10⟩ := lkv k6 (decide_eq_true_eq.mp q10) y2
            obtain ⟨zb', s94, e9'⟩ := lkv k6 (decide_eq_true_eq.mp q9') y0
            refine k ws4 lv6 4 zh.toInt.toNat ze.toInt.toNat 0 hw4 F4 ?_ (by omega) (by omega) (by decide) (by decide) ⟨fun _ => ⟨zb', za, s94, by omega, s10, by omega⟩, fun h => absurd rfl h⟩
            unfold sp_tok
            rw [eF, if_neg (by omega), if_neg (by omega), if_neg (fun hc => by have := tp_i_iff.mp hc; omega), if_pos (tp_i_iff.mpr i0), eE, if_pos (by omega)]
end STA
end
section
/-! step as a known method: five ends, each with its token over w0's tape, where the two tapes are alike -/
theorem tp_num_congrN {g g' : Nat → Int} {n f e : Nat} (he : e ≤ n) (h2 : ¬ 2 < e - f) (h : ∀ i, i < n → g i = g' i) : tp_num g f e = tp_num g' f e := by
  unfold tp_num
  split
  · rfl
  · split
    · rw [h f (by omega)]
    · rw [h f (by omega), h (f + 1) (by omega)]
theorem sp_tok_congrN {g g' : Nat → Int} {n p : Nat} (h : ∀ i, i < n → g i = g' i) : sp_tok g n p = sp_tok g' n p := by
  have e : ∀ (lo hi : Int) (q : Nat), tp_skip g n lo hi q = tp_skip g' n lo hi q := fun lo hi q => tp_skip_congr h
  unfold sp_tok
  simp only [e]
  generalize tp_skip g' n 32 32 p = F
  by_cases hF : n ≤ F
  · rw [if_pos hF, if_pos hF]
  · rw [if_neg hF, if_neg hF, h F (by omega)]
    have hle := (tp_skip_le (g := g') (n := n) (p := F) (lo := 48) (hi := 57)).2 (by omega)
    by_cases h2 : 2 < tp_skip g' n 48 57 F - F
    · rw [if_pos h2, if_pos h2]
    · rw [if_neg h2, if_neg h2, tp_num_congrN hle h2 h]
theorem tape_one {w0 : va_W} {g g' : Nat → Int} (h : fx_tape w0 g) (h' : fx_tape w0 g') (i : Nat) (hi : i < 160) : g i = g' i := by
  have := (h i hi).symm.trans (h' i hi)
  exact Option.some.inj this
def st_fact (sb : List ai_b) (n : Nat) : Bool := sb.any fun q => Nat.beq q.1 350 && Nat.beq q.2.1 n
theorem st_factok {w0 : va_W} {r : List Int} {sb : List ai_b} {n : Nat} {zn : Int} (g2 : ai_sb w0 r sb) (hn : r[n]? = some zn) (h : st_fact sb n = true) : ∃ g : Nat → Int, fx_tape w0 g ∧ ∀ i, i < zn.toNat → fx_o w0 52 i = some (g i) := by
  obtain ⟨q, hq, h⟩ := List.any_eq_true.mp h
  rw [Bool.and_eq_true, ai_beq, ai_beq] at h
  obtain ⟨-, -, -, -, -, -, -, -, -, -, -, e9⟩ := g2 q hq
  obtain ⟨z, g, a1, a2, a3⟩ := (e9 (by omega)).2.2.2 h.1
  rw [h.2, hn] at a1
  cases a1
  exact ⟨g, a2, a3⟩
def st_kn (st : ai_s) (t : Nat) : List ai_k := (if Nat.beq t 4 = true then [(49, 9, (1, 0, 0, 1)), (49, 10, (1, st.2.2.2.1.length, 0, 0))] else [(49, 9, (1, 0, 0, 0)), (49, 11, (1, st.2.2.2.1.length + 1, 0, 0)), (49, 12, (1, st.2.2.2.1.length, 0, 0)), (49, 13, (1, 0, 0, (t : Int))), (49, 14, (1, st.2.2.2.1.length + 2, 0, 0))]) ++ ai_dr st.2.2.2.2.1 49 9 14
def st_end (st : ai_s) (v w : ai_v) (t : Nat) : ai_s := (269, [], [], av_en st.2.2.2.1, st_kn st t, (300 + t, v.2.1, w.2.1, st.2.2.2.1.length, v.2.2.2) :: st.2.2.2.2.2)
def su_st (WR : List (Nat × Nat × Nat)) (st : ai_s) : Option (List ai_s) :=
  (ai_lk st.2.2.2.2.1 49 11).bind fun v => (ai_lk st.2.2.2.2.1 49 7).bind fun w => (ai_lk st.2.2.2.2.1 49 9).bind fun u =>
    if v.1 = 1 ∧ w.1 = 1 ∧ w.2.2.2 = 0 ∧ u = (1, 0, 0, 0) ∧ st.2.1 = ms_lo ∧ st.2.2.1 = [] ∧ ((List.range 6).all fun i => ai_wr WR 49 (9 + i) (9 + i)) = true ∧ nowr WR 52 = true ∧ ai_z st.2.2.2.1 = true ∧ st_fact st.2.2.2.2.2 w.2.1 = true then
      some ((List.range 5).map (st_end st v w)) else none
theorem wrS {k j : Nat} (h : ¬ (k = 49 ∧ 9 ≤ j ∧ j ≤ 14)) : ai_wr st_WR k j j = false := by
  unfold ai_wr st_WR
  rw [List.any_eq_false]
  intro q hq hx
  rw [List.mem_singleton.mp hq] at hx
  simp only [Bool.and_eq_true, Bool.or_eq_true, decide_eq_true_eq] at hx
  omega
theorem fx_g52 {ad : List Nat} {tys : ai_ty} {ws : va_W} (h : ai_wd tb_TY ad tys ws) (i : Nat) (hi : i < 160) : fx_o ws 52 i = some (fx_at ws 52 i) := by
  obtain ⟨t, ht⟩ := fx_has (k := 52) h rfl hi
  unfold fx_at
  rw [ht]
  rfl
theorem su_st_ok {WR : List (Nat × Nat × Nat)} {d : Nat} {st : ai_s} {xs : List ai_s} (hq : su_st WR st = some xs) (h0 : st.1 = 0) (hd : 5 ≤ d) {w0 : va_W} {ad : List Nat} {p : Program} {l : Launch} {e : Env} {R : Room} {s : State} {m : MethodId} {args : Array Value} {below : List Frame} {meth : Method} {c : Code} {D : va_G} {tys : ai_ty} {A : Nat → Prop} {b L : Nat} {sx : Nat → Int32} {cells slots : Nat} {Q : State → Prop} {r0 : List Int}
    (C : ai_cx tb_m104 d p R s m args c D tys A b L sx cells slots) (k : ∀ x ∈ xs, ai_G tb_TY WR w0 ad tb_m104 p l e R s m args below meth c D tys A b L sx cells slots Q r0 x) : ai_G tb_TY WR w0 ad tb_m104 p l e R s m args below meth c D tys A b L sx cells slots Q r0 st := by
  unfold su_st at hq
  obtain ⟨v, v1, hq⟩ := Option.bind_eq_some_iff.mp hq
  obtain ⟨w, w1, hq⟩ := Option.bind_eq_some_iff.mp hq
  obtain ⟨u, u1, hq⟩ := Option.bind_eq_some_iff.mp hq
  split at hq
  · rename_i hc
    obtain ⟨c1, c2, c3, c4, c5, c6, c7, c8, c9, c10⟩ := hc
    injection hq with hq
    subst hq
    intro r lv sk ws H locs ls hx g hP hD hS hl
    obtain ⟨g1, g2, g3, g4, g5, g6, g7, g8⟩ := g
    have hsk : sk = [] := by rw [c6] at g4; exact g4.nil
    subst hsk
    rw [h0]
    obtain ⟨x1, s1, d1⟩ := ai_lk_ok g6 v1
    obtain ⟨x2, s2, d2⟩ := ai_lk_ok g6 w1
    obtain ⟨zp, rfl⟩ : ∃ i : Int32, x1 = .int i := by
      rcases d1 with ⟨q, -⟩ | ⟨-, z, i, -, q2, -⟩ | ⟨q, -⟩ | ⟨q, -⟩ | ⟨q, -⟩
      · omega
      · exact ⟨i, q2⟩
      all_goals omega
    obtain ⟨zn, rfl⟩ : ∃ i : Int32, x2 = .int i := by
      rcases d2 with ⟨q, -⟩ | ⟨-, z, i, -, q2, -⟩ | ⟨q, -⟩ | ⟨q, -⟩ | ⟨q, -⟩
      · omega
      · exact ⟨i, q2⟩
      all_goals omega
    obtain ⟨za, a1, a2⟩ := ai_dv1 d1 c1
    obtain ⟨zb, b1, b2⟩ := ai_dv1 d2 c2
    rw [c3] at b2
    have r00 : r[0]? = some 0 := ai_z_ok g1 c9
    obtain ⟨zo, s3, o3⟩ := lkv g6 (by rw [u1, c4]) r00
    obtain ⟨n0, n1⟩ := f49 (i := 7) g5 s2 rfl
    obtain ⟨i0, i1⟩ := f49 (i := 11) g5 s1 rfl
    obtain ⟨g0, t1, t2⟩ := st_factok g2 b1 c10
    have hr1 : r.length = st.2.2.2.1.length := g1.1
    refine st_all (g := fx_at ws 52) (mm_cx hd C) g5 s2 s1 s3 (by omega) (fx_g52 g5) (lo0_ok r00 rfl rfl (by rw [← c5]; exact g3)) (fun ws' lv' t f en vv hw' hf htok f1 e1 v0 v1 his => ?_) H locs ls hP hD hS hl
    intro H' locs' ls' hP' hD' hS' hl'
    obtain ⟨t4, -⟩ := sp_tok_ok htok
    have hx3 : ai_x r (((r ++ [(f : Int)]) ++ [(en : Int)]) ++ [vv]) := (ai_x.push.tr ai_x.push).tr ai_x.push
    obtain ⟨q1, q2, q3⟩ := r3_at (a := (f : Int)) (b := (en : Int)) (c := vv) hr1
    refine k _ (List.mem_map.mpr ⟨t, List.mem_range.mpr (by omega), rfl⟩) (((r ++ [(f : Int)]) ++ [(en : Int)]) ++ [vv]) [] [] ws' H' locs' ls' (hx.tr hx3) ⟨((g1.nu (by omega) (by omega)).nu (by omega) (by omega)).nu v0 v1, ?_, trivial, trivial, hw', ?_, ?_, fun h => by cases h⟩ hP' hD' hS' ⟨hl'.1, hl'.2.1, fun q hq => by cases hq⟩
    · intro q hq
      rcases List.mem_cons.mp hq with rfl | hq
      · refine ⟨za, zb, (f : Int), hx3.at a1, hx3.at b1, q1, fun h => absurd (show 300 + t = 0 from h) (by omega), fun h => absurd (show 300 + t = 1 from h) (by omega), fun h => absurd (show 300 + t = 2 from h) (by omega), fun h => absurd (show 300 + t = 4 from h) (by omega), fun h => absurd (show 300 + t = 5 from h) (by omega), fun _ => ⟨fun h => absurd (show 1000 ≤ 300 + t from h) (by omega), fun h => absurd (show 300 + t < 300 ∨ (500 ≤ 300 + t ∧ 300 + t < 1000) from h) (by omega), fun g hg => ⟨fun _ _ => ⟨za, zb, (f : Int), (en : Int), vv, hx3.at a1, hx3.at b1, q1, q2, q3, by show 0 ≤ za + v.2.2.2; omega, by omega, by omega, ?_⟩, fun h => absurd (show 310 ≤ 300 + t from h) (by omega), fun h => absurd (show 320 ≤ 300 + t from h) (by omega), fun h => absurd (show 400 ≤ 300 + t from h) (by omega), fun h => absurd (show 300 + t = 330 from h) (by omega)⟩, fun h => absurd (show 300 + t = 350 from h) (by omega)⟩⟩
        show sp_tok g zb.toNat (za + v.2.2.2).toNat = (300 + t - 300, ((f : Int)).toNat, ((en : Int)).toNat, vv)
        rw [Nat.add_sub_cancel_left, Int.toNat_natCast, Int.toNat_natCast, ← htok, ← a2, show zb = zn.toInt by omega]
        refine sp_tok_congrN (fun i hi => ?_)
        have k1 := t2 i (by omega)
        have k2 := fr_fx (k := 52) g5 rfl g7 (nowr_ok c8 i i) k1
        rw [tape_one hg t1 i (by omega)]
        unfold fx_at
        rw [k2]
        rfl
      · exact g2.mono hx3 q hq
    · intro q hq
      have hq : q ∈ st_kn st t := hq
      unfold st_kn at hq
      rcases List.mem_append.mp hq with hq | hq
      · split at hq
        · rename_i ht
          obtain ⟨zb', za', k1, k2, k3, k4⟩ := his.1 (ai_beq.mp ht)
          rcases List.mem_cons.mp hq with rfl | hq
          · exact kn1 k1 (n := 0) (hx3.at r00) (by omega)
          · rw [List.mem_singleton.mp hq]
            exact kn1 k3 (n := st.2.2.2.1.length) q1 (by omega)
        · rename_i ht
          obtain ⟨zb', zs, zh, zt, zv, k1, k2, k3, k4, k5, k6, k7, k8, k9, k10⟩ := his.2 (fun h => ht (ai_beq.mpr h))
          rcases List.mem_cons.mp hq with rfl | hq
          · exact kn1 k1 (n := 0) (hx3.at r00) (by omega)
          · rcases List.mem_cons.mp hq with rfl | hq
            · exact kn1 k3 (n := st.2.2.2.1.length + 1) q2 (by omega)
            · rcases List.mem_cons.mp hq with rfl | hq
              · exact kn1 k5 (n := st.2.2.2.1.length) q1 (by omega)
              · rcases List.mem_cons.mp hq with rfl | hq
                · exact kn1 k7 (n := 0) (hx3.at r00) (by omega)
                · rw [List.mem_singleton.mp hq]
                  exact kn1 k9 (n := st.2.2.2.1.length + 2) q3 (by omega)
      · obtain ⟨k1, k2⟩ := dr_outR hq
        obtain ⟨x, k3, k4⟩ := g6 q k1
        exact ⟨x, hf _ _ _ (wrS k2) k3, k4.mono hx3⟩
    · intro cc i x hwr hsl
      refine hf cc i x (wrS (fun h => ?_)) (g7 cc i x hwr hsl)
      obtain ⟨i1, i2, i3⟩ := h
      have c7 := List.all_eq_true.mp c7 (i - 9) (List.mem_range.mpr (by omega))
      rw [show 9 + (i - 9) = i by omega, ← i1, hwr] at c7
      cases c7
  · cases hq
end
section
/-! isWord, wordRead: which word -/
theorem sp_is_iff {g : Nat → Int} {f e : Nat} {w : List Int} : sp_is g f e w = true ↔ e - f = w.length ∧ ∀ k, k < w.length → w[k]? = some (g (f + k)) := by
  unfold sp_is
  rw [Bool.and_eq_true, decide_eq_true_eq, List.all_eq_true]
  refine ⟨fun h => ⟨h.1, fun k hk => decide_eq_true_eq.mp (h.2 k (List.mem_range.mpr hk))⟩, fun h => ⟨h.1, fun k hk => decide_eq_true_eq.mpr (h.2 k (List.mem_range.mp hk))⟩⟩
theorem sp_is_congr {g g' : Nat → Int} {f e : Nat} {w : List Int} (h : ∀ i, f ≤ i → i < e → g i = g' i) : sp_is g f e w = sp_is g' f e w := by
  rw [Bool.eq_iff_iff, sp_is_iff, sp_is_iff]
  refine ⟨fun k => ⟨k.1, fun i hi => by rw [k.2 i hi, h (f + i) (by omega) (by omega)]⟩, fun k => ⟨k.1, fun i hi => by rw [k.2 i hi, h (f + i) (by omega) (by omega)]⟩⟩
def sp_P (P : List Int → Bool) : Nat := if P (sp_W.getD 0 []) = true then 0 else if P (sp_W.getD 1 []) = true then 1 else if P (sp_W.getD 2 []) = true then 2 else if P (sp_W.getD 3 []) = true then 3 else if P (sp_W.getD 4 []) = true then 4 else if P (sp_W.getD 5 []) = true then 5 else if P (sp_W.getD 6 []) = true then 6 else 7
theorem sp_word_P {g : Nat → Int} {f e : Nat} : sp_word g f e = sp_P (sp_is g f e) := by
  unfold sp_word
  generalize sp_is g f e = P
  show (if P (sp_W.getD 0 []) = true then some 0 else if P (sp_W.getD 1 []) = true then some 1 else if P (sp_W.getD 2 []) = true then some 2 else if P (sp_W.getD 3 []) = true then some 3 else if P (sp_W.getD 4 []) = true then some 4 else if P (sp_W.getD 5 []) = true then some 5 else if P (sp_W.getD 6 []) = true then some 6 else (none : Option Nat)).getD 7 = sp_P P
  unfold sp_P
  by_cases h0 : P (sp_W.getD 0 []) = true
  · rw [if_pos h0, if_pos h0]; rfl
  rw [if_neg h0, if_neg h0]
  by_cases h1 : P (sp_W.getD 1 []) = true
  · rw [if_pos h1, if_pos h1]; rfl
  rw [if_neg h1, if_neg h1]
  by_cases h2 : P (sp_W.getD 2 []) = true
  · rw [if_pos h2, if_pos h2]; rfl
  rw [if_neg h2, if_neg h2]
  by_cases h3 : P (sp_W.getD 3 []) = true
  · rw [if_pos h3, if_pos h3]; rfl
  rw [if_neg h3, if_neg h3]
  by_cases h4 : P (sp_W.getD 4 []) = true
  · rw [if_pos h4, if_pos h4]; rfl
  rw [if_neg h4, if_neg h4]
  by_cases h5 : P (sp_W.getD 5 []) = true
  · rw [if_pos h5, if_pos h5]; rfl
  rw [if_neg h5, if_neg h5]
  by_cases h6 : P (sp_W.getD 6 []) = true
  · rw [if_pos h6, if_pos h6]; rfl
  rw [if_neg h6, if_neg h6]
  rfl
theorem sp_P_at {P : List Int → Bool} {j : Nat} (hj : j ≤ 7) (h : ∀ i, i < j → P (sp_W.getD i []) = false) (h1 : j < 7 → P (sp_W.getD j []) = true) : sp_P P = j := by
  have n : ∀ i, i < j → ¬ P (sp_W.getD i []) = true := fun i hi hc => by rw [h i hi] at hc; cases hc
  unfold sp_P
  match j, hj, h1, n with
  | 0, _, h1, n => rw [if_pos (h1 (by decide))]
  | 1, _, h1, n => rw [if_neg (n 0 (by decide)), if_pos (h1 (by decide))]
  | 2, _, h1, n => rw [if_neg (n 0 (by decide)), if_neg (n 1 (by decide)), if_pos (h1 (by decide))]
  | 3, _, h1, n => rw [if_neg (n 0 (by decide)), if_neg (n 1 (by decide)), if_neg (n 2 (by decide)), if_pos (h1 (by decide))]
  | 4, _, h1, n => rw [if_neg (n 0 (by decide)), if_neg (n 1 (by decide)), if_neg (n 2 (by decide)), if_neg (n 3 (by decide)), if_pos (h1 (by decide))]
  | 5, _, h1, n => rw [if_neg (n 0 (by decide)), if_neg (n 1 (by decide)), if_neg (n 2 (by decide)), if_neg (n 3 (by decide)), if_neg (n 4 (by decide)), if_pos (h1 (by decide))]
  | 6, _, h1, n => rw [if_neg (n 0 (by decide)), if_neg (n 1 (by decide)), if_neg (n 2 (by decide)), if_neg (n 3 (by decide)), if_neg (n 4 (by decide)), if_neg (n 5 (by decide)), if_pos (h1 (by decide))]
  | 7, _, h1, n => rw [if_neg (n 0 (by decide)), if_neg (n 1 (by decide)), if_neg (n 2 (by decide)), if_neg (n 3 (by decide)), if_neg (n 4 (by decide)), if_neg (n 5 (by decide)), if_neg (n 6 (by decide))]
  | j + 8, hj, _, _ => exact absurd hj (by omega)
theorem sp_P_le {P : List Int → Bool} : sp_P P ≤ 7 := by
  unfold sp_P
  repeat' split
  all_goals omega
theorem jw : ∀ i, i < 7 → (sp_W.getD i []).length = ai_JL.getD i 0 ∧ ∀ k, k < ai_JL.getD i 0 → (sp_W.getD i [])[k]? = some (ai_jb i k).toInt := by decide
theorem jw3 : ∀ i, i < 7 → 3 ≤ ai_JL.getD i 0 := by decide
set_option maxHeartbeats 1000000 in
theorem jd_is2 (l : Launch) {d : Nat} {D : va_G} {tys : ai_ty} {A : Nat → Prop} {aK aV : Nat → Nat} {H : Heap} {i : Nat} (hi : i < 7) (hd : 4 ≤ d) {ws : va_W} {a q27 t0 : Nat} {fs : List Value} {zt zf : Int32} {cA : ClassId} {f : Nat → Int32} (hP : va_P D vwCl ws H) (w1 : ws[26]? = some (a, .inr (2, fs))) (f0 : fs[0]? = some (.ref q27)) (f7 : fs[7]? = some (.int zt)) (f9 : fs[9]? = some (.int zf)) (b1 : 0 ≤ zf.toInt) (b2 : zt.toInt ≤ 160) (b3 : 0 ≤ zt.toInt) (b4 : zf.toInt ≤ 160) (w2 : ws[27]? = some (q27, .inl (cA, 160, .inl f))) (ht : tys[t0]? = some (cA, .int)) : Met l yX2_isWord (ai_ws jm_is) (ai_rm d) (va_Pc [.ref a, .ref (aK i)] (jd_P D tys A aK aV H)) (jd_Q H (fun v => (v = some (.int 0) ∧ sp_is (fun n => (f n).toInt) zf.toInt.toNat zt.toInt.toNat (sp_W.getD i []) = false) ∨ (v = some (.int 1) ∧ sp_is (fun n => (f n).toInt) zf.toInt.toNat zt.toInt.toNat (sp_W.getD i []) = true))) 0 0 A := by
  refine jd_met (M := jm_is) l (by decide) (by first | exact Nat.le_refl _ | exact Nat.le_of_ble_eq_true rfl) ?_
  intro p e s m below meth c ls C hH hr hlk hl
  have hS : va_S A s.heap s.heap [] := va_S.rf
  have hr : meth.sig.returnType = (some .boolean) := hr
  subst hH
  obtain ⟨hb1, -⟩ := jd_b i hi
  obtain ⟨jw1, jw2⟩ := jw i hi
  have hl : lv_has ls 3 [(0, .ref a), (1, .ref (aK i))] := hl
  generalize hN : ai_JL.getD i 0 = N at hb1 jw1 jw2
  have hNI : (Int32.ofNat N).toInt = (N : Int) := nI_toInt (by omega)
  have loop : Int32.ofNat N = zt - zf → ∀ (n k : Nat), k + n = N → (∀ j, j < k → (f (zf.toInt.toNat + j)).toInt = (ai_jb i j).toInt) → ∀ (ls : Array Slot) (locs : List Loc), lv_has ls 3 [(2, .int (Int32.ofNat k)), (0, .ref a), (1, .ref (aK i))] → va_S A s.heap s.heap locs → W p l e (ai_rm d) s m ([Value.ref a, Value.ref (aK i)] : List Value).toArray below meth c s.heap locs 0 0 (MQ below (jd_Q s.heap (fun v => (v = some (.int 0) ∧ sp_is (fun n => (f n).toInt) zf.toInt.toNat zt.toInt.toNat (sp_W.getD i []) = false) ∨ (v = some (.int 1) ∧ sp_is (fun n => (f n).toInt) zf.toInt.toNat zt.toInt.toNat (sp_W.getD i []) = true))) ([Value.ref a, Value.ref (aK i)] : List Value).toArray s 0 0 A) (F0 m 20 ls []) := by
    intro heq n
    have hsub : (zt - zf).toInt = zt.toInt - zf.toInt := ai_subI (by omega) (by omega)
    have hNz : (N : Int) = zt.toInt - zf.toInt := by rw [← hsub, ← heq, hNI]
    induction n with
    | zero =>
      intro k hk hpre ls locs hl hS
      refine lv_iload_n C.x C.b (by decide +kernel : decode cX2_isWord 20 = .ok (.iload_n 2, 1)) rfl (lv_at hl 0 rfl) ?_
      refine lv_aload_n C.x C.b (by decide +kernel : decode cX2_isWord 21 = .ok (.aload_n 1, 1)) rfl (lv_at hl 2 rfl) ?_
      refine jd_V (M' := jm_len) (As := []) (rest := [.int (Int32.ofNat k)]) C hS (by omega) (by decide) (Nat.le_of_ble_eq_true rfl) jg_len (by decide +kernel) (vk_recv C.J.1 hi hS) (jd_len l hi (by omega)) rfl hl.1 rfl (by decide +kernel : decode cX2_isWord 22 = .ok (.invokevirtual 141, 3)) (fun v locs1 hv hS1 => ?_)

      subst hv
      refine lv_icmp_ge C.x C.b (by decide +kernel : decode cX2_isWord 25 = .ok (.if_icmp .ge 30, 3)) (tgt := 55) (by decide) (fun _ => ?_) (fun h => absurd (by rw [hN, show k = N by omega]; exact Int32.le_refl _) h)
      refine lv_iconst C.x C.b (by decide +kernel : decode cX2_isWord 55 = .ok (.iconst 1, 1)) (v := 1) rfl ?_
      exact W.zret C.x C.b hr rfl (fun t ht hW => ⟨_, rfl, Or.inr ⟨rfl, sp_is_iff.mpr ⟨by rw [jw1]; omega, fun j hj => by rw [jw2 j (by omega), ← hpre j (by omega)]⟩⟩, ht⟩) hS1.2.2 (by decide +kernel : decode cX2_isWord 56 = .ok (.ireturn, 1)) hlk
    | succ n ih =>
      intro k hk hpre ls locs hl hS
      have hkN : k < ai_JL.getD i 0 := by rw [hN]; omega
      obtain ⟨i1, i2, i3, i4⟩ := jd_in (k := k) (N := N) (by omega) hb1
      refine lv_iload_n C.x C.b (by decide +kernel : decode cX2_isWord 20 = .ok (.iload_n 2, 1)) rfl (lv_at hl 0 rfl) ?_
      refine lv_aload_n C.x C.b (by decide +kernel : decode cX2_isWord 21 = .ok (.aload_n 1, 1)) rfl (lv_at hl 2 rfl) ?_
      refine jd_V (M' := jm_len) (As := []) (rest := [.int (Int32.ofNat k)]) C hS (by omega) (by decide) (Nat.le_of_ble_eq_true rfl) jg_len (by decide +kernel) (vk_recv C.J.1 hi hS) (jd_len l hi (by omega)) rfl hl.1 rfl (by decide +kernel : decode cX2_isWord 22 = .ok (.invokevirtual 141, 3)) (fun v locs1 hv hS1 => ?_)

      subst hv
      refine lv_icmp_ge C.x C.b (by decide +kernel : decode cX2_isWord 25 = .ok (.if_icmp .ge 30, 3)) (tgt := 55) (by decide) (fun h => absurd i2 (Int32.not_lt.mpr (by rw [← hN]; exact h))) (fun _ => ?_)
      refine lv_aload_n C.x C.b (by decide +kernel : decode cX2_isWord 28 = .ok (.aload_n 0, 1)) rfl (lv_at hl 1 rfl) ?_
      refine jd_get C jf_11 hP w1 f0 (by decide +kernel : decode cX2_isWord 29 = .ok (.getfield 11, 3)) ?_
      refine lv_aload_n C.x C.b (by decide +kernel : decode cX2_isWord 32 = .ok (.aload_n 0, 1)) rfl (lv_at hl 1 rfl) ?_
      refine jd_get C jf_68 hP w1 f9 (by decide +kernel : decode cX2_isWord 33 = .ok (.getfield 68, 3)) ?_
      refine lv_iload_n C.x C.b (by decide +kernel : decode cX2_isWord 36 = .ok (.iload_n 2, 1)) rfl (lv_at hl 0 rfl) ?_
      refine lv_iadd C.x C.b (by decide +kernel : decode cX2_isWord 37 = .ok (.iadd, 1)) ?_
      have hkI : (Int32.ofNat k).toInt = (k : Int) := nI_toInt (by omega)
      have hix : (zf + Int32.ofNat k).toInt = zf.toInt + k := by rw [ai_addI (by omega) (by omega), hkI]
      have hcl : (zf + Int32.ofNat k).toNatClampNeg = zf.toInt.toNat + k := by
        show (zf + Int32.ofNat k).toInt.toNat = _
        omega
      refine va_iald C.x C.b C.K hP 27 t0 w2 ht (vp_in_iff.mpr ⟨by omega, by omega⟩) (by decide +kernel : decode cX2_isWord 38 = .ok (.iaload, 1)) ?_
      refine lv_aload_n C.x C.b (by decide +kernel : decode cX2_isWord 39 = .ok (.aload_n 1, 1)) rfl (lv_at hl 2 rfl) ?_
      refine lv_iload_n C.x C.b (by decide +kernel : decode cX2_isWord 40 = .ok (.iload_n 2, 1)) rfl (lv_at hl 0 rfl) ?_
      refine jd_V (M' := jm_ca) (n := 1) (As := [.int (Int32.ofNat k)]) C hS1 (by omega) (by decide) (Nat.le_of_ble_eq_true rfl) jg_ca (by decide +kernel) (vk_recv C.J.1 hi hS1) (jd_ca l hi hkN (by omega)) rfl hl.1 rfl (by decide +kernel : decode cX2_isWord 41 = .ok (.invokevirtual 145, 3)) (fun v locs2 hv hS2 => ?_)
      subst hv
      refine lv_icmp_eq C.x C.b (by decide +kernel : decode cX2_isWord 44 = .ok (.if_icmp .eq 5, 3)) (tgt := 49) (by decide) (fun heq2 => ?_) (fun hne2 => ?_)
      · refine lv_iinc C.x C.b (by decide +kernel : decode cX2_isWord 49 = .ok (.iinc 2 1, 3)) hl (k := 0) rfl (v := Int32.ofNat (k + 1)) (nI_succ k).symm (by decide) (lv' := [(2, .int (Int32.ofNat (k + 1))), (0, .ref a), (1, .ref (aK i))]) rfl (fun ls3 hl3 => ?_)
        refine lv_goto C.x C.b (by decide +kernel : decode cX2_isWord 52 = .ok (.goto (-32), 3)) (tgt := 20) (by decide) ?_
        refine ih (k + 1) (by omega) (fun j hj => ?_) ls3 locs2 hl3 hS2
        by_cases hjk : j < k
        · exact hpre j hjk
        · have ejk : j = k := by omega
          subst ejk
          rw [← heq2, hcl]
      · refine lv_iconst C.x C.b (by decide +kernel : decode cX2_isWord 47 = .ok (.iconst 0, 1)) (v := 0) rfl ?_
        exact W.zret C.x C.b hr rfl (fun t ht hW => ⟨_, rfl, Or.inl ⟨rfl, by
          rw [Bool.eq_false_iff]
          intro hc
          have h3 := (sp_is_iff.mp hc).2 k (by omega)
          rw [jw2 k (by omega)] at h3
          have h3 := Option.some.inj h3
          exact hne2 (Int32.toInt_inj.mp (by rw [hcl]; exact h3.symm))⟩, ht⟩) hS2.2.2 (by decide +kernel : decode cX2_isWord 48 = .ok (.ireturn, 1)) hlk
  refine lv_aload_n C.x C.b (by decide +kernel : decode cX2_isWord 0 = .ok (.aload_n 1, 1)) rfl (lv_at hl 1 rfl) ?_
  refine jd_V (M' := jm_len) (As := []) (rest := []) C hS (by omega) (by decide) (Nat.le_of_ble_eq_true rfl) jg_len (by decide +kernel) (vk_recv C.J.1 hi hS) (jd_len l hi (by omega)) rfl hl.1 rfl (by decide +kernel : decode cX2_isWord 1 = .ok (.invokevirtual 141, 3)) (fun v locs1 hv hS1 => ?_)

  subst hv
  refine lv_aload_n C.x C.b (by decide +kernel : decode cX2_isWord 4 = .ok (.aload_n 0, 1)) rfl (lv_at hl 0 rfl) ?_
  refine jd_get C jf_41 hP w1 f7 (by decide +kernel : decode cX2_isWord 5 = .ok (.getfield 41, 3)) ?_
  refine lv_aload_n C.x C.b (by decide +kernel : decode cX2_isWord 8 = .ok (.aload_n 0, 1)) rfl (lv_at hl 0 rfl) ?_
  refine jd_get C jf_68 hP w1 f9 (by decide +kernel : decode cX2_isWord 9 = .ok (.getfield 68, 3)) ?_
  refine lv_isub C.x C.b (by decide +kernel : decode cX2_isWord 12 = .ok (.isub, 1)) ?_
  refine lv_icmp_eq C.x C.b (by decide +kernel : decode cX2_isWord 13 = .ok (.if_icmp .eq 5, 3)) (tgt := 18) (by decide) (fun heq => ?_) (fun hne => ?_)
  · refine lv_iconst C.x C.b (by decide +kernel : decode cX2_isWord 18 = .ok (.iconst 0, 1)) (v := 0) rfl ?_
    refine lv_istore_n C.x C.b (by decide +kernel : decode cX2_isWord 19 = .ok (.istore_n 2, 1)) (i := 2) rfl hl (by decide) (lv' := [(2, .int 0), (0, .ref a), (1, .ref (aK i))]) rfl (fun ls2 hl2 => ?_)
    exact loop (by rw [← hN]; exact heq) N 0 (by omega) (fun j hj => absurd hj (Nat.not_lt_zero _)) ls2 locs1 hl2 hS1
  · refine lv_iconst C.x C.b (by decide +kernel : decode cX2_isWord 16 = .ok (.iconst 0, 1)) (v := 0) rfl ?_
    exact W.zret C.x C.b hr rfl (fun t ht hW => ⟨_, rfl, Or.inl ⟨rfl, by
      rw [Bool.eq_false_iff]
      intro hc
      have h3 := (sp_is_iff.mp hc).1
      have hsub : (zt - zf).toInt = zt.toInt - zf.toInt := ai_subI (by omega) (by omega)
      have hN3 : 3 ≤ N := by rw [← hN]; exact jw3 i hi
      exact hne (Int32.toInt_inj.mp (by rw [hN, hNI, hsub]; omega))⟩, ht⟩) hS1.2.2 (by decide +kernel : decode cX2_isWord 17 = .ok (.ireturn, 1)) hlk
/-- wordRead, and which word it tells -/
theorem jd_wr2 {d : Nat} {p : Program} {l : Launch} {e : Env} {R : Room} {s : State} {m : MethodId} {args : Array Value} {below : List Frame} {meth : Method} {c : Code} {D : va_G} {tys : ai_ty} {A : Nat → Prop} {aK aV : Nat → Nat} {H : Heap} {locs : List Loc} {cells slots : Nat} {Q : State → Prop} {ls : Array Slot} (C : jd_C tb_m37 d p R s m args c D tys A aK aV cells slots) (h6 : 6 ≤ d) (hS : va_S A s.heap H locs) {ws : va_W} {a q27 t0 : Nat} {fs : List Value} {zt zf : Int32} {cA : ClassId} {f : Nat → Int32} (hP : va_P D vwCl ws H) (w1 : ws[26]? = some (a, .inr (2, fs))) (f0 : fs[0]? = some (.ref q27)) (f7 : fs[7]? = some (.int zt)) (f9 : fs[9]? = some (.int zf)) (b1 : 0 ≤ zf.toInt) (b2 : zt.toInt ≤ 160) (b3 : 0 ≤ zt.toInt) (b4 : zf.toInt ≤ 160) (w2 : ws[27]? = some (q27, .inl (cA, 160, .inl f))) (ht : tys[t0]? = some (cA, .int))
    (hl : lv_has ls 2 [(0, .ref a)]) (k1 : ∀ (j : Nat) (ls : Array Slot) (locs : List Loc), j < 7 → sp_word (fun n => (f n).toInt) zf.toInt.toNat zt.toInt.toNat = j → lv_has ls 2 [] → va_S A s.heap H locs → W p l e R s m args below meth c H locs cells slots Q (F0 m 20 ls [.int (Int32.ofNat j)])) (k2 : ∀ (ls : Array Slot) (locs : List Loc), sp_word (fun n => (f n).toInt) zf.toInt.toNat zt.toInt.toNat = 7 → lv_has ls 2 [] → va_S A s.heap H locs → W p l e R s m args below meth c H locs cells slots Q (F0 m 29 ls [.int 7])) : W p l e R s m args below meth c H locs cells slots Q (F0 m 0 ls []) := by
  have loop : ∀ (n j : Nat), j + n = 7 → (∀ i, i < j → sp_is (fun n => (f n).toInt) zf.toInt.toNat zt.toInt.toNat (sp_W.getD i []) = false) → ∀ (ls : Array Slot) (locs : List Loc), lv_has ls 2 [(1, .int (Int32.ofNat j)), (0, .ref a)] → va_S A s.heap H locs → W p l e R s m args below meth c H locs cells slots Q (F0 m 2 ls []) := by
    intro n
    induction n with
    | zero =>
      intro j hj hpre ls locs hl hS
      have e7 : j = 7 := by omega
      subst e7
      refine lv_iload_n C.x C.b (by decide +kernel : decode cX2_wordRead 2 = .ok (.iload_n 1, 1)) rfl (lv_at hl 0 rfl) ?_
      refine lv_bipush C.x C.b (by decide +kernel : decode cX2_wordRead 3 = .ok (.bipush 7, 2)) (v := 7) rfl ?_
      refine lv_icmp_ge C.x C.b (by decide +kernel : decode cX2_wordRead 5 = .ok (.if_icmp .ge 22, 3)) (tgt := 27) (by decide) (fun _ => ?_) (fun h => absurd (by decide) h)
      refine lv_bipush C.x C.b (by decide +kernel : decode cX2_wordRead 27 = .ok (.bipush 7, 2)) (v := 7) rfl ?_
      exact k2 ls locs (by rw [sp_word_P]; exact sp_P_at (by decide) hpre (fun h => absurd h (by decide))) (lv_sub hl [] rfl) hS
    | succ n ih =>
      intro j hj hpre ls locs hl hS
      have hi : j < 7 := by omega
      have hjI : (Int32.ofNat j).toInt = (j : Int) := nI_toInt (by omega)
      refine lv_iload_n C.x C.b (by decide +kernel : decode cX2_wordRead 2 = .ok (.iload_n 1, 1)) rfl (lv_at hl 0 rfl) ?_
      refine lv_bipush C.x C.b (by decide +kernel : decode cX2_wordRead 3 = .ok (.bipush 7, 2)) (v := 7) rfl ?_
      refine lv_icmp_ge C.x C.b (by decide +kernel : decode cX2_wordRead 5 = .ok (.if_icmp .ge 22, 3)) (tgt := 27) (by decide) (fun h => absurd h (nI_ge hi (by decide))) (fun _ => ?_)
      refine lv_aload_n C.x C.b (by decide +kernel : decode cX2_wordRead 8 = .ok (.aload_n 0, 1)) rfl (lv_at hl 1 rfl) ?_
      refine lv_iload_n C.x C.b (by decide +kernel : decode cX2_wordRead 9 = .ok (.iload_n 1, 1)) rfl (lv_at hl 0 rfl) ?_
      refine jd_S (M' := jm_sp) (n := 1) (As := [.int (Int32.ofNat j)]) (rest := [.ref a]) C hS (by omega) (by decide) (Nat.le_of_ble_eq_true rfl) jg_sp (by decide +kernel) (jd_sp l hi) rfl hl.1 rfl (by decide +kernel : decode cX2_wordRead 10 = .ok (.invokestatic 133, 3)) (fun v locs1 hv hS1 => ?_)
      subst hv
      refine jd_V (M' := jm_is) (n := 1) (As := [.ref (aK j)]) (rest := []) C hS1 (by omega) (by decide) (Nat.le_of_ble_eq_true rfl) jg_is (by decide +kernel) (va_recv C.K hP (q := (RX2, TX2, 11)) rfl w1) (jd_is2 l hi (by omega) hP w1 f0 f7 f9 b1 b2 b3 b4 w2 ht) rfl hl.1 rfl (by decide +kernel : decode cX2_wordRead 13 = .ok (.invokevirtual 137, 3)) (fun v locs2 hv hS2 => ?_)
      rcases hv with ⟨hv, hno⟩ | ⟨hv, hyes⟩
      · subst hv
        refine lv_if_eq C.x C.b (by decide +kernel : decode cX2_wordRead 16 = .ok (.ifCond .eq 5, 3)) (tgt := 21) (by decide) (fun _ => ?_) (fun h => absurd rfl h)
        refine lv_iinc C.x C.b (by decide +kernel : decode cX2_wordRead 21 = .ok (.iinc 1 1, 3)) hl (k := 0) rfl (v := Int32.ofNat (j + 1)) (nI_succ j).symm (by decide) (lv' := [(1, .int (Int32.ofNat (j + 1))), (0, .ref a)]) rfl (fun ls3 hl3 => ?_)
        refine lv_goto C.x C.b (by decide +kernel : decode cX2_wordRead 24 = .ok (.goto (-22), 3)) (tgt := 2) (by decide) ?_
        refine ih (j + 1) (by omega) (fun i hij => ?_) ls3 locs2 hl3 hS2
        by_cases hijj : i < j
        · exact hpre i hijj
        · rw [show i = j by omega]
          exact hno
      · subst hv
        refine lv_if_eq C.x C.b (by decide +kernel : decode cX2_wordRead 16 = .ok (.ifCond .eq 5, 3)) (tgt := 21) (by decide) (fun h => absurd h (by decide)) (fun _ => ?_)
        refine lv_iload_n C.x C.b (by decide +kernel : decode cX2_wordRead 19 = .ok (.iload_n 1, 1)) rfl (lv_at hl 0 rfl) ?_
        exact k1 j ls locs2 hi (by rw [sp_word_P]; exact sp_P_at (by omega) hpre (fun _ => hyes)) (lv_sub hl [] rfl) hS2
  refine lv_iconst C.x C.b (by decide +kernel : decode cX2_wordRead 0 = .ok (.iconst 0, 1)) (v := 0) rfl ?_
  refine lv_istore_n C.x C.b (by decide +kernel : decode cX2_wordRead 1 = .ok (.istore_n 1, 1)) (i := 1) rfl hl (by decide) (lv' := [(1, .int 0), (0, .ref a)]) rfl (fun ls2 hl2 => ?_)
  exact loop 7 0 rfl (fun i hi => absurd hi (Nat.not_lt_zero _)) ls2 locs hl2 hS
end
section
/-! wordRead as a known method, where the word is told -/
def wf (sb : List ai_b) (f e : Nat) : Option ai_b := sb.find? fun q => Nat.ble 310 q.1 && (Nat.blt q.1 318 && (Nat.beq q.2.1 f && Nat.beq q.2.2.1 e))
theorem wf_ok {w0 : va_W} {r : List Int} {sb : List ai_b} {g : Nat → Int} {f e : Nat} {q : ai_b} {zf ze : Int} (g2 : ai_sb w0 r sb) (hg : fx_tape w0 g) (hf : r[f]? = some zf) (he : r[e]? = some ze) (h : wf sb f e = some q) : 310 ≤ q.1 ∧ q.1 < 318 ∧ (if q.1 = 310 then ∃ zw : Int, r[q.2.2.2.1]? = some zw ∧ zw = ((sp_word g zf.toNat ze.toNat : Nat) : Int) ∧ zw < 4 else sp_word g zf.toNat ze.toNat = q.1 - 310) := by
  have hq := List.mem_of_find?_eq_some h
  have hc := List.find?_some h
  rw [Bool.and_eq_true, Bool.and_eq_true, Bool.and_eq_true, ai_beq, ai_beq] at hc
  obtain ⟨c1, c2, c3, c4⟩ := hc
  have c1 := Nat.le_of_ble_eq_true c1
  have c2 : q.1 < 318 := Nat.le_of_ble_eq_true c2
  obtain ⟨-, -, -, -, -, -, -, -, -, -, -, e9⟩ := g2 q hq
  obtain ⟨zf', ze', a1, a2, -, -, a5⟩ := ((e9 (by omega)).2.2.1 g hg).2.1 c1 c2
  rw [c3, hf] at a1
  rw [c4, he] at a2
  cases a1
  cases a2
  exact ⟨c1, c2, a5⟩
def st_tape (sb : List ai_b) : Bool := sb.any fun q => Nat.beq q.1 350
theorem st_tapeok {w0 : va_W} {r : List Int} {sb : List ai_b} (g2 : ai_sb w0 r sb) (h : st_tape sb = true) : ∃ g : Nat → Int, fx_tape w0 g := by
  obtain ⟨q, hq, h⟩ := List.any_eq_true.mp h
  have h := ai_beq.mp h
  obtain ⟨-, -, -, -, -, -, -, -, -, -, -, e9⟩ := g2 q hq
  obtain ⟨z, g, a1, a2, a3⟩ := (e9 (by omega)).2.2.2 h
  exact ⟨g, a2⟩
theorem sp_word_congr {g g' : Nat → Int} {f e : Nat} (h : ∀ i, f ≤ i → i < e → g i = g' i) : sp_word g f e = sp_word g' f e := by
  rw [sp_word_P, sp_word_P]
  have : sp_is g f e = sp_is g' f e := funext fun w => sp_is_congr h
  rw [this]
def wf_v (q : ai_b) : ai_v := if Nat.beq q.1 310 = true then (1, q.2.2.2.1, 0, 0) else (1, 0, 0, ((q.1 - 310 : Nat) : Int))
theorem wf_vok {ad : List Nat} {b : Nat} {g : Nat → Int} {r : List Int} {q : ai_b} {zf ze : Int} {j : Nat} (hj : j < 2147483648) (h0 : r[0]? = some 0) (hw : sp_word g zf.toNat ze.toNat = j) (h : if q.1 = 310 then ∃ zw : Int, r[q.2.2.2.1]? = some zw ∧ zw = ((sp_word g zf.toNat ze.toNat : Nat) : Int) ∧ zw < 4 else sp_word g zf.toNat ze.toNat = q.1 - 310) : ai_dv ad b r (wf_v q) (.int (Int32.ofNat j)) := by
  have hjI : (Int32.ofNat j).toInt = (j : Int) := nI_toInt (by omega)
  unfold wf_v
  split
  · rename_i hq
    rw [if_pos (ai_beq.mp hq)] at h
    obtain ⟨zw, a1, a2, a3⟩ := h
    exact Or.inr (Or.inl ⟨rfl, zw, _, a1, rfl, by show (Int32.ofNat j).toInt = zw + 0; omega⟩)
  · rename_i hq
    rw [if_neg (fun hc => hq (ai_beq.mpr hc))] at h
    exact Or.inr (Or.inl ⟨rfl, 0, _, h0, rfl, by show (Int32.ofNat j).toInt = 0 + ((q.1 - 310 : Nat) : Int); omega⟩)
def su_wr (WR : List (Nat × Nat × Nat)) (st : ai_s) : Option (List ai_s) :=
  (ai_lk st.2.2.2.2.1 26 9).bind fun v => (ai_lk st.2.2.2.2.1 26 7).bind fun w => (wf st.2.2.2.2.2 v.2.1 w.2.1).bind fun q =>
    if v.1 = 1 ∧ w.1 = 1 ∧ v.2.2.2 = 0 ∧ w.2.2.2 = 0 ∧ st.2.1 = tn_lo ∧ st.2.2.1.isEmpty = true ∧ nowr WR 27 = true ∧ ai_z st.2.2.2.1 = true ∧ st_tape st.2.2.2.2.2 = true ∧ Nat.blt 1 st.2.2.2.1.length = true then
      some [(if Nat.beq q.1 317 = true then 29 else 20, [], [wf_v q], st.2.2.2.1, st.2.2.2.2.1, st.2.2.2.2.2)] else none
theorem su_wr_ok {WR : List (Nat × Nat × Nat)} {d : Nat} {st : ai_s} {xs : List ai_s} (hq : su_wr WR st = some xs) (h0 : st.1 = 0) (h6 : 6 ≤ d) {w0 : va_W} {ad : List Nat} {p : Program} {l : Launch} {e : Env} {R : Room} {s : State} {m : MethodId} {args : Array Value} {below : List Frame} {meth : Method} {c : Code} {D : va_G} {tys : ai_ty} {A : Nat → Prop} {b L : Nat} {sx : Nat → Int32} {cells slots : Nat} {Q : State → Prop} {r0 : List Int}
    (C : ai_cx tb_m37 d p R s m args c D tys A b L sx cells slots) (k : ∀ x ∈ xs, ai_G tb_TY WR w0 ad tb_m37 p l e R s m args below meth c D tys A b L sx cells slots Q r0 x) : ai_G tb_TY WR w0 ad tb_m37 p l e R s m args below meth c D tys A b L sx cells slots Q r0 st := by
  unfold su_wr at hq
  obtain ⟨v, v1, hq⟩ := Option.bind_eq_some_iff.mp hq
  obtain ⟨w, w1, hq⟩ := Option.bind_eq_some_iff.mp hq
  obtain ⟨q, q1, hq⟩ := Option.bind_eq_some_iff.mp hq
  split at hq
  · rename_i hc
    obtain ⟨c1, c2, c3, c4, c5, c6, c7, c8, c9, c10⟩ := hc
    injection hq with hq
    subst hq
    intro r lv skc ws H locs ls hxx g hP hD hS hl
    obtain ⟨g1, g2, g3, g4, g5, g6, g7, g8⟩ := g
    obtain ⟨n0, x0, i0, j0⟩ := ai_get_ok g3 (show ai_get st.2.1 0 = some (0, 26, 0, 0) by rw [c5]; rfl)
    obtain ⟨aK, aV, hJ⟩ := C.2.2.2.2.2.1.2
    have C' : jd_C tb_m37 d p R s m args c D tys A aK aV cells slots := ⟨C.1, C.2.1, C.2.2.1, C.2.2.2.1, C.2.2.2.2.1, C.2.2.2.2.2.2.1, hJ, C.2.2.2.2.2.2.2.2.1.1, C.2.2.2.2.2.2.2.2.1.2.1, C.2.2.2.2.2.2.2.2.1.2.2.1, C.2.2.2.2.2.2.2.2.1.2.2.2⟩
    have hsk : skc = [] := by
      rw [List.isEmpty_iff.mp c6] at g4
      exact g4.nil
    subst hsk
    have r00 : r[0]? = some 0 := ai_z_ok g1 c8
    obtain ⟨gt, htp⟩ := st_tapeok g2 c9
    have hnow := tape_now g5 g7 c7 htp
    obtain ⟨x1, s1, d1⟩ := ai_lk_ok g6 v1
    obtain ⟨x2, s2, d2⟩ := ai_lk_ok g6 w1
    obtain ⟨a, e1, w1', v1', cc1⟩ := g5.get (c := 26) rfl
    obtain ⟨q27, e2, w2, v2, cc2⟩ := g5.get (c := 27) rfl
    rcases cc1 with ⟨-, fs, rfl, -, hf⟩ | ⟨q, -⟩ | ⟨q, -⟩ | ⟨q, -⟩
    · rcases cc2 with ⟨q, -⟩ | ⟨-, cA, f, rfl, ⟨t0, ht⟩, -⟩ | ⟨q, -⟩ | ⟨q, -⟩
      · exact absurd q (by decide)
      · obtain ⟨y0, f0, d0⟩ := hf 0 _ rfl
        obtain ⟨y7, f7, d7⟩ := hf 7 _ rfl
        obtain ⟨y9, f9, d9⟩ := hf 9 _ rfl
        obtain ⟨q0, z0, rfl⟩ := jd_fr d0 rfl
        obtain ⟨zt, rfl, t1, t2⟩ := jd_fi d7 rfl
        obtain ⟨zf, rfl, u1, u2⟩ := jd_fi d9 rfl
        have hq : q0 = q27 := Option.some.inj (z0.symm.trans v2)
        subst hq
        have hx0 : x0 = .ref a := by
          rcases j0 with ⟨-, q, q1, q2⟩ | ⟨q, -⟩ | ⟨q, -⟩ | ⟨q, -⟩ | ⟨q, -⟩
          · rw [q2, Option.some.inj (q1.symm.trans v1')]
          all_goals exact absurd q (by decide)
        subst hx0
        have hl' : lv_has ls 2 [(0, .ref a)] := ⟨hl.1, hl.2.1, fun q hq => by
          rcases List.mem_cons.mp hq with rfl | hq
          · exact lv_at hl n0 i0
          · cases hq⟩
        have hx1 : x1 = .int zf := s1.fun ⟨a, _, w1', Or.inl ⟨2, fs, rfl, f9⟩⟩
        have hx2 : x2 = .int zt := s2.fun ⟨a, _, w1', Or.inl ⟨2, fs, rfl, f7⟩⟩
        subst hx1
        subst hx2
        obtain ⟨za, a1, a2⟩ := ai_dv1 d1 c1
        obtain ⟨zb, b1, b2⟩ := ai_dv1 d2 c2
        rw [c3] at a2
        rw [c4] at b2
        obtain ⟨k310, k318, kw⟩ := wf_ok g2 htp a1 b1 q1
        have hG : sp_word (fun n => (f n).toInt) zf.toInt.toNat zt.toInt.toNat = sp_word gt za.toNat zb.toNat := by
          rw [show za = zf.toInt by omega, show zb = zt.toInt by omega]
          have t3 : zt.toInt ≤ 160 := t2
          refine sp_word_congr (fun i h1 h2 => ?_)
          rw [← hnow i (by omega)]
          unfold fx_at
          rw [fx_sl_o ⟨q0, cA, 160, f, w2, by omega, rfl⟩]
          rfl
        rw [h0]
        refine jd_wr2 C' h6 hS hP w1' f0 f7 f9 u1 t2 t1 u2 w2 ht hl' (fun j ls' locs' hj hwj hl2 hS2 => ?_) (fun ls' locs' hwj hl2 hS2 => ?_)
        · rw [hG] at hwj
          have hpc : (if Nat.beq q.1 317 = true then 29 else 20) = 20 := by
            rw [if_neg]
            intro h3
            have h3 := ai_beq.mp h3
            rw [if_neg (by omega)] at kw
            omega
          have kk := k _ (List.mem_singleton.mpr rfl)
          rw [hpc] at kk
          exact kk r [] [.int (Int32.ofNat j)] ws H locs' ls' hxx ⟨g1, g2, trivial, ⟨wf_vok (by omega) r00 hwj kw, trivial⟩, g5, g6, g7, g8⟩ hP hD hS2 hl2
        · rw [hG] at hwj
          have hpc : (if Nat.beq q.1 317 = true then 29 else 20) = 29 := by
            rw [if_pos]
            rw [ai_beq]
            by_cases h3 : q.1 = 310
            · rw [if_pos h3] at kw
              obtain ⟨zw, -, y1, y2⟩ := kw
              omega
            · rw [if_neg h3] at kw
              omega
          have kk := k _ (List.mem_singleton.mpr rfl)
          rw [hpc] at kk
          exact kk r [] [.int 7] ws H locs' ls' hxx ⟨g1, g2, trivial, ⟨wf_vok (j := 7) (by omega) r00 hwj kw, trivial⟩, g5, g6, g7, g8⟩ hP hD hS2 hl2
      · exact absurd q (by decide)
      · exact absurd q (by decide)
    · exact absurd q (by decide)
    · exact absurd q (by decide)
    · exact absurd q (by decide)
  · cases hq
end
