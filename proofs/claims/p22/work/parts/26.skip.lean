/-! methods walked by hand, over the walk of their rounds: skip -/
def hk (WR : List (Nat × Nat × Nat)) : ai_K := (tb_TY, WR, tb_MT, [], fun _ _ => none, [])
theorem hk_su {WR : List (Nat × Nat × Nat)} : ai_SU (hk WR) := by
  intro mid d cu st xs M h
  have h : (if (Nat.beq st.1 0 && Nat.ble (ai_gd mid) d) = true then (none : Option (List ai_s)) else none) = some xs := h
  split at h <;> cases h
def hG (M : ai_m) (p : Program) (l : Launch) (e : Env) (R : Room) (s : State) (m : MethodId) (args : Array Value) (below : List Frame) (meth : Method) (c : Code) (D : va_G) (A : Nat → Prop) (cells slots : Nat) (Q : State → Prop) (pc : Nat) (lv : List (Nat × Value)) (sk : List Value) (ws : va_W) : Prop :=
  ∀ (H : Heap) (locs : List Loc) (ls : Array Slot), va_P D vwCl ws H → va_D A ws → va_S A s.heap H locs → lv_has ls M.2.2.1 lv → W p l e R s m args below meth c H locs cells slots Q (F0 m pc ls sk)
section HND
variable {ad : List Nat} {M : ai_m} {d : Nat} {p : Program} {l : Launch} {e : Env} {R : Room} {s : State} {m : MethodId} {args : Array Value} {below : List Frame} {meth : Method} {c : Code} {D : va_G} {tys : ai_ty} {A : Nat → Prop} {b L : Nat} {sx : Nat → Int32} {cells slots : Nat} {Q : State → Prop}
/-- a stretch of a method, walked from a state that the world now stands for -/
theorem hseg {WR : List (Nat × Nat × Nat)} {n mid : Nat} {cu : List Nat} {st : ai_s} {xs : List ai_s} (h : ai_ex (hk WR) n mid M d cu st = some xs) (hM : tb_MT[mid]? = some M) (C : ai_cx M d p R s m args c D tys A b L sx cells slots) {r : List Int} {lv : List (Nat × Value)} {sk : List Value} {ws : va_W} (g : ai_gm tb_TY WR ws ad b L sx tys M.2.2.2.2.1 r st lv sk ws)
    (k : ∀ x ∈ xs, ∀ (r' : List Int) (lv' : List (Nat × Value)) (sk' : List Value) (ws' : va_W), ai_x r r' → ai_gm tb_TY WR ws ad b L sx tys M.2.2.2.2.1 r' x lv' sk' ws' → hG M p l e R s m args below meth c D A cells slots Q x.1 lv' sk' ws') : hG M p l e R s m args below meth c D A cells slots Q st.1 lv sk ws :=
  fun H locs ls hP hD hS hl => (ai_ex_ok (K := hk WR) hk_su tv_MT n) mid d cu st xs M h hM C (fun x hx r' lv' sk' ws' H' locs' ls' hx' g' hP' hD' hS' hl' => k x hx r' lv' sk' ws' hx' g' H' locs' ls' hP' hD' hS' hl') r lv sk ws H locs ls ai_x.rf g hP hD hS hl
end HND
theorem ai_fr.tr {WR : List (Nat × Nat × Nat)} {u v w : va_W} (h : ai_fr WR u v) (k : ai_fr WR v w) : ai_fr WR u w := fun c i x a b => k c i x a (h c i x a b)
/-- values of name 0 alone: constants and cells -/
def lo0 (v : ai_v) : Bool := Nat.beq v.1 0 || (Nat.beq v.1 1 && Nat.beq v.2.1 0)
theorem dv0 {ad : List Nat} {b : Nat} {r r' : List Int} {v : ai_v} {x : Value} (h : ai_dv ad b r v x) (h0 : r[0]? = some 0) (h0' : r'[0]? = some 0) (hv : lo0 v = true) : ai_dv ad b r' v x := by
  unfold lo0 at hv
  rw [Bool.or_eq_true, Bool.and_eq_true, ai_beq, ai_beq, ai_beq] at hv
  rcases h with h | ⟨h1, z, i, h2, h3, h4⟩ | ⟨h1, -⟩ | ⟨h1, -⟩ | ⟨h1, -⟩
  · exact Or.inl h
  · rcases hv with hv | hv
    · omega
    · rw [hv.2, h0] at h2
      cases h2
      exact Or.inr (Or.inl ⟨h1, 0, i, by rw [hv.2]; exact h0', h3, h4⟩)
  all_goals (exfalso; omega)
theorem lo0_ok {ad : List Nat} {b : Nat} {r r' : List Int} (h0 : r[0]? = some 0) (h0' : r'[0]? = some 0) : ∀ {lo : List (Nat × ai_v)} {lv : List (Nat × Value)}, (lo.all fun q => lo0 q.2) = true → ai_lo ad b r lo lv → ai_lo ad b r' lo lv
  | [], [], _, _ => trivial
  | [], _ :: _, _, h => h
  | _ :: _, [], _, h => h
  | q :: t, y :: u, hv, h => by
    rw [List.all_cons, Bool.and_eq_true] at hv
    exact ⟨h.1, dv0 h.2.1 h0 h0' hv.1, lo0_ok h0 h0' hv.2 h.2.2⟩
def sk_lo (j : Nat) : List (Nat × ai_v) := [(0, (0, 26, 0, 0)), (1, (1, 0, 0, fx_lo j)), (2, (1, 0, 0, fx_hi j))]
def sk_st (j : Nat) : ai_s := (0, sk_lo j, [], [(0, 0, false, 0, 0), (0, 2555, false, 1, 0), (0, 160, false, 2, 0), (0, 160, false, 3, 0)], [(26, 1, (1, 2, 0, 0)), (26, 7, (1, 3, 0, 0))], [])
def sk_WR : List (Nat × Nat × Nat) := [(26, 7, 8)]
/-- facts that a walk's end tells: (k, 3, 2, ..) of names 3 and 2; what row 27 has at name 3, within bounds -/
def sk_f (x : ai_s) (k : Nat) : Bool := x.2.2.2.2.2.any fun q => Nat.beq q.1 k && (Nat.beq q.2.1 3 && (Nat.beq q.2.2.1 2 && decide (q.2.2.2.2 = 0)))
def sk_g (x : ai_s) (f : ai_e → Bool) : Bool := x.2.2.2.2.2.any fun q => Nat.beq q.1 1027 && (Nat.beq q.2.1 3 && (decide (q.2.2.2.2 = 0) && (x.2.2.2.1[q.2.2.2.1]?).any f))
def sk_ok (j : Nat) (x : ai_s) : Bool := x.2.2.1.isEmpty &&
  ((Nat.beq x.1 50 && (decide (ai_lk x.2.2.2.2.1 26 7 = some (1, 3, 0, 0)) && (sk_f x 5 || (sk_f x 4 && sk_g x fun e => decide (e.2.1 < fx_lo j) || decide (fx_hi j < e.1))))) ||
   (Nat.beq x.1 47 && (decide (ai_lk x.2.2.2.2.1 26 7 = some (1, 3, 0, 1)) && (decide (x.2.1 = sk_lo j) && (sk_f x 4 && ((sk_g x fun e => decide (fx_lo j ≤ e.1)) && sk_g x fun e => decide (e.2.1 ≤ fx_hi j)))))))
noncomputable def sk_x (j : Nat) : Option (List ai_s) := ai_ex (hk sk_WR) 60 35 tb_m35 3 [47] (sk_st j)
theorem sk_r0 : ((sk_x 0).any fun xs => xs.all (sk_ok 0)) = true := by decide +kernel
theorem sk_r1 : ((sk_x 1).any fun xs => xs.all (sk_ok 1)) = true := by decide +kernel
theorem sk_r2 : ((sk_x 2).any fun xs => xs.all (sk_ok 2)) = true := by decide +kernel
theorem sk_run (j : Nat) (hj : j < 3) : ((sk_x j).any fun xs => xs.all (sk_ok j)) = true := by
  match j, hj with
  | 0, _ => exact sk_r0
  | 1, _ => exact sk_r1
  | 2, _ => exact sk_r2
  | j + 3, hj => exact absurd hj (by omega)
theorem sk_fok {w0 : va_W} {r : List Int} {x : ai_s} {zn zc : Int} (g2 : ai_sb w0 r x.2.2.2.2.2) (h3 : r[3]? = some zc) (h2 : r[2]? = some zn) : (sk_f x 5 = true → zn ≤ zc) ∧ (sk_f x 4 = true → zc < zn) := by
  refine ⟨fun h => ?_, fun h => ?_⟩
  · obtain ⟨q, hq, h⟩ := List.any_eq_true.mp h
    rw [Bool.and_eq_true, Bool.and_eq_true, Bool.and_eq_true, ai_beq, ai_beq, ai_beq, decide_eq_true_eq] at h
    obtain ⟨a1, a2, a3, a4⟩ := h
    obtain ⟨za, zb, zr, e1, e2, -, -, -, -, -, e5, -⟩ := g2 q hq
    rw [a2, h3] at e1
    rw [a3, h2] at e2
    cases e1
    cases e2
    have := e5 a1
    omega
  · obtain ⟨q, hq, h⟩ := List.any_eq_true.mp h
    rw [Bool.and_eq_true, Bool.and_eq_true, Bool.and_eq_true, ai_beq, ai_beq, ai_beq, decide_eq_true_eq] at h
    obtain ⟨a1, a2, a3, a4⟩ := h
    obtain ⟨za, zb, zr, e1, e2, -, -, -, -, e4, -⟩ := g2 q hq
    rw [a2, h3] at e1
    rw [a3, h2] at e2
    cases e1
    cases e2
    have := e4 a1
    omega
theorem sk_gok {w0 : va_W} {r : List Int} {x : ai_s} {zc t : Int} {f : ai_e → Bool} (g1 : ai_ok r x.2.2.2.1) (g2 : ai_sb w0 r x.2.2.2.2.2) (h3 : r[3]? = some zc) (ht : fx_o w0 27 zc.toNat = some t) (h : sk_g x f = true) : ∃ e : ai_e, f e = true ∧ e.1 ≤ t ∧ t ≤ e.2.1 := by
  obtain ⟨q, hq, h⟩ := List.any_eq_true.mp h
  rw [Bool.and_eq_true, Bool.and_eq_true, Bool.and_eq_true, ai_beq, ai_beq, decide_eq_true_eq] at h
  obtain ⟨a1, a2, a3, a4⟩ := h
  obtain ⟨za, zb, zr, e1, e2, e3, -, -, -, -, -, e9⟩ := g2 q hq
  obtain ⟨z1, z2, f1, f2, f3, f4⟩ := (e9 (by omega)).1 (by omega)
  rw [a2, h3] at f1
  cases f1
  rw [a1, a3, Int.add_zero, show 1027 - 1000 = 27 from rfl] at f4
  have f5 := f4 t ht
  subst f5
  obtain ⟨e, b1, b2, b3⟩ := ai_any g1 f2 a4
  exact ⟨e, b1, b2, b3⟩
theorem dvn {ad : List Nat} {b : Nat} {r : List Int} {n : Nat} {o z : Int} {x : Value} (h : ai_dv ad b r (1, n, 0, o) x) (hz : r[n]? = some z) : ∃ i : Int32, x = .int i ∧ i.toInt = z + o := by
  rcases h with ⟨q, -⟩ | ⟨-, y, i, q1, q2, q3⟩ | ⟨q, -⟩ | ⟨q, -⟩ | ⟨q, -⟩
  · exact absurd (id q : (1 : Nat) = 0) (by decide)
  · have q1 : r[n]? = some y := q1
    rw [hz] at q1
    cases q1
    exact ⟨i, q2, q3⟩
  · exact absurd (id q : (1 : Nat) = 2) (by decide)
  · exact absurd (id q : (1 : Nat) = 3) (by decide)
  · exact absurd (id q : (1 : Nat) = 4) (by decide)
/-- a row of ints of the world: what stands at a place -/
theorem sl_fx {ad : List Nat} {tys : ai_ty} {ws : va_W} {k n i : Nat} {pat : List ai_f} {j : Int32} (h : ai_wd tb_TY ad tys ws) (hT : tb_TY[k]? = some (1, n, pat)) (hs : ai_sl ws k i (.int j)) : fx_o ws k i = some j.toInt := by
  obtain ⟨a, e, h1, h2, h3⟩ := h.get hT
  rcases h3 with ⟨z, -⟩ | ⟨-, cA, f, rfl, -, -⟩ | ⟨z, -⟩ | ⟨z, -⟩
  · exact absurd (id z : (1 : Nat) = 0) (by decide)
  · obtain ⟨a', e', s1, s2⟩ := hs
    rw [h1] at s1
    cases s1
    rcases s2 with ⟨ci, fs, q, -⟩ | ⟨cA', n', f', q, q2, q3⟩
    · cases q
    · cases q
      cases q3
      exact fx_sl_o ⟨a, cA, n, f, h1, q2, rfl⟩
  · exact absurd (id z : (1 : Nat) = 3) (by decide)
  · exact absurd (id z : (1 : Nat) = 4) (by decide)
theorem fr_fx {ad : List Nat} {tys : ai_ty} {WR : List (Nat × Nat × Nat)} {ws ws' : va_W} {k n i : Nat} {pat : List ai_f} {t : Int} (h : ai_wd tb_TY ad tys ws') (hT : tb_TY[k]? = some (1, n, pat)) (hf : ai_fr WR ws ws') (hw : ai_wr WR k i i = false) (ht : fx_o ws k i = some t) : fx_o ws' k i = some t := by
  obtain ⟨j, j1, rfl⟩ := fx_o_sl ht
  exact sl_fx h hT (hf k i _ hw j1)
section SKP
variable {ad : List Nat} {p : Program} {l : Launch} {e : Env} {R : Room} {s : State} {m : MethodId} {args : Array Value} {below : List Frame} {meth : Method} {c : Code} {D : va_G} {tys : ai_ty} {A : Nat → Prop} {b L : Nat} {sx : Nat → Int32} {cells slots : Nat} {Q : State → Prop}
theorem sk_step {j : Nat} (hj : j < 3) (C : ai_cx tb_m35 3 p R s m args c D tys A b L sx cells slots) {ws : va_W} {zn zc : Int32} {g : Nat → Int} (hw : ai_wd tb_TY ad tys ws) (hn : ai_sl ws 26 1 (.int zn)) (hc : ai_sl ws 26 7 (.int zc)) (n0 : 0 ≤ zn.toInt) (n1 : zn.toInt ≤ 160) (c0 : 0 ≤ zc.toInt) (c1 : zc.toInt ≤ 160) (hg : ∀ i, i < 160 → fx_o ws 27 i = some (g i)) {lv : List (Nat × Value)} (hlv : ai_lo ad b [0] (sk_lo j) lv)
    (k1 : ∀ (ws' : va_W) (lv' : List (Nat × Value)), ai_wd tb_TY ad tys ws' → ai_fr sk_WR ws ws' → ai_sl ws' 26 7 (.int zc) → (zn.toInt.toNat ≤ zc.toInt.toNat ∨ g zc.toInt.toNat < fx_lo j ∨ fx_hi j < g zc.toInt.toNat) → hG tb_m35 p l e R s m args below meth c D A cells slots Q 50 lv' [] ws')
    (k2 : ∀ (ws' : va_W) (lv' : List (Nat × Value)) (zc' : Int32), ai_wd tb_TY ad tys ws' → ai_fr sk_WR ws ws' → ai_sl ws' 26 7 (.int zc') → zc'.toInt = zc.toInt + 1 → zc.toInt < zn.toInt → fx_lo j ≤ g zc.toInt.toNat → g zc.toInt.toNat ≤ fx_hi j → ai_lo ad b [0] (sk_lo j) lv' → hG tb_m35 p l e R s m args below meth c D A cells slots Q 47 lv' [] ws') : hG tb_m35 p l e R s m args below meth c D A cells slots Q 0 lv [] ws := by
  obtain ⟨xs, h1, h2⟩ := ai_anyE (sk_run j hj)
  have gm : ai_gm tb_TY sk_WR ws ad b L sx tys tb_m35.2.2.2.2.1 [0, 0, zn.toInt, zc.toInt] (sk_st j) lv [] ws := by
    refine ⟨⟨rfl, fun k z e hz he => ?_⟩, (fun q hq => by cases hq), lo0_ok (r := [0]) rfl rfl rfl hlv, trivial, hw, fun q hq => ?_, fun _ _ _ _ h => h, fun h => by cases h⟩
    · match k, hz, he with
      | 0, hz, he => cases hz; cases he; exact ⟨Int.le_refl _, Int.le_refl _, (fun h => by cases h), 0, rfl, Int.le_refl _⟩
      | 1, hz, he => cases hz; cases he; exact ⟨by decide, by decide, (fun h => by cases h), 0, rfl, Int.le_refl _⟩
      | 2, hz, he => cases hz; cases he; exact ⟨n0, n1, (fun h => by cases h), _, rfl, by show zn.toInt + 0 ≤ zn.toInt; omega⟩
      | 3, hz, he => cases hz; cases he; exact ⟨c0, c1, (fun h => by cases h), _, rfl, by show zc.toInt + 0 ≤ zc.toInt; omega⟩
      | k + 4, hz, he => cases hz
    · have hq : q ∈ [(26, 1, ((1, 2, 0, 0) : ai_v)), (26, 7, (1, 3, 0, 0))] := hq
      rcases List.mem_cons.mp hq with rfl | hq
      · exact ⟨_, hn, Or.inr (Or.inl ⟨rfl, _, _, rfl, rfl, by show zn.toInt = zn.toInt + 0; omega⟩)⟩
      · rcases List.mem_cons.mp hq with rfl | hq
        · exact ⟨_, hc, Or.inr (Or.inl ⟨rfl, _, _, rfl, rfl, by show zc.toInt = zc.toInt + 0; omega⟩)⟩
        · cases hq
  refine hseg (st := sk_st j) h1 rfl C gm (fun x hx r' lv' sk' ws' hx' g' => ?_)
  obtain ⟨g1, g2, g3, g4, g5, g6, g7, g8⟩ := g'
  have r0 : r'[0]? = some 0 := hx'.at rfl
  have r2 : r'[2]? = some zn.toInt := hx'.at rfl
  have r3 : r'[3]? = some zc.toInt := hx'.at rfl
  have hox := List.all_eq_true.mp h2 x hx
  unfold sk_ok at hox
  rw [Bool.and_eq_true, Bool.or_eq_true] at hox
  obtain ⟨hs, hox⟩ := hox
  have hsk : sk' = [] := by
    rw [List.isEmpty_iff.mp hs] at g4
    exact g4.nil
  subst hsk
  obtain ⟨f5, f4⟩ := sk_fok g2 r3 r2
  rcases hox with hox | hox
  · rw [Bool.and_eq_true, Bool.and_eq_true, ai_beq, decide_eq_true_eq, Bool.or_eq_true] at hox
    obtain ⟨p1, p2, p3⟩ := hox
    obtain ⟨x1, s1, d1⟩ := ai_lk_ok g6 p2
    obtain ⟨i, rfl, hi⟩ := dvn d1 r3
    have hii : i = zc := Int32.toInt_inj.mp (by rw [hi]; omega)
    subst hii
    rw [p1]
    refine k1 ws' lv' g5 g7 s1 ?_
    rcases p3 with p3 | p3
    · have := f5 p3
      exact Or.inl (by omega)
    · rw [Bool.and_eq_true] at p3
      have h4 := f4 p3.1
      obtain ⟨e0, b1, b2, b3⟩ := sk_gok g1 g2 r3 (hg _ (by omega)) p3.2
      rw [Bool.or_eq_true, decide_eq_true_eq, decide_eq_true_eq] at b1
      rcases b1 with b1 | b1
      · exact Or.inr (Or.inl (by omega))
      · exact Or.inr (Or.inr (by omega))
  · rw [Bool.and_eq_true, Bool.and_eq_true, Bool.and_eq_true, Bool.and_eq_true, Bool.and_eq_true, ai_beq, decide_eq_true_eq, decide_eq_true_eq] at hox
    obtain ⟨p1, p2, p3, p4, p5, p6⟩ := hox
    obtain ⟨x1, s1, d1⟩ := ai_lk_ok g6 p2
    obtain ⟨i, rfl, hi⟩ := dvn d1 r3
    have h4 := f4 p4
    obtain ⟨e0, b1, b2, b3⟩ := sk_gok g1 g2 r3 (hg _ (by omega)) p5
    obtain ⟨e1, b4, b5, b6⟩ := sk_gok g1 g2 r3 (hg _ (by omega)) p6
    rw [decide_eq_true_eq] at b1 b4
    rw [p1]
    refine k2 ws' lv' i g5 g7 s1 hi h4 (by omega) (by omega) (lo0_ok r0 rfl rfl (by rw [← p3]; exact g3))
theorem sk_loop {j : Nat} (hj : j < 3) (C : ai_cx tb_m35 3 p R s m args c D tys A b L sx cells slots) {zn : Int32} {g : Nat → Int} (n0 : 0 ≤ zn.toInt) (n1 : zn.toInt ≤ 160) :
    ∀ (N : Nat) (ws : va_W) (zc : Int32) (lv : List (Nat × Value)), (160 - zc.toInt).toNat < N → ai_wd tb_TY ad tys ws → ai_sl ws 26 1 (.int zn) → ai_sl ws 26 7 (.int zc) → 0 ≤ zc.toInt → zc.toInt ≤ 160 → (∀ i, i < 160 → fx_o ws 27 i = some (g i)) → ai_lo ad b [0] (sk_lo j) lv →
    (∀ (ws' : va_W) (lv' : List (Nat × Value)) (ze : Int32), ai_wd tb_TY ad tys ws' → ai_fr sk_WR ws ws' → ai_sl ws' 26 7 (.int ze) → 0 ≤ ze.toInt → ze.toInt ≤ 160 → ze.toInt.toNat = tp_skip g zn.toInt.toNat (fx_lo j) (fx_hi j) zc.toInt.toNat → hG tb_m35 p l e R s m args below meth c D A cells slots Q 50 lv' [] ws') → hG tb_m35 p l e R s m args below meth c D A cells slots Q 0 lv [] ws := by
  intro N
  induction N with
  | zero => exact fun ws zc lv h => absurd h (Nat.not_lt_zero _)
  | succ N ih =>
    intro ws zc lv hN hw hn hc c0 c1 hg hlv k
    refine sk_step hj C hw hn hc n0 n1 c0 c1 hg hlv (fun ws' lv' hw' hf hc' ho => ?_) (fun ws' lv' zc' hw' hf hc' e1 hlt a1 a2 hlv' => ?_)
    · refine k ws' lv' zc hw' hf hc' c0 c1 ?_
      rw [tp_skip_out]
      omega
    · intro H locs ls hP hD hS hl
      refine lv_goto (tgt := 0) C.1 C.2.1 (tv_m35.1.1.1 (47, .goto (-47), 3) (List.mem_of_getElem? (i := 25) rfl)) (by decide) ?_
      refine ih ws' zc' lv' (by omega) hw' (hf 26 1 _ (by decide) hn) hc' (by omega) (by omega) (fun i hi => fr_fx hw' (k := 27) rfl hf (by unfold ai_wr sk_WR; simp) (hg i hi)) hlv' (fun ws2 lv2 ze hw2 hf2 h7 e0 e2 e3 => ?_) H locs ls hP hD hS hl
      refine k ws2 lv2 ze hw2 (hf.tr hf2) h7 e0 e2 ?_
      rw [e3, tp_skip_in (p := zc.toInt.toNat) (by omega) a1 a2, show zc'.toInt.toNat = zc.toInt.toNat + 1 by omega]
end SKP
