/-! readAll of the class: its pieces -/
def ra_W0 : List (Nat × Nat × Nat) := [(26, 3, 11), (28, 0, 4)]
def ra_0 : ai_s := (0, tn_lo, [], [(0, 0, false, 0, 0), (0, 2555, false, 1, 0), (0, 160, false, 2, 0)], [(26, 1, (1, 2, 0, 0))], [])
def l8 (x : ai_s) (i : Nat) (v : ai_v) : Bool := decide (ai_lk x.2.2.2.2.1 28 i = some v)
def ra_0ok (x : ai_s) : Bool := x.2.2.1.isEmpty && (Nat.beq x.1 38 && (decide (ai_get x.2.1 0 = some (0, 26, 0, 0)) && (decide (ai_get x.2.1 1 = some (1, 0, 0, 0)) && (c6 x 3 (1, 0, 0, 0) && (c6 x 4 (1, 0, 0, 0) && (c6 x 5 (1, 0, 0, 0) && (l8 x 0 (1, 0, 0, 0) && (l8 x 1 (1, 0, 0, 10) && (l8 x 2 (1, 0, 0, 0) && (l8 x 3 (1, 0, 0, 0) && (sy_tk x 2 0).any fun kb => c6 x 8 (1, 0, 0, (kb.1 : Int)) && (c6 x 9 (1, kb.2, 0, 0) && c6 x 7 (1, kb.2 + 1, 0, 0))))))))))))
theorem ra_r0 : ((ai_ex (hkT ra_W0) 200 25 tb_m25 9 [38] ra_0).any fun xs => xs.all ra_0ok) = true := by decide +kernel
def ra_lo : List (Nat × ai_v) := [(0, (0, 26, 0, 0)), (1, (1, 2, 0, 0))]
def ra_h : ai_s := (38, ra_lo, [], [(0, 0, false, 0, 0), (0, 2555, false, 1, 0), (0, 161, false, 2, 0), (0, 4, false, 3, 0)], [(26, 5, (1, 0, 0, 0)), (26, 8, (1, 3, 0, 0))], [])
def ra_hok (x : ai_s) : Bool := decide (ai_get x.2.1 0 = some (0, 26, 0, 0)) && (decide (ai_get x.2.1 1 = some (1, 2, 0, 0)) &&
  ((Nat.beq x.1 69 && (x.2.2.1.isEmpty && ((pm_e x 2 fun e => decide (161 ≤ e.1)) || pm_e x 3 fun e => decide (e.2.1 ≤ 0)))) ||
   (Nat.beq x.1 60 && (decide (x.2.2.1 = [(0, 26, 0, 0)]) && ((pm_e x 2 fun e => decide (e.2.1 ≤ 160)) && (x.2.2.2.1[3]?).any fun e => e.2.2.1 || decide (1 ≤ e.1))))))
theorem ra_rh : ((ai_ex (hk []) 60 25 tb_m25 9 [60, 69] ra_h).any fun xs => xs.all ra_hok) = true := by decide +kernel
def ra_63 : ai_s := (63, ra_lo, [], [(0, 0, false, 0, 0), (0, 2555, false, 1, 0), (0, 160, false, 2, 0)], [], [])
theorem ra_r63 : ((ai_ex (hk []) 60 25 tb_m25 9 [66] ra_63).any fun xs => xs.all fun x => x.2.2.1.isEmpty && (Nat.beq x.1 66 && (decide (ai_get x.2.1 0 = some (0, 26, 0, 0)) && decide (ai_get x.2.1 1 = some (1, 2, 0, 1))))) = true := by decide +kernel
def ra_63e : ai_s := (63, ra_lo, [], [(0, 0, false, 0, 0), (0, 2555, false, 1, 0), (0, 160, false, 2, 0), (1, 5, false, 3, 0)], [(26, 5, (1, 3, 0, 0))], [])
theorem ra_r63e : ((ai_ex (hk []) 60 25 tb_m25 9 [69] ra_63e).any fun xs => xs.all fun x => x.2.2.1.isEmpty && (Nat.beq x.1 69 && decide (ai_get x.2.1 0 = some (0, 26, 0, 0)))) = true := by decide +kernel
def ra_69e : ai_s := (69, tn_lo, [], [(0, 0, false, 0, 0), (0, 2555, false, 1, 0), (1, 5, false, 2, 0)], [(26, 5, (1, 2, 0, 0))], [])
theorem ra_r69e : ((ai_ex (hk []) 60 25 tb_m25 9 [] ra_69e).any fun xs => xs.all fun x => x.2.2.1.isEmpty && Nat.beq x.1 93) = true := by decide +kernel
def ra_69 : ai_s := (69, tn_lo, [], [(0, 0, false, 0, 0), (0, 2555, false, 1, 0)], [(26, 5, (1, 0, 0, 0))], [])
theorem ra_r69 : ((ai_ex (hk []) 60 25 tb_m25 9 [77] ra_69).any fun xs => xs.all fun x => Nat.beq x.1 77 && (decide (x.2.2.1 = [(0, 26, 0, 0)]) && decide (ai_get x.2.1 0 = some (0, 26, 0, 0)))) = true := by decide +kernel
def ra_80 (z : Int) : ai_s := (80, tn_lo, [(1, 0, 0, z)], [(0, 0, false, 0, 0), (0, 2555, false, 1, 0), (0, 160, false, 2, 0)], [(26, 1, (1, 2, 0, 0))], [])
theorem ra_r80 : ((ai_ex (hk []) 60 25 tb_m25 9 [] (ra_80 0)).any fun xs => xs.all fun x => x.2.2.1.isEmpty && Nat.beq x.1 93) = true := by decide +kernel
theorem ra_r81 : ((ai_ex (hk [(26, 5, 7)]) 60 25 tb_m25 9 [] (ra_80 1)).any fun xs => xs.all fun x => x.2.2.1.isEmpty && (Nat.beq x.1 93 && (c6 x 5 (1, 0, 0, 6) && c6 x 6 (1, 2, 0, 0)))) = true := by decide +kernel
section RAL
variable {ad : List Nat} {M : ai_m} {p : Program} {l : Launch} {e : Env} {R : Room} {s : State} {m : MethodId} {args : Array Value} {below : List Frame} {meth : Method} {c : Code} {D : va_G} {tys : ai_ty} {A : Nat → Prop} {b L : Nat} {sx : Nat → Int32} {cells slots : Nat} {Q : State → Prop}
/-- this object and one number among the locals -/
def jv (ad : List Nat) (b cl : Nat) (i : Nat) (z : Int) (lv : List (Nat × Value)) : Prop := ∃ (x : Value) (j : Int32), lv = [(0, x), (i, .int j)] ∧ ai_dv ad b [0] (0, cl, 0, 0) x ∧ j.toInt = z
theorem hG_jv {r : List Int} {lo : List (Nat × ai_v)} {lv : List (Nat × Value)} {cl i nm pc : Nat} {o z t : Int} {sk : List Value} {ws : va_W} (h : ai_lo ad b r lo lv) (h0 : r[0]? = some 0) (hg : ai_get lo 0 = some (0, cl, 0, 0)) (hg1 : ai_get lo i = some (1, nm, 0, o)) (hr : r[nm]? = some z) (ht : t = z + o) (k : ∀ lv1, jv ad b cl i t lv1 → hG M p l e R s m args below meth c D A cells slots Q pc lv1 sk ws) : hG M p l e R s m args below meth c D A cells slots Q pc lv sk ws := by
  obtain ⟨n, x, h1, h2⟩ := ai_get_ok h hg
  obtain ⟨n', x', h1', h2'⟩ := ai_get_ok h hg1
  obtain ⟨j, rfl, hj⟩ := dvn h2' hr
  intro H locs ls hP hD hS hl
  refine k [(0, x), (i, .int j)] ⟨x, j, rfl, dv0 h2 h0 rfl rfl, by omega⟩ H locs ls hP hD hS ⟨hl.1, hl.2.1, fun q hq => ?_⟩
  rcases List.mem_cons.mp hq with rfl | hq
  · exact lv_at hl n h1
  · rw [List.mem_singleton.mp hq]
    exact lv_at hl n' h1'
theorem jv.lo {r : List Int} {cl i nm : Nat} {t z o : Int} {lv : List (Nat × Value)} (h : jv ad b cl i t lv) (h0 : r[0]? = some 0) (hr : r[nm]? = some z) (ht : t = z + o) : ai_lo ad b r [(0, (0, cl, 0, 0)), (i, (1, nm, 0, o))] lv := by
  obtain ⟨x, j, rfl, hx, hj⟩ := h
  exact ⟨rfl, dv0 hx rfl h0 rfl, rfl, Or.inr (Or.inl ⟨rfl, z, j, hr, rfl, by show j.toInt = z + o; omega⟩), trivial⟩
theorem jv.this {cl i : Nat} {t : Int} {lv : List (Nat × Value)} (h : jv ad b cl i t lv) {pc : Nat} {sk : List Value} {ws : va_W} (k : ∀ lv1, ai_lo ad b [0] [(0, (0, cl, 0, 0))] lv1 → hG M p l e R s m args below meth c D A cells slots Q pc lv1 sk ws) : hG M p l e R s m args below meth c D A cells slots Q pc lv sk ws := by
  obtain ⟨x, j, rfl, hx, hj⟩ := h
  intro H locs ls hP hD hS hl
  exact k [(0, x)] ⟨rfl, hx, trivial⟩ H locs ls hP hD hS ⟨hl.1, hl.2.1, fun q hq => hl.2.2 q (by rw [List.mem_singleton.mp hq]; exact List.mem_cons_self)⟩
theorem ra_back (C : ai_cx tb_m25 9 p R s m args c D tys A b L sx cells slots) {ws : va_W} {lv : List (Nat × Value)} (k : hG tb_m25 p l e R s m args below meth c D A cells slots Q 38 lv [] ws) : hG tb_m25 p l e R s m args below meth c D A cells slots Q 66 lv [] ws := by
  intro H locs ls hP hD hS hl
  exact lv_goto (tgt := 38) C.1 C.2.1 (tv_m25.1.1.1 (66, .goto (-28), 3) (List.mem_of_getElem? (i := 34) rfl)) (by decide) (k H locs ls hP hD hS hl)
/-- behind the loop: a fault, or all lines -/
def ra_at (n : Nat) (ws : va_W) (E : Nat → Int) : (Nat × Nat) ⊕ (sp_S × Nat) → Prop
  | .inl x => vi ws 26 5 x.1 ∧ vi ws 26 6 x.2 ∧ 1 ≤ x.1 ∧ x.1 ≤ 5
  | .inr x => cl_is n ws x.1 x.2 ∧ sp_inv2 n x.1 ∧ cev ws 28 x.1.2.1 E
set_option maxHeartbeats 1000000 in
theorem ra_loop (C : ai_cx tb_m25 9 p R s m args c D tys A b L sx cells slots) {g : Nat → Int} {n : Nat} (hn : n ≤ 160) :
    ∀ (f j : Nat) (ws : va_W) (S : sp_S) (E : Nat → Int) (lv : List (Nat × Value)), j + f = 161 → ai_wd tb_TY ad tys ws → sp_tape g n ws → cl_is n ws S j → sp_inv2 n S → cev ws 28 S.2.1 E → jv ad b 26 1 (j : Int) lv →
    (∀ (ws' : va_W) (lv' : List (Nat × Value)), ai_wd tb_TY ad tys ws' → ai_fr cl_W ws ws' → ai_lo ad b [0] tn_lo lv' → ra_at n ws' (ev_run g n f S E) (sp_run g n f j S) → hG tb_m25 p l e R s m args below meth c D A cells slots Q 69 lv' [] ws') → hG tb_m25 p l e R s m args below meth c D A cells slots Q 38 lv [] ws := by
  intro f
  induction f with
  | zero =>
    intro j ws S E lv hj hw hT hi hv hcE hlv k
    obtain ⟨xs, hx1, hx2⟩ := ai_anyE ra_rh
    have v4 := hv.1.2.2.2.1
    obtain ⟨i1, i3, i4, i5, i7, i8, i9, i10, i11, i12⟩ := hi
    have gm : ai_gm tb_TY [] ws ad b L sx tys tb_m25.2.2.2.2.1 [0, 0, (j : Int), (S.1.1 : Int)] ra_h lv [] ws := by
      refine ⟨en_mk (by simp only [ra_h, en_b, and_true]; omega) rfl, sb0, hlv.lo rfl rfl (by omega), trivial, hw, kc (i5.kn (n := 0) (t := 0) rfl (by omega)) (kc (i8.kn (n := 3) (t := (S.1.1 : Int)) rfl (by omega)) k0), fun _ _ _ _ h => h, fun h => by cases h⟩
    refine hseg (st := ra_h) hx1 rfl C gm (fun x hx r' lv' sk' ws' hx' g' => ?_)
    obtain ⟨g1, g2, g3, g4, g5, g6, g7, g8⟩ := g'
    have r2 : r'[2]? = some (j : Int) := hx'.at rfl
    have hox := List.all_eq_true.mp hx2 x hx
    unfold ra_hok at hox
    rw [Bool.and_eq_true, Bool.and_eq_true, decide_eq_true_eq, decide_eq_true_eq, Bool.or_eq_true] at hox
    obtain ⟨q0, q1, hox⟩ := hox
    rcases hox with hox | hox
    · rw [Bool.and_eq_true, Bool.and_eq_true, ai_beq] at hox
      obtain ⟨p1, hs, -⟩ := hox
      have hsk : sk' = [] := by
        rw [List.isEmpty_iff.mp hs] at g4
        exact g4.nil
      subst hsk
      rw [p1]
      exact hG_this g3 q0 (fun lv1 hlv1 => k ws' lv1 g5 (wsub_ok (by decide) g7) hlv1 ⟨⟨i1.fr g7 rfl, i3.fr g7 rfl, i4.fr g7 rfl, i5.fr g7 rfl, i7.fr g7 rfl, i8.fr g7 rfl, i9.fr g7 rfl, i10.fr g7 rfl, i11.fr g7 rfl, fun i hi => (i12 i hi).fr g7 rfl⟩, hv, hcE.fr g7 rfl⟩)
    · rw [Bool.and_eq_true, Bool.and_eq_true, Bool.and_eq_true] at hox
      obtain ⟨e0, c1, c2, c3⟩ := ai_any g1 r2 hox.2.2.1
      rw [decide_eq_true_eq] at c1
      omega
  | succ f ih =>
    intro j ws S E lv hj hw hT hi hv hcE hlv k
    obtain ⟨xs, hx1, hx2⟩ := ai_anyE ra_rh
    have v4 := hv.1.2.2.2.1
    have hi' := hi
    obtain ⟨i1, i3, i4, i5, i7, i8, i9, i10, i11, i12⟩ := hi
    have gm : ai_gm tb_TY [] ws ad b L sx tys tb_m25.2.2.2.2.1 [0, 0, (j : Int), (S.1.1 : Int)] ra_h lv [] ws := by
      refine ⟨en_mk (by simp only [ra_h, en_b, and_true]; omega) rfl, sb0, hlv.lo rfl rfl (by omega), trivial, hw, kc (i5.kn (n := 0) (t := 0) rfl (by omega)) (kc (i8.kn (n := 3) (t := (S.1.1 : Int)) rfl (by omega)) k0), fun _ _ _ _ h => h, fun h => by cases h⟩
    refine hseg (st := ra_h) hx1 rfl C gm (fun x hx r' lv' sk' ws' hx' g' => ?_)
    obtain ⟨g1, g2, g3, g4, g5, g6, g7, g8⟩ := g'
    have r0 : r'[0]? = some 0 := hx'.at rfl
    have r2 : r'[2]? = some (j : Int) := hx'.at rfl
    have r3 : r'[3]? = some (S.1.1 : Int) := hx'.at rfl
    have hi2 : cl_is n ws' S j := ⟨i1.fr g7 rfl, i3.fr g7 rfl, i4.fr g7 rfl, i5.fr g7 rfl, i7.fr g7 rfl, i8.fr g7 rfl, i9.fr g7 rfl, i10.fr g7 rfl, i11.fr g7 rfl, fun i hi => (i12 i hi).fr g7 rfl⟩
    have hF : ai_fr cl_W ws ws' := wsub_ok (by decide) g7
    have hox := List.all_eq_true.mp hx2 x hx
    unfold ra_hok at hox
    rw [Bool.and_eq_true, Bool.and_eq_true, decide_eq_true_eq, decide_eq_true_eq, Bool.or_eq_true] at hox
    obtain ⟨q0, q1, hox⟩ := hox
    have hrun : sp_run g n (f + 1) j S = if S.1.1 = 0 then .inr (S, j) else match sp_line g n S with
        | .inl x => .inl x
        | .inr S' => sp_run g n f (j + 1) S' := rfl
    have herun : ev_run g n (f + 1) S E = if S.1.1 = 0 then E else match sp_line g n S with
        | .inl _ => E
        | .inr S' => ev_run g n f S' (ev_line g n S E) := rfl
    rcases hox with hox | hox
    · rw [Bool.and_eq_true, Bool.and_eq_true, ai_beq, Bool.or_eq_true] at hox
      obtain ⟨p1, hs, p2⟩ := hox
      have hsk : sk' = [] := by
        rw [List.isEmpty_iff.mp hs] at g4
        exact g4.nil
      subst hsk
      rw [p1]
      have h0 : S.1.1 = 0 := by
        rcases p2 with p2 | p2
        · obtain ⟨e0, c1, c2, c3⟩ := ai_any g1 r2 p2
          rw [decide_eq_true_eq] at c1
          omega
        · obtain ⟨e0, c1, c2, c3⟩ := ai_any g1 r3 p2
          rw [decide_eq_true_eq] at c1
          omega
      rw [hrun, herun, if_pos h0, if_pos h0] at k
      exact hG_this g3 q0 (fun lv1 hlv1 => k ws' lv1 g5 hF hlv1 ⟨hi2, hv, hcE.fr g7 rfl⟩)
    · rw [Bool.and_eq_true, Bool.and_eq_true, Bool.and_eq_true, ai_beq, decide_eq_true_eq] at hox
      obtain ⟨p1, p2, p3, p4⟩ := hox
      obtain ⟨e0, c1, c2, c3⟩ := ai_any g1 r2 p3
      rw [decide_eq_true_eq] at c1
      have h0 : ¬ S.1.1 = 0 := by
        obtain ⟨e1, d1, d2, d3, d4, -⟩ := g1.get r3
        rw [d1] at p4
        have p4 : (e1.2.2.1 || decide (1 ≤ e1.1)) = true := p4
        rw [Bool.or_eq_true, decide_eq_true_eq] at p4
        rcases p4 with p4 | p4
        · have := d4 p4
          omega
        · omega
      rw [hrun, herun, if_neg h0, if_neg h0] at k
      rw [p2] at g4
      obtain ⟨y, s1, rfl, dy, g4⟩ := g4.cons
      have hs1 := g4.nil
      subst hs1
      rw [p1]
      have hT2 := hT.fr hn g5 hF (by decide) (by decide)
      refine hG_jv g3 r0 q0 q1 r2 (show (j : Int) = (j : Int) + 0 by omega) (fun lv1 hlv1 => ?_)
      have hgo := sp_line_go (g := g) hv
      refine hcall (q := (50, 0, 26, 0, 2)) (M' := tb_m26) (cl := 26) (rets := [64, 85, 100]) (P := fun ws2 => ai_wd tb_TY ad tys ws2 ∧ ai_fr cl_W ws' ws2 ∧ ((∃ c1 P, sp_line g n S = .inl (c1, P) ∧ vi ws2 26 5 c1 ∧ vi ws2 26 6 P) ∨ ∃ S', sp_line g n S = .inr S' ∧ cl_is n ws2 S' (j + 1) ∧ ∀ E, cev ws' 28 S.2.1 E → cev ws2 28 S'.2.1 (ev_line g n S E))) C (by decide) (tv_m25.1.1.1 (60, .invokevirtual 50, 3) (List.mem_of_getElem? (i := 32) rfl)) (tv_m25.2 _ (List.mem_of_getElem? (i := 2) rfl)) rfl rfl rfl rfl (by decide) (by decide) rfl rfl rfl rfl g5 (dv0 dy r0 rfl rfl) ?_ ?_ ?_
      · intro pcr hp
        rcases List.mem_cons.mp hp with rfl | hp
        · exact tv_m26.1.1.1 (64, .return_, 1) (List.mem_of_getElem? (i := 32) rfl)
        · rcases List.mem_cons.mp hp with rfl | hp
          · exact tv_m26.1.1.1 (85, .return_, 1) (List.mem_of_getElem? (i := 43) rfl)
          · rw [List.mem_singleton.mp hp]
            exact tv_m26.1.1.1 (100, .return_, 1) (List.mem_of_getElem? (i := 52) rfl)
      · intro p2 e2 R2 s2 m2 args2 below2 meth2 c2 Q2 C2 kk lv0 hlv0
        refine cl_line C2 hn (by omega) g5 hT2 hi2 hv.1 hlv0 (fun pcr ws2 lv2 c1 P hpc a1 a2 a3 a4 a5 => kk pcr ws2 lv2 ?_ ⟨a1, a2, Or.inl ⟨c1, P, a3, a4, a5⟩⟩) (fun ws2 lv2 S' a1 a2 a3 a4 a5 => kk 100 ws2 lv2 (by decide) ⟨a1, a2, Or.inr ⟨S', a3, a4, a5⟩⟩)
        rcases hpc with rfl | rfl <;> decide
      · rintro ws2 ⟨hw2, hf2, hr⟩
        have hF2 : ai_fr cl_W ws ws2 := hF.tr hf2
        rcases hr with ⟨c1, P, e1, e2, e3⟩ | ⟨S', e1, e2, e4⟩
        · rw [e1] at k hgo
          obtain ⟨o1, o2, o3⟩ := hgo
          obtain ⟨ys, hy1, hy2⟩ := ai_anyE ra_r63e
          have gm2 : ai_gm tb_TY [] ws2 ad b L sx tys tb_m25.2.2.2.2.1 [0, 0, (j : Int), (c1 : Int)] ra_63e lv1 [] ws2 := by
            refine ⟨en_mk (by simp only [ra_63e, en_b, and_true]; omega) rfl, sb0, hlv1.lo rfl rfl (by omega), trivial, hw2, kc (e2.kn (n := 3) (t := (c1 : Int)) rfl (by omega)) k0, fun _ _ _ _ h => h, fun h => by cases h⟩
          refine hseg (st := ra_63e) hy1 rfl C gm2 (fun x2 hx2' r2' lv2 sk2 ws3 hx3 g3' => ?_)
          obtain ⟨k1, k2, k3, k4, k5, k6, k7, k8⟩ := g3'
          have hox2 := List.all_eq_true.mp hy2 x2 hx2'
          rw [Bool.and_eq_true, Bool.and_eq_true, ai_beq, decide_eq_true_eq] at hox2
          obtain ⟨hs2, u1, u2⟩ := hox2
          have hsk2 : sk2 = [] := by
            rw [List.isEmpty_iff.mp hs2] at k4
            exact k4.nil
          subst hsk2
          rw [u1]
          exact hG_this k3 u2 (fun lv3 hlv3 => k ws3 lv3 k5 (hF2.tr (wsub_ok (by decide) k7)) hlv3 ⟨e2.fr k7 rfl, e3.fr k7 rfl, o1, o2⟩)
        · rw [e1] at k hgo
          obtain ⟨ys, hy1, hy2⟩ := ai_anyE ra_r63
          have gm2 : ai_gm tb_TY [] ws2 ad b L sx tys tb_m25.2.2.2.2.1 [0, 0, (j : Int)] ra_63 lv1 [] ws2 := by
            refine ⟨en_mk (by simp only [ra_63, en_b, and_true]; omega) rfl, sb0, hlv1.lo rfl rfl (by omega), trivial, hw2, k0, fun _ _ _ _ h => h, fun h => by cases h⟩
          refine hseg (st := ra_63) hy1 rfl C gm2 (fun x2 hx2' r2' lv2 sk2 ws3 hx3 g3' => ?_)
          obtain ⟨k1, k2, k3, k4, k5, k6, k7, k8⟩ := g3'
          have hox2 := List.all_eq_true.mp hy2 x2 hx2'
          rw [Bool.and_eq_true, Bool.and_eq_true, Bool.and_eq_true, ai_beq, decide_eq_true_eq, decide_eq_true_eq] at hox2
          obtain ⟨hs2, u1, u2, u3⟩ := hox2
          have hsk2 : sk2 = [] := by
            rw [List.isEmpty_iff.mp hs2] at k4
            exact k4.nil
          subst hsk2
          rw [u1]
          have hF3 : ai_fr cl_W ws ws3 := hF2.tr (wsub_ok (by decide) k7)
          refine hG_jv k3 (hx3.at rfl) u2 u3 (z := (j : Int)) (t := ((j + 1 : Nat) : Int)) (hx3.at rfl) (by omega) (fun lv3 hlv3 => ra_back C ?_)
          obtain ⟨s1, s3, s4, s5, s7, s8, s9', s10, s11, s12⟩ := e2
          exact ih (j + 1) ws3 S' (ev_line g n S E) lv3 (by omega) k5 (hT.fr hn k5 hF3 (by decide) (by decide)) ⟨s1.fr k7 rfl, s3.fr k7 rfl, s4.fr k7 rfl, s5.fr k7 rfl, s7.fr k7 rfl, s8.fr k7 rfl, s9'.fr k7 rfl, s10.fr k7 rfl, s11.fr k7 rfl, fun i hi => (s12 i hi).fr k7 rfl⟩ hgo.1 ((e4 E (hcE.fr g7 rfl)).fr k7 rfl) hlv3 (fun ws4 lv4 a1 a2 a3 a4 => k ws4 lv4 a1 (hF3.tr a2) a3 a4)
end RAL
