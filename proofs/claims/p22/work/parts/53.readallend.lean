/-! readAll of the class is sp_text -/
def ra_is (g : Nat → Int) (n : Nat) (ws : va_W) : Prop := vi ws 26 5 (sp_text g n).1 ∧ (sp_text g n).1 ≤ 6 ∧ ((sp_text g n).1 ≠ 0 → vi ws 26 6 (sp_text g n).2.1) ∧ ((sp_text g n).1 = 0 → vi ws 26 4 (sp_text g n).2.2 ∧ vi ws 28 0 (sp_cnt g n) ∧ sp_cnt g n ≤ 4 ∧ vi ws 28 3 (sp_acn g n) ∧ sp_acn g n ≤ 8 ∧ cev ws 28 (sp_cnt g n) (ev_text g n) ∧ ∀ i, i < sp_acn g n → vi ws 33 i ((ev_acts g n).getD i 0))
section RAE
variable {ad : List Nat} {p : Program} {l : Launch} {e : Env} {R : Room} {s : State} {m : MethodId} {args : Array Value} {below : List Frame} {meth : Method} {c : Code} {D : va_G} {tys : ai_ty} {A : Nat → Prop} {b L : Nat} {sx : Nat → Int32} {cells slots : Nat} {Q : State → Prop}
set_option maxHeartbeats 1000000 in
theorem ra_all (C : ai_cx tb_m25 9 p R s m args c D tys A b L sx cells slots) {ws : va_W} {g : Nat → Int} {n : Nat} (hn : n ≤ 160) (hw : ai_wd tb_TY ad tys ws) (hT : sp_tape g n ws) (h1 : vi ws 26 1 n) {lv : List (Nat × Value)} (hlv : ai_lo ad b [0] tn_lo lv)
    (k : ∀ (ws' : va_W) (lv' : List (Nat × Value)), ai_wd tb_TY ad tys ws' → ai_fr cl_W ws ws' → ra_is g n ws' → hG tb_m25 p l e R s m args below meth c D A cells slots Q 93 lv' [] ws') : hG tb_m25 p l e R s m args below meth c D A cells slots Q 0 lv [] ws := by
  obtain ⟨xs, hx1, hx2⟩ := ai_anyE ra_r0
  have gm : ai_gm tb_TY ra_W0 ws ad b L sx tys tb_m25.2.2.2.2.1 [0, 0, (n : Int)] ra_0 lv [] ws := by
    refine ⟨en_mk (by simp only [ra_0, en_b, and_true]; omega) rfl, sb0, lo0_ok (r := [0]) rfl rfl rfl hlv, trivial, hw, kc (h1.kn (n := 2) (t := (n : Int)) rfl (by omega)) k0, fun _ _ _ _ h => h, fun h => by cases h⟩
  refine hsegT (st := ra_0) hx1 rfl C gm (fun x hx r' lv1 sk' ws1 hx' g' => ?_)
  obtain ⟨g1, g2, g3, g4, hw1, g6, f1, -⟩ := g'
  have r0 : r'[0]? = some 0 := hx'.at rfl
  have r2 : r'[2]? = some (n : Int) := hx'.at rfl
  have hox := List.all_eq_true.mp hx2 x hx
  unfold ra_0ok at hox
  rw [Bool.and_eq_true, Bool.and_eq_true, Bool.and_eq_true, Bool.and_eq_true, Bool.and_eq_true, Bool.and_eq_true, Bool.and_eq_true, Bool.and_eq_true, Bool.and_eq_true, Bool.and_eq_true, Bool.and_eq_true, ai_beq, decide_eq_true_eq, decide_eq_true_eq] at hox
  obtain ⟨hs, p1, q0, q1, c3, c4, c5, c28, c281, c282, c283, hox⟩ := hox
  obtain ⟨kb, hkb, hox⟩ := ai_anyE hox
  rw [Bool.and_eq_true, Bool.and_eq_true] at hox
  obtain ⟨c8, c9, c7⟩ := hox
  have hsk : sk' = [] := by
    rw [List.isEmpty_iff.mp hs] at g4
    exact g4.nil
  subst hsk
  obtain ⟨u1, u2, u3, -⟩ := sy_tk_ok (P := 0) g2 hT.1 r2 r0 hkb
  have F1 : ai_fr cl_W ws ws1 := wsub_ok (by decide) f1
  have hT1 := hT.fr hn hw1 F1 (by decide) (by decide)
  have hi1 : cl_is n ws1 (sp_tok g n 0, 0, 0, []) 0 := ⟨h1.fr F1 (by decide), vi.lk g6 (decide_eq_true_eq.mp c3) r0 (by show ((0 : Nat) : Int) = _; omega), vi.lk g6 (decide_eq_true_eq.mp c4) r0 (by omega), vi.lk g6 (decide_eq_true_eq.mp c5) r0 (by omega), vi.lk g6 (decide_eq_true_eq.mp c7) u3 (by show ((sp_tok g n 0).2.2.1 : Int) = _; omega), vi.lk g6 (decide_eq_true_eq.mp c8) r0 (by show ((sp_tok g n 0).1 : Int) = _; rw [u1]; omega), vi.lk g6 (decide_eq_true_eq.mp c9) u2 (by show ((sp_tok g n 0).2.1 : Int) = _; omega), vi.lk g6 (decide_eq_true_eq.mp c28) r0 (by show ((0 : Nat) : Int) = _; omega), vi.lk g6 (decide_eq_true_eq.mp c283) r0 (by show (([] : List Int).length : Int) = _; rfl), fun i hi => absurd hi (Nat.not_lt_zero _)⟩
  have hc0 : cev ws1 28 0 ev_0 := ⟨fun i hi => absurd hi (Nat.not_lt_zero _), vi.lk g6 (decide_eq_true_eq.mp c281) r0 (by simp [ev_0]), vi.lk g6 (decide_eq_true_eq.mp c282) r0 (by simp [ev_0])⟩
  rw [p1]
  refine hG_jv g3 r0 q0 q1 (z := 0) (t := ((0 : Nat) : Int)) r0 (by omega) (fun lv2 hlv2 => ?_)
  refine ra_loop C hn 161 0 ws1 _ ev_0 lv2 rfl hw1 hT1 hi1 sp_start hc0 hlv2 (fun ws2 lv3 hw2 f2 hlv3 hat => ?_)
  have F2 : ai_fr cl_W ws ws2 := F1.tr f2
  have htext : sp_text g n = match sp_run g n 161 0 (sp_tok g n 0, 0, 0, []) with
      | .inl x => (x.1, x.2, 0)
      | .inr (S, l) => if (S.2.1 : Int) ≤ sp_high S.2.2.2 then (6, n, 0) else (0, 0, l) := rfl
  have hcnt : sp_cnt g n = match sp_run g n 161 0 (sp_tok g n 0, 0, 0, []) with
      | .inl _ => 0
      | .inr (S, _) => S.2.1 := rfl
  have hacn : sp_acn g n = match sp_run g n 161 0 (sp_tok g n 0, 0, 0, []) with
      | .inl _ => 0
      | .inr (S, _) => S.2.2.2.length := rfl
  have hact : ev_acts g n = match sp_run g n 161 0 (sp_tok g n 0, 0, 0, []) with
      | .inl _ => []
      | .inr (S, _) => S.2.2.2 := rfl
  generalize sp_run g n 161 0 (sp_tok g n 0, 0, 0, []) = RR at hat htext hcnt hacn hact
  cases RR with
  | inl y =>
    obtain ⟨v5, v6, y1, y5⟩ := hat
    have htext : sp_text g n = (y.1, y.2, 0) := htext
    obtain ⟨ys, hy1, hy2⟩ := ai_anyE ra_r69e
    have gm2 : ai_gm tb_TY [] ws2 ad b L sx tys tb_m25.2.2.2.2.1 [0, 0, (y.1 : Int)] ra_69e lv3 [] ws2 := by
      refine ⟨en_mk (by simp only [ra_69e, en_b, and_true]; omega) rfl, sb0, lo0_ok (r := [0]) rfl rfl rfl hlv3, trivial, hw2, kc (v5.kn (n := 2) (t := (y.1 : Int)) rfl (by omega)) k0, fun _ _ _ _ h => h, fun h => by cases h⟩
    refine hseg (st := ra_69e) hy1 rfl C gm2 (fun x2 hx2' r2' lv4 sk2 ws3 hx3 g3' => ?_)
    obtain ⟨k1, k2, k3, k4, k5, k6, k7, k8⟩ := g3'
    have hox2 := List.all_eq_true.mp hy2 x2 hx2'
    rw [Bool.and_eq_true, ai_beq] at hox2
    have hsk2 : sk2 = [] := by
      rw [List.isEmpty_iff.mp hox2.1] at k4
      exact k4.nil
    subst hsk2
    rw [hox2.2]
    refine k ws3 lv4 k5 (F2.tr (wsub_ok (by decide) k7)) ?_
    unfold ra_is
    rw [htext]
    exact ⟨v5.fr k7 rfl, by show y.1 ≤ 6; omega, fun _ => v6.fr k7 rfl, fun h => absurd (show y.1 = 0 from h) (by omega)⟩
  | inr y =>
    obtain ⟨S, ln⟩ := y
    obtain ⟨hi2, hv2, hc2⟩ := hat
    have hc2 : cev ws2 28 S.2.1 (ev_text g n) := hc2
    have hact : ev_acts g n = S.2.2.2 := hact
    have htext : sp_text g n = if (S.2.1 : Int) ≤ sp_high S.2.2.2 then (6, n, 0) else (0, 0, ln) := htext
    have hcnt : sp_cnt g n = S.2.1 := hcnt
    have hacn : sp_acn g n = S.2.2.2.length := hacn
    have hi2' := hi2
    obtain ⟨i1, i3, i4, i5, i7, i8, i9, i10, i11, i12⟩ := hi2
    have i10 : vi ws2 28 0 S.2.1 := i10
    have i11 : vi ws2 28 3 S.2.2.2.length := i11
    have i12 : ∀ i, i < S.2.2.2.length → vi ws2 33 i (S.2.2.2.getD i 0) := i12
    obtain ⟨ys, hy1, hy2⟩ := ai_anyE ra_r69
    have gm2 : ai_gm tb_TY [] ws2 ad b L sx tys tb_m25.2.2.2.2.1 [0, 0] ra_69 lv3 [] ws2 := by
      refine ⟨en_mk (by simp only [ra_69, en_b, and_true]; omega) rfl, sb0, lo0_ok (r := [0]) rfl rfl rfl hlv3, trivial, hw2, kc (i5.kn (n := 0) (t := 0) rfl (by omega)) k0, fun _ _ _ _ h => h, fun h => by cases h⟩
    refine hseg (st := ra_69) hy1 rfl C gm2 (fun x2 hx2' r2' lv4 sk2 ws3 hx3 g3' => ?_)
    obtain ⟨k1, k2, k3, k4, k5, k6, k7, k8⟩ := g3'
    have y0 : r2'[0]? = some 0 := hx3.at rfl
    have hox2 := List.all_eq_true.mp hy2 x2 hx2'
    rw [Bool.and_eq_true, Bool.and_eq_true, ai_beq, decide_eq_true_eq, decide_eq_true_eq] at hox2
    obtain ⟨o1, o2, o3⟩ := hox2
    rw [o2] at k4
    obtain ⟨yv, s1, rfl, dy, k4⟩ := k4.cons
    have hs1 := k4.nil
    subst hs1
    rw [o1]
    refine hG_this k3 o3 (fun lv5 hlv5 => ?_)
    refine hcallB (q := (53, 0, 30, 0, 2)) (M' := tb_m30) (cl := 26) (rets := [46, 54]) (P := fun w z => ai_wd tb_TY ad tys w ∧ ai_fr [] ws3 w ∧ pm_P S.2.1 S.2.2.2 z) C (by decide) (tv_m25.1.1.1 (77, .invokevirtual 53, 3) (List.mem_of_getElem? (i := 39) rfl)) (tv_m25.2 _ (List.mem_of_getElem? (i := 3) rfl)) rfl rfl rfl rfl (by decide) (by decide) rfl rfl rfl rfl k5 (dv0 dy y0 rfl rfl) ?_ ?_ ?_ ?_
    · intro pcr hp
      rcases List.mem_cons.mp hp with rfl | hp
      · exact tv_m30.1.1.1 (46, .ireturn, 1) (List.mem_of_getElem? (i := 24) rfl)
      · rw [List.mem_singleton.mp hp]
        exact tv_m30.1.1.1 (54, .ireturn, 1) (List.mem_of_getElem? (i := 28) rfl)
    · rintro w z ⟨-, -, h⟩
      rcases h with h | h
      · exact Or.inr h.1
      · exact Or.inl h.1
    · intro p2 e2 R2 s2 m2 args2 below2 meth2 c2 Q2 C2 kk lv0 hlv0
      refine pm_all (t := S.2.1) (as := S.2.2.2) (mm_cx (by decide) C2) k5 (i11.fr k7 rfl) (i10.fr k7 rfl) hv2.1.2.2.1 hv2.2.1.1 (fun i hi => (i12 i hi).fr k7 rfl) hv2.2.1.2 hlv0 (fun pcr w lv2 z hpc a1 a2 a3 => kk pcr w z lv2 ?_ ⟨a1, a2, a3⟩)
      rcases hpc with rfl | rfl <;> decide
    · rintro ws4 z ⟨hw4, f4', hz⟩
      have F4 : ai_fr cl_W ws ws4 := (F2.tr (wsub_ok (by decide) k7)).tr (wsub_ok (by decide) f4')
      have i1' : vi ws4 26 1 n := (i1.fr k7 rfl).fr f4' rfl
      have i5' : vi ws4 26 5 0 := (i5.fr k7 rfl).fr f4' rfl
      have i4' : vi ws4 26 4 ln := (i4.fr k7 rfl).fr f4' rfl
      have i10' : vi ws4 28 0 S.2.1 := (i10.fr k7 rfl).fr f4' rfl
      have i11' : vi ws4 28 3 S.2.2.2.length := (i11.fr k7 rfl).fr f4' rfl
      rcases hz with ⟨rfl, hz⟩ | ⟨rfl, hz⟩
      · rw [if_pos hz] at htext
        obtain ⟨zs, hz1, hz2⟩ := ai_anyE ra_r81
        have gm4 : ai_gm tb_TY [(26, 5, 7)] ws4 ad b L sx tys tb_m25.2.2.2.2.1 [0, 0, (n : Int)] (ra_80 1) lv5 [.int 1] ws4 := by
          refine ⟨en_mk (by simp only [ra_80, en_b, and_true]; omega) rfl, sb0, lo0_ok (r := [0]) rfl rfl rfl hlv5, ⟨Or.inr (Or.inl ⟨rfl, 0, 1, rfl, rfl, rfl⟩), trivial⟩, hw4, kc (i1'.kn (n := 2) (t := (n : Int)) rfl (by omega)) k0, fun _ _ _ _ h => h, fun h => by cases h⟩
        refine hseg (st := ra_80 1) hz1 rfl C gm4 (fun x5 hx5 r5 lv6 sk5 ws5 hx5' g5' => ?_)
        obtain ⟨m1, m2, m3, m4, m5, m6, m7, m8⟩ := g5'
        have hox5 := List.all_eq_true.mp hz2 x5 hx5
        rw [Bool.and_eq_true, Bool.and_eq_true, Bool.and_eq_true, ai_beq] at hox5
        obtain ⟨v1, v2, v3, v4⟩ := hox5
        have hsk5 : sk5 = [] := by
          rw [List.isEmpty_iff.mp v1] at m4
          exact m4.nil
        subst hsk5
        rw [v2]
        refine k ws5 lv6 m5 (F4.tr (wsub_ok (by decide) m7)) ?_
        unfold ra_is
        rw [htext]
        exact ⟨vi.lk m6 (decide_eq_true_eq.mp v3) (hx5'.at (show ([0, 0, (n : Int)] : List Int)[0]? = some 0 from rfl)) (by show ((6 : Nat) : Int) = _; omega), by show 6 ≤ 6; decide, fun _ => vi.lk m6 (decide_eq_true_eq.mp v4) (hx5'.at (show ([0, 0, (n : Int)] : List Int)[2]? = some (n : Int) from rfl)) (by show (n : Int) = _; omega), fun h => absurd (show (6 : Nat) = 0 from h) (by decide)⟩
      · rw [if_neg hz] at htext
        obtain ⟨zs, hz1, hz2⟩ := ai_anyE ra_r80
        have gm4 : ai_gm tb_TY [] ws4 ad b L sx tys tb_m25.2.2.2.2.1 [0, 0, (n : Int)] (ra_80 0) lv5 [.int 0] ws4 := by
          refine ⟨en_mk (by simp only [ra_80, en_b, and_true]; omega) rfl, sb0, lo0_ok (r := [0]) rfl rfl rfl hlv5, ⟨Or.inr (Or.inl ⟨rfl, 0, 0, rfl, rfl, rfl⟩), trivial⟩, hw4, kc (i1'.kn (n := 2) (t := (n : Int)) rfl (by omega)) k0, fun _ _ _ _ h => h, fun h => by cases h⟩
        refine hseg (st := ra_80 0) hz1 rfl C gm4 (fun x5 hx5 r5 lv6 sk5 ws5 hx5' g5' => ?_)
        obtain ⟨m1, m2, m3, m4, m5, m6, m7, m8⟩ := g5'
        have hox5 := List.all_eq_true.mp hz2 x5 hx5
        rw [Bool.and_eq_true, ai_beq] at hox5
        have hsk5 : sk5 = [] := by
          rw [List.isEmpty_iff.mp hox5.1] at m4
          exact m4.nil
        subst hsk5
        rw [hox5.2]
        refine k ws5 lv6 m5 (F4.tr (wsub_ok (by decide) m7)) ?_
        unfold ra_is
        rw [htext]
        exact ⟨i5'.fr m7 rfl, by show 0 ≤ 6; decide, fun h => absurd rfl h, fun _ => ⟨i4'.fr m7 rfl, by rw [hcnt]; exact i10'.fr m7 rfl, by rw [hcnt]; exact hv2.1.2.2.1, by rw [hacn]; exact i11'.fr m7 rfl, by rw [hacn]; exact hv2.2.1.1, by rw [hcnt]; exact ((hc2.fr k7 rfl).fr f4' rfl).fr m7 rfl, fun i hi => by
          rw [hacn] at hi
          rw [hact]
          exact (((i12 i hi).fr k7 rfl).fr f4' rfl).fr m7 rfl⟩⟩
end RAE
