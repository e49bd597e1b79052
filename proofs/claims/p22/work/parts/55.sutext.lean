/-! text of the class, and as a known method -/
theorem sp_run_le {g : Nat → Int} {n : Nat} : ∀ (f l : Nat) (S : sp_S), sp_inv2 n S → ∀ x, sp_run g n f l S = .inl x → 1 ≤ x.1 ∧ x.1 ≤ 5 ∧ x.2 ≤ n
  | 0, _, _, _, x, h => by cases h
  | f + 1, l, S, hv, x, h => by
    have hgo := sp_line_go (g := g) hv
    unfold sp_run at h
    split at h
    · cases h
    · generalize sp_line g n S = RR at hgo h
      cases RR with
      | inl y =>
        have h : (Sum.inl y : (Nat × Nat) ⊕ (sp_S × Nat)) = .inl x := h
        cases h
        exact hgo
      | inr S' =>
        have h : sp_run g n f (l + 1) S' = .inl x := h
        exact sp_run_le f (l + 1) S' hgo.1 x h
theorem sp_text_le {g : Nat → Int} {n : Nat} : (sp_text g n).1 ≤ 6 ∧ (sp_text g n).2.1 ≤ n := by
  have hr := sp_run_le (g := g) (n := n) 161 0 (sp_tok g n 0, 0, 0, []) sp_start
  have htext : sp_text g n = match sp_run g n 161 0 (sp_tok g n 0, 0, 0, []) with
      | .inl x => (x.1, x.2, 0)
      | .inr (S, l) => if (S.2.1 : Int) ≤ sp_high S.2.2.2 then (6, n, 0) else (0, 0, l) := rfl
  rw [htext]
  generalize sp_run g n 161 0 (sp_tok g n 0, 0, 0, []) = RR at hr ⊢
  cases RR with
  | inl x =>
    have := hr x rfl
    exact ⟨by show x.1 ≤ 6; omega, this.2.2⟩
  | inr y =>
    obtain ⟨S, ln⟩ := y
    show (if (S.2.1 : Int) ≤ sp_high S.2.2.2 then (6, n, 0) else (0, 0, ln)).1 ≤ 6 ∧ (if (S.2.1 : Int) ≤ sp_high S.2.2.2 then (6, n, 0) else (0, 0, ln)).2.1 ≤ n
    split
    · exact ⟨Nat.le_refl _, Nat.le_refl _⟩
    · exact ⟨Nat.zero_le _, Nat.zero_le _⟩
theorem sp_cnt_le {g : Nat → Int} {n : Nat} : sp_cnt g n ≤ 4 := by
  have key : ∀ (f l : Nat) (S : sp_S), sp_inv2 n S → ∀ S' l', sp_run g n f l S = .inr (S', l') → S'.2.1 ≤ 4 := by
    intro f
    induction f with
    | zero =>
      intro l S hv S' l' h
      cases h
      exact hv.1.2.2.1
    | succ f ih =>
      intro l S hv S' l' h
      have hgo := sp_line_go (g := g) hv
      unfold sp_run at h
      split at h
      · cases h
        exact hv.1.2.2.1
      · generalize sp_line g n S = RR at hgo h
        cases RR with
        | inl y =>
          have h : (Sum.inl y : (Nat × Nat) ⊕ (sp_S × Nat)) = .inr (S', l') := h
          cases h
        | inr S2 =>
          have h : sp_run g n f (l + 1) S2 = .inr (S', l') := h
          exact ih (l + 1) S2 hgo.1 S' l' h
  have hr := key 161 0 (sp_tok g n 0, 0, 0, []) sp_start
  have hcnt : sp_cnt g n = match sp_run g n 161 0 (sp_tok g n 0, 0, 0, []) with
      | .inl _ => 0
      | .inr (S, _) => S.2.1 := rfl
  rw [hcnt]
  generalize sp_run g n 161 0 (sp_tok g n 0, 0, 0, []) = RR at hr ⊢
  cases RR with
  | inl x => exact Nat.zero_le _
  | inr y => exact hr y.1 y.2 rfl
theorem sp_acn_le {g : Nat → Int} {n : Nat} : sp_acn g n ≤ 8 := by
  have key : ∀ (f l : Nat) (S : sp_S), sp_inv2 n S → ∀ S' l', sp_run g n f l S = .inr (S', l') → S'.2.2.2.length ≤ 8 := by
    intro f
    induction f with
    | zero =>
      intro l S hv S' l' h
      cases h
      exact hv.2.1.1
    | succ f ih =>
      intro l S hv S' l' h
      have hgo := sp_line_go (g := g) hv
      unfold sp_run at h
      split at h
      · cases h
        exact hv.2.1.1
      · generalize sp_line g n S = RR at hgo h
        cases RR with
        | inl y =>
          have h : (Sum.inl y : (Nat × Nat) ⊕ (sp_S × Nat)) = .inr (S', l') := h
          cases h
        | inr S2 =>
          have h : sp_run g n f (l + 1) S2 = .inr (S', l') := h
          exact ih (l + 1) S2 hgo.1 S' l' h
  have hr := key 161 0 (sp_tok g n 0, 0, 0, []) sp_start
  have hacn : sp_acn g n = match sp_run g n 161 0 (sp_tok g n 0, 0, 0, []) with
      | .inl _ => 0
      | .inr (S, _) => S.2.2.2.length := rfl
  rw [hacn]
  generalize sp_run g n 161 0 (sp_tok g n 0, 0, 0, []) = RR at hr ⊢
  cases RR with
  | inl x => exact Nat.zero_le _
  | inr y => exact hr y.1 y.2 rfl
theorem av_f0 {w0 : va_W} {r : List Int} {x : ai_s} {a b' v : Nat} {o za zb : Int} (g2 : ai_sb w0 r x.2.2.2.2.2) (ha : r[a]? = some za) (hb : r[b']? = some zb) (h : av_f x 0 a b' (some v) o = true) : ∃ zr, r[v]? = some zr ∧ za - zb = zr + o := by
  obtain ⟨q, hq, h1, h2, h3, h4, h5⟩ := av_mem h
  obtain ⟨ya, yb, yr, e1, e2, e3, e4, -⟩ := g2 q hq
  rw [h2, ha] at e1
  rw [h3, hb] at e2
  cases e1
  cases e2
  rw [h5 v rfl] at e3
  have := e4 h1
  exact ⟨yr, e3, by omega⟩
section TXA
variable {ad : List Nat} {p : Program} {l : Launch} {e : Env} {R : Room} {s : State} {m : MethodId} {args : Array Value} {below : List Frame} {meth : Method} {c : Code} {D : va_G} {tys : ai_ty} {A : Nat → Prop} {b L : Nat} {sx : Nat → Int32} {cells slots : Nat} {Q : State → Prop}
theorem tx_all (C : ai_cx tb_m48 10 p R s m args c D tys A b L sx cells slots) {ws : va_W} {g : Nat → Int} {n : Nat} (hn : n ≤ 160) (hw : ai_wd tb_TY ad tys ws) (hT : sp_tape g n ws) (h1 : vi ws 26 1 n) {lv : List (Nat × Value)} (hlv : ai_lo ad b [0] tx_lo lv)
    (ke : ∀ (ws' : va_W) (lv' : List (Nat × Value)) (z : Int32), (sp_text g n).1 ≠ 0 → ai_wd tb_TY ad tys ws' → ai_fr tx_We ws ws' → vi ws' 26 1 0 → vi ws' 0 9 (sp_text g n).1 → z.toInt = sp_ret g n → hG tb_m48 p l e R s m args below meth c D A cells slots Q 43 lv' [.int z] ws')
    (k : ∀ (ws' : va_W) (lv' : List (Nat × Value)) (z : Int32), (sp_text g n).1 = 0 → sp_cnt g n ≤ 4 → sp_acn g n ≤ 8 → ai_wd tb_TY ad tys ws' → ai_fr tx_W ws ws' → vi ws' 26 1 0 → vi ws' 0 9 (sp_text g n).1 → z.toInt = sp_ret g n → vi ws' 1 0 (sp_cnt g n) → vi ws' 1 3 (sp_acn g n) → vi ws' 34 0 0 → vi ws' 25 0 0 → vi ws' 25 1 0 → cev ws' 1 (sp_cnt g n) (ev_text g n) → (∀ i, i < sp_acn g n → vi ws' 6 i ((ev_acts g n).getD i 0)) → hG tb_m48 p l e R s m args below meth c D A cells slots Q 87 lv' [.int z] ws') : hG tb_m48 p l e R s m args below meth c D A cells slots Q 0 lv [] ws := by
  obtain ⟨xs, hx1, hx2⟩ := ai_anyE tx_r0
  have gm : ai_gm tb_TY [] ws ad b L sx tys tb_m48.2.2.2.2.1 [0, 0] tx_0 lv [] ws := by
    refine ⟨en_mk (by simp only [tx_0, en_b, and_true]; omega) rfl, sb0, lo0_ok (r := [0]) rfl rfl rfl hlv, trivial, hw, k0, fun _ _ _ _ h => h, fun h => by cases h⟩
  refine hseg (st := tx_0) hx1 rfl C gm (fun x hx r' lv1 sk' ws1 hx' g' => ?_)
  obtain ⟨g1, g2, g3, g4, hw1, g6, f1, -⟩ := g'
  have r0 : r'[0]? = some 0 := hx'.at rfl
  have hox := List.all_eq_true.mp hx2 x hx
  rw [Bool.and_eq_true, Bool.and_eq_true, ai_beq, decide_eq_true_eq, decide_eq_true_eq] at hox
  obtain ⟨p1, p2, p3⟩ := hox
  rw [p2] at g4
  obtain ⟨y, s1, rfl, dy, g4⟩ := g4.cons
  have hs1 := g4.nil
  subst hs1
  rw [p1]
  have hlv1 : ai_lo ad b [0] tx_lo lv1 := lo0_ok r0 rfl rfl (by rw [← p3]; exact g3)
  have hT1 := hT.fr hn hw1 f1 rfl rfl
  refine hcall (q := (69, 0, 25, 0, 2)) (M' := tb_m25) (cl := 26) (rets := [93]) (P := fun w => ai_wd tb_TY ad tys w ∧ ai_fr cl_W ws1 w ∧ ra_is g n w) C (by decide) (tv_m48.1.1.1 (4, .invokevirtual 69, 3) (List.mem_of_getElem? (i := 2) rfl)) (tv_m48.2 _ (List.mem_of_getElem? (i := 2) rfl)) rfl rfl rfl rfl (by decide) (by decide) rfl rfl rfl rfl hw1 (dv0 dy r0 rfl rfl) ?_ ?_ ?_
  · intro pcr hp
    rw [List.mem_singleton.mp hp]
    exact tv_m25.1.1.1 (93, .return_, 1) (List.mem_of_getElem? (i := 46) rfl)
  · intro p2 e2 R2 s2 m2 args2 below2 meth2 c2 Q2 C2 kk lv0 hlv0
    exact ra_all C2 hn hw1 hT1 (h1.fr f1 rfl) hlv0 (fun w lv2 a1 a2 a3 => kk 93 w lv2 (by decide) ⟨a1, a2, a3⟩)
  · rintro ws2 ⟨hw2, f2, v5, vF, vP, vL⟩
    have F2 : ai_fr tx_We ws ws2 := (wsub_ok (V := []) (by decide) f1).tr (wsub_ok (by decide) f2)
    obtain ⟨-, hP⟩ := sp_text_le (g := g) (n := n)
    by_cases hF : (sp_text g n).1 = 0
    · obtain ⟨vL, vC, hC4, vD, hD8, hEv, hAc⟩ := vL hF
      have hEv' := hEv
      obtain ⟨hEt, hE16, hE17⟩ := hEv
      have b16 : 0 ≤ ev_text g n 16 ∧ ev_text g n 16 ≤ 20 := vi_fd hw2 hE16 rfl rfl
      have b17 : -2147483648 ≤ ev_text g n 17 ∧ ev_text g n 17 ≤ 2147483647 := vi_fd hw2 hE17 rfl rfl
      obtain ⟨K, hK⟩ : ∃ K : Nat → Int, ∀ i, i < 4 → vi ws2 29 i (K i) ∧ -2147483648 ≤ K i ∧ K i ≤ 2147483647 := vi_rows hw2 rfl
      obtain ⟨Z, hZ⟩ : ∃ Z : Nat → Int, ∀ i, i < 4 → vi ws2 30 i (Z i) ∧ 0 ≤ Z i ∧ Z i ≤ 99 := vi_rows hw2 rfl
      obtain ⟨V, hV⟩ : ∃ V : Nat → Int, ∀ i, i < 4 → vi ws2 31 i (V i) ∧ 0 ≤ V i ∧ V i ≤ 99 := vi_rows hw2 rfl
      obtain ⟨U, hU⟩ : ∃ U : Nat → Int, ∀ i, i < 4 → vi ws2 32 i (U i) ∧ 0 ≤ U i ∧ U i ≤ 99 := vi_rows hw2 rfl
      obtain ⟨B, hB⟩ : ∃ B : Nat → Int, ∀ i, i < 8 → vi ws2 33 i (B i) ∧ -2147483648 ≤ B i ∧ B i ≤ 2147483647 := vi_rows hw2 rfl
      have bK0 := (hK 0 (by decide)).2
      have bK1 := (hK 1 (by decide)).2
      have bK2 := (hK 2 (by decide)).2
      have bK3 := (hK 3 (by decide)).2
      have bZ0 := (hZ 0 (by decide)).2
      have bZ1 := (hZ 1 (by decide)).2
      have bZ2 := (hZ 2 (by decide)).2
      have bZ3 := (hZ 3 (by decide)).2
      have bV0 := (hV 0 (by decide)).2
      have bV1 := (hV 1 (by decide)).2
      have bV2 := (hV 2 (by decide)).2
      have bV3 := (hV 3 (by decide)).2
      have bU0 := (hU 0 (by decide)).2
      have bU1 := (hU 1 (by decide)).2
      have bU2 := (hU 2 (by decide)).2
      have bU3 := (hU 3 (by decide)).2
      have bB0 := (hB 0 (by decide)).2
      have bB1 := (hB 1 (by decide)).2
      have bB2 := (hB 2 (by decide)).2
      have bB3 := (hB 3 (by decide)).2
      have bB4 := (hB 4 (by decide)).2
      have bB5 := (hB 5 (by decide)).2
      have bB6 := (hB 6 (by decide)).2
      have bB7 := (hB 7 (by decide)).2
      obtain ⟨zL, sL, eL⟩ := vL
      obtain ⟨ys, hy1, hy2⟩ := ai_anyE tx_ro
      have bL := ai_irg zL
      have gm2 : ai_gm tb_TY tx_W ws2 ad b L sx tys tb_m48.2.2.2.2.1 [0, 0, zL.toInt, ((sp_cnt g n : Nat) : Int), ((sp_acn g n : Nat) : Int), ev_text g n 16, ev_text g n 17, K 0, K 1, K 2, K 3, Z 0, Z 1, Z 2, Z 3, V 0, V 1, V 2, V 3, U 0, U 1, U 2, U 3, B 0, B 1, B 2, B 3, B 4, B 5, B 6, B 7] tx_o lv1 [] ws2 := by
        refine ⟨en_mk (by simp only [tx_o, en_b, and_true]; omega) rfl, sb0, lo0_ok (r := [0]) rfl rfl rfl hlv1, trivial, hw2, kc (v5.kn (n := 0) (t := 0) rfl (by rw [hF]; rfl)) (kc (kn1 sL (n := 2) (t := zL.toInt) rfl (by omega)) (kc (vC.kn (n := 3) (t := ((sp_cnt g n : Nat) : Int)) rfl (by omega)) (kc (vD.kn (n := 4) (t := ((sp_acn g n : Nat) : Int)) rfl (by omega)) (kc (hE16.kn (n := 5) (t := ev_text g n 16) rfl (by omega)) (kc (hE17.kn (n := 6) (t := ev_text g n 17) rfl (by omega)) (kc ((hK 0 (by decide)).1.kn (n := 7) (t := K 0) rfl (by omega)) (kc ((hK 1 (by decide)).1.kn (n := 8) (t := K 1) rfl (by omega)) (kc ((hK 2 (by decide)).1.kn (n := 9) (t := K 2) rfl (by omega)) (kc ((hK 3 (by decide)).1.kn (n := 10) (t := K 3) rfl (by omega)) (kc ((hZ 0 (by decide)).1.kn (n := 11) (t := Z 0) rfl (by omega)) (kc ((hZ 1 (by decide)).1.kn (n := 12) (t := Z 1) rfl (by omega)) (kc ((hZ 2 (by decide)).1.kn (n := 13) (t := Z 2) rfl (by omega)) (kc ((hZ 3 (by decide)).1.kn (n := 14) (t := Z 3) rfl (by omega)) (kc ((hV 0 (by decide)).1.kn (n := 15) (t := V 0) rfl (by omega)) (kc ((hV 1 (by decide)).1.kn (n := 16) (t := V 1) rfl (by omega)) (kc ((hV 2 (by decide)).1.kn (n := 17) (t := V 2) rfl (by omega)) (kc ((hV 3 (by decide)).1.kn (n := 18) (t := V 3) rfl (by omega)) (kc ((hU 0 (by decide)).1.kn (n := 19) (t := U 0) rfl (by omega)) (kc ((hU 1 (by decide)).1.kn (n := 20) (t := U 1) rfl (by omega)) (kc ((hU 2 (by decide)).1.kn (n := 21) (t := U 2) rfl (by omega)) (kc ((hU 3 (by decide)).1.kn (n := 22) (t := U 3) rfl (by omega)) (kc ((hB 0 (by decide)).1.kn (n := 23) (t := B 0) rfl (by omega)) (kc ((hB 1 (by decide)).1.kn (n := 24) (t := B 1) rfl (by omega)) (kc ((hB 2 (by decide)).1.kn (n := 25) (t := B 2) rfl (by omega)) (kc ((hB 3 (by decide)).1.kn (n := 26) (t := B 3) rfl (by omega)) (kc ((hB 4 (by decide)).1.kn (n := 27) (t := B 4) rfl (by omega)) (kc ((hB 5 (by decide)).1.kn (n := 28) (t := B 5) rfl (by omega)) (kc ((hB 6 (by decide)).1.kn (n := 29) (t := B 6) rfl (by omega)) (kc ((hB 7 (by decide)).1.kn (n := 30) (t := B 7) rfl (by omega)) k0))))))))))))))))))))))))))))), fun _ _ _ _ h => h, fun h => by cases h⟩
      refine hseg (st := tx_o) hy1 rfl C gm2 (fun x2 hx2' r2 lv3 sk2 ws3 hx3 g3' => ?_)
      obtain ⟨k1, k2, k3, k4, k5, k6, k7, k8⟩ := g3'
      have y0 : r2[0]? = some 0 := hx3.at rfl
      have y2 : r2[2]? = some zL.toInt := hx3.at rfl
      have y3 : r2[3]? = some ((sp_cnt g n : Nat) : Int) := hx3.at rfl
      have y4 : r2[4]? = some ((sp_acn g n : Nat) : Int) := hx3.at rfl
      have y5 : r2[5]? = some (ev_text g n 16) := hx3.at rfl
      have y6 : r2[6]? = some (ev_text g n 17) := hx3.at rfl
      have yK : ∀ i, i < 4 → r2[7 + i]? = some (K i) := fun i hi => by
        rcases (by omega : i = 0 ∨ i = 1 ∨ i = 2 ∨ i = 3) with rfl | rfl | rfl | rfl <;> exact hx3.at rfl
      have yZ : ∀ i, i < 4 → r2[11 + i]? = some (Z i) := fun i hi => by
        rcases (by omega : i = 0 ∨ i = 1 ∨ i = 2 ∨ i = 3) with rfl | rfl | rfl | rfl <;> exact hx3.at rfl
      have yV : ∀ i, i < 4 → r2[15 + i]? = some (V i) := fun i hi => by
        rcases (by omega : i = 0 ∨ i = 1 ∨ i = 2 ∨ i = 3) with rfl | rfl | rfl | rfl <;> exact hx3.at rfl
      have yU : ∀ i, i < 4 → r2[19 + i]? = some (U i) := fun i hi => by
        rcases (by omega : i = 0 ∨ i = 1 ∨ i = 2 ∨ i = 3) with rfl | rfl | rfl | rfl <;> exact hx3.at rfl
      have yB : ∀ i, i < 8 → r2[23 + i]? = some (B i) := fun i hi => by
        rcases (by omega : i = 0 ∨ i = 1 ∨ i = 2 ∨ i = 3 ∨ i = 4 ∨ i = 5 ∨ i = 6 ∨ i = 7) with rfl | rfl | rfl | rfl | rfl | rfl | rfl | rfl <;> exact hx3.at rfl
      have hox2 := List.all_eq_true.mp hy2 x2 hx2'
      unfold tx_ook at hox2
      simp only [Bool.and_eq_true, decide_eq_true_eq, ai_beq] at hox2
      obtain ⟨o1, o2, o3, o4, o5, o5', o6, o7, o8, o9⟩ := hox2
      rw [o4] at k4
      obtain ⟨yv, s1, rfl, dy, k4⟩ := k4.cons
      have hs1 := k4.nil
      subst hs1
      obtain ⟨z, rfl, hz⟩ := dvn dy y2
      rw [o1]
      refine k ws3 lv3 z hF hC4 hD8 k5 ((wsub_ok (by decide) F2).tr k7) (vi.lk k6 (decide_eq_true_eq.mp o2) y0 (by omega)) (vi.lk k6 o3 y0 (by rw [hF]; rfl)) ?_ (vi.lk k6 o5 y3 (by omega)) (vi.lk k6 o5' y4 (by omega)) (vi.lk k6 o6 y0 (by omega)) (vi.lk k6 o7 y0 (by omega)) (vi.lk k6 o8 y0 (by omega)) ?_ ?_
      rotate_left
      · unfold tx_rows at o9
        rw [Bool.and_eq_true, Bool.and_eq_true, Bool.and_eq_true] at o9
        obtain ⟨w1, w2, w3, w4⟩ := o9
        refine ⟨fun i hi => ?_, vi.lk k6 (decide_eq_true_eq.mp w1) y5 (by omega), vi.lk k6 (decide_eq_true_eq.mp w2) y6 (by omega)⟩
        obtain ⟨a1, a2, a3, a4⟩ := hEt i hi
        have hi4 : i < 4 := by omega
        have q := List.all_eq_true.mp w3 i (List.mem_range.mpr hi4)
        rw [Bool.and_eq_true, Bool.and_eq_true, Bool.and_eq_true] at q
        obtain ⟨q1, q2, q3, q4⟩ := q
        have e1 := a1.fun (hK i hi4).1
        have e2 := a2.fun (hZ i hi4).1
        have e3 := a3.fun (hV i hi4).1
        have e4 := a4.fun (hU i hi4).1
        exact ⟨vi.lk k6 (decide_eq_true_eq.mp q1) (yK i hi4) (by omega), vi.lk k6 (decide_eq_true_eq.mp q2) (yZ i hi4) (by omega), vi.lk k6 (decide_eq_true_eq.mp q3) (yV i hi4) (by omega), vi.lk k6 (decide_eq_true_eq.mp q4) (yU i hi4) (by omega)⟩
      · unfold tx_rows at o9
        rw [Bool.and_eq_true, Bool.and_eq_true, Bool.and_eq_true] at o9
        obtain ⟨w1, w2, w3, w4⟩ := o9
        intro i hi
        have hi8 : i < 8 := by omega
        have q := List.all_eq_true.mp w4 i (List.mem_range.mpr hi8)
        have e1 := (hAc i hi).fun (hB i hi8).1
        exact vi.lk k6 (decide_eq_true_eq.mp q) (yB i hi8) (by omega)
      unfold sp_ret
      rw [if_pos hF]
      omega
    · have vP := vP hF
      obtain ⟨ys, hy1, hy2⟩ := ai_anyE tx_re
      have gm2 : ai_gm tb_TY tx_We ws2 ad b L sx tys tb_m48.2.2.2.2.1 [0, 0, ((sp_text g n).1 : Int), ((sp_text g n).2.1 : Int)] tx_e lv1 [] ws2 := by
        refine ⟨en_mk (by simp only [tx_e, en_b, and_true]; omega) rfl, sb0, lo0_ok (r := [0]) rfl rfl rfl hlv1, trivial, hw2, kc (v5.kn (n := 2) (t := ((sp_text g n).1 : Int)) rfl (by omega)) (kc (vP.kn (n := 3) (t := ((sp_text g n).2.1 : Int)) rfl (by omega)) k0), fun _ _ _ _ h => h, fun h => by cases h⟩
      refine hseg (st := tx_e) hy1 rfl C gm2 (fun x2 hx2' r2 lv3 sk2 ws3 hx3 g3' => ?_)
      obtain ⟨k1, k2, k3, k4, k5, k6, k7, k8⟩ := g3'
      have y0 : r2[0]? = some 0 := hx3.at rfl
      have y2 : r2[2]? = some ((sp_text g n).1 : Int) := hx3.at rfl
      have y3 : r2[3]? = some ((sp_text g n).2.1 : Int) := hx3.at rfl
      have hox2 := List.all_eq_true.mp hy2 x2 hx2'
      unfold tx_eok at hox2
      rw [Bool.and_eq_true, Bool.and_eq_true, Bool.and_eq_true, ai_beq, decide_eq_true_eq] at hox2
      obtain ⟨o1, o2, o3, o4⟩ := hox2
      split at o4
      · rename_i v hst
        rw [Bool.and_eq_true, decide_eq_true_eq] at o4
        rw [hst] at k4
        obtain ⟨yv, s1, rfl, dy, k4⟩ := k4.cons
        have hs1 := k4.nil
        subst hs1
        obtain ⟨zr, w1, w2⟩ := av_f0 k2 y0 y3 o4.2
        rw [o4.1] at dy
        obtain ⟨z, rfl, hz⟩ := dvn dy w1
        rw [o1]
        refine ke ws3 lv3 z hF k5 (F2.tr k7) (vi.lk k6 (decide_eq_true_eq.mp o2) y0 (by omega)) (vi.lk k6 o3 y2 (by omega)) ?_
        unfold sp_ret
        rw [if_neg hF]
        omega
      · cases o4
end TXA
/-- behind a text with a fault: all else is as it was -/
def tx_k1 (st : ai_s) : List ai_k := (26, 1, (1, 0, 0, 0)) :: (0, 9, (1, st.2.2.2.1.length + 1, 0, 0)) :: st.2.2.2.2.1.filter (fun q => !(ai_wr tx_We q.1 q.2.1 q.2.1))
def tx_k2 (st : ai_s) : List ai_k := (26, 1, (1, 0, 0, 0)) :: (0, 9, (1, st.2.2.2.1.length + 1, 0, 0)) :: (1, 0, (1, st.2.2.2.1.length + 2, 0, 0)) :: (1, 3, (1, st.2.2.2.1.length + 3, 0, 0)) :: (34, 0, (1, 0, 0, 0)) :: (25, 0, (1, 0, 0, 0)) :: (25, 1, (1, 0, 0, 0)) :: st.2.2.2.2.1.filter (fun q => !(ai_wr tx_W q.1 q.2.1 q.2.1))
def tx_en (st : ai_s) (a b : Int) : List ai_e := ai_nu (ai_nu (ai_nu (ai_nu st.2.2.2.1 (-2147483648) 2147483647) a b) 0 4) 0 8
def tx_end (st : ai_s) (w : ai_v) (pc : Nat) (a b : Int) (kn : List ai_k) : ai_s := (pc, [], [(1, st.2.2.2.1.length, 0, 0)], tx_en st a b, kn, (499, w.2.1, w.2.1, st.2.2.2.1.length, 0) :: st.2.2.2.2.2)
def su_tx (WR : List (Nat × Nat × Nat)) (st : ai_s) : Option (List ai_s) :=
  (ai_lk st.2.2.2.2.1 26 1).bind fun w => if w.1 = 1 ∧ w.2.2.2 = 0 ∧ st.2.1 = tx_lo ∧ st.2.2.1 = [] ∧ wsub tx_W WR = true ∧ nowr WR 27 = true ∧ nowr WR 52 = true ∧ ai_z st.2.2.2.1 = true ∧ st_fact st.2.2.2.2.2 w.2.1 = true then some [tx_end st w 43 1 6 (tx_k1 st), tx_end st w 87 0 0 (tx_k2 st)] else none
/-- the fact of a text's answer -/
theorem f499 {w0 : va_W} {r : List Int} {n v N : Nat} {g : Nat → Int} (hn : r[n]? = some (N : Int)) (hN : N ≤ 160) (hv : r[v]? = some (sp_ret g N)) (hf : r[v + 1]? = some (((sp_text g N).1 : Nat) : Int)) (hc : r[v + 2]? = some ((sp_cnt g N : Nat) : Int)) (hd : r[v + 3]? = some ((sp_acn g N : Nat) : Int)) (hg : fx_tape w0 g) : ai_sb w0 r [(499, n, n, v, 0)] := fun q hq => by
  rw [List.mem_singleton.mp hq]
  refine ⟨N, N, _, hn, hn, hv, fun h => absurd (show (499 : Nat) = 0 from h) (by decide), fun h => absurd (show (499 : Nat) = 1 from h) (by decide), fun h => absurd (show (499 : Nat) = 2 from h) (by decide), fun h => absurd (show (499 : Nat) = 4 from h) (by decide), fun h => absurd (show (499 : Nat) = 5 from h) (by decide), fun _ => ⟨fun h => absurd (show (1000 : Nat) ≤ 499 from h) (by decide), fun h => absurd (show (499 : Nat) < 300 ∨ (500 ≤ 499 ∧ 499 < 1000) from h) (by decide), fun g' hg' => ⟨fun _ h => absurd (show (499 : Nat) < 305 from h) (by decide), fun _ h => absurd (show (499 : Nat) < 318 from h) (by decide), fun _ h => absurd (show (499 : Nat) < 323 from h) (by decide), fun _ _ => ?_, fun h => absurd (show (499 : Nat) = 330 from h) (by decide)⟩, fun h => absurd (show (499 : Nat) = 350 from h) (by decide)⟩⟩
  obtain ⟨c1, c2, c3, c4⟩ := sp_ret_c (g := g') (g' := g) (n := N) (fun i hi => tape_one hg' hg i hi) hN
  unfold fx_ps
  rw [if_pos rfl]
  exact ⟨N, _, _, _, _, hn, hv, hf, hc, hd, by omega, by rw [Int.toNat_natCast, c1], by rw [Int.toNat_natCast, c2], by rw [Int.toNat_natCast, c3], by rw [Int.toNat_natCast, c4]⟩
theorem r4_at {r : List Int} {a b c d : Int} {n : Nat} (h : r.length = n) : ((((r ++ [a]) ++ [b]) ++ [c]) ++ [d])[n]? = some a ∧ ((((r ++ [a]) ++ [b]) ++ [c]) ++ [d])[n + 1]? = some b ∧ ((((r ++ [a]) ++ [b]) ++ [c]) ++ [d])[n + 2]? = some c ∧ ((((r ++ [a]) ++ [b]) ++ [c]) ++ [d])[n + 3]? = some d := by
  subst h
  refine ⟨?_, ?_, ?_, ?_⟩ <;> simp
theorem su_tx_ok {WR : List (Nat × Nat × Nat)} {d : Nat} {st : ai_s} {xs : List ai_s} (hq : su_tx WR st = some xs) (h0 : st.1 = 0) (hd : 10 ≤ d) {w0 : va_W} {ad : List Nat} {p : Program} {l : Launch} {e : Env} {R : Room} {s : State} {m : MethodId} {args : Array Value} {below : List Frame} {meth : Method} {c : Code} {D : va_G} {tys : ai_ty} {A : Nat → Prop} {b L : Nat} {sx : Nat → Int32} {cells slots : Nat} {Q : State → Prop} {r0 : List Int}
    (C : ai_cx tb_m48 d p R s m args c D tys A b L sx cells slots) (k : ∀ x ∈ xs, ai_G tb_TY WR w0 ad tb_m48 p l e R s m args below meth c D tys A b L sx cells slots Q r0 x) : ai_G tb_TY WR w0 ad tb_m48 p l e R s m args below meth c D tys A b L sx cells slots Q r0 st := by
  unfold su_tx at hq
  obtain ⟨w, w1, hq⟩ := Option.bind_eq_some_iff.mp hq
  split at hq
  · rename_i hc
    obtain ⟨c1, c2, c3, c4, c5, c6, c7, c8, c9⟩ := hc
    injection hq with hq
    subst hq
    intro r lv sk ws H locs ls hx g hP hD hS hl
    obtain ⟨g1, g2, g3, g4, g5, g6, g7, g8⟩ := g
    have hsk : sk = [] := by rw [c4] at g4; exact g4.nil
    subst hsk
    rw [h0]
    obtain ⟨x1, s1, d1⟩ := ai_lk_ok g6 w1
    obtain ⟨zn, rfl⟩ : ∃ i : Int32, x1 = .int i := by
      rcases d1 with ⟨q, -⟩ | ⟨-, z, i, -, q2, -⟩ | ⟨q, -⟩ | ⟨q, -⟩ | ⟨q, -⟩
      · omega
      · exact ⟨i, q2⟩
      all_goals omega
    obtain ⟨zb, b1, b2⟩ := ai_dv1 d1 c1
    rw [c2] at b2
    have r00 : r[0]? = some 0 := ai_z_ok g1 c8
    obtain ⟨n0, n1⟩ := f267 (i := 1) g5 s1 rfl
    obtain ⟨N, hN⟩ : ∃ N : Nat, zb = (N : Int) := ⟨zb.toNat, by omega⟩
    subst hN
    obtain ⟨g0, t1, t2⟩ := st_factok g2 b1 c9
    rw [Int.toNat_natCast] at t2
    have hN160 : N ≤ 160 := by omega
    have hr1 : r.length = st.2.2.2.1.length := g1.1
    have hT : sp_tape g0 N ws := ⟨fun i hi => fr_fx (k := 27) g5 rfl g7 (nowr_ok c6 i i) (t1 i hi), fun i hi => fr_fx (k := 52) g5 rfl g7 (nowr_ok c7 i i) (t2 i hi)⟩
    have hle := (sp_text_le (g := g0) (n := N)).1
    have hx3 : ai_x r ((((r ++ [sp_ret g0 N]) ++ [(((sp_text g0 N).1 : Nat) : Int)]) ++ [((sp_cnt g0 N : Nat) : Int)]) ++ [((sp_acn g0 N : Nat) : Int)]) := ((ai_x.push.tr ai_x.push).tr ai_x.push).tr ai_x.push
    obtain ⟨q1, q2, q3, q4⟩ := r4_at (a := sp_ret g0 N) (b := (((sp_text g0 N).1 : Nat) : Int)) (c := ((sp_cnt g0 N : Nat) : Int)) (d := ((sp_acn g0 N : Nat) : Int)) hr1
    have keep : ∀ {V : List (Nat × Nat × Nat)} {ws' : va_W}, ai_fr V ws ws' → ∀ q ∈ st.2.2.2.2.1.filter (fun q => !(ai_wr V q.1 q.2.1 q.2.1)), ∃ x, ai_sl ws' q.1 q.2.1 x ∧ ai_dv ad b ((((r ++ [sp_ret g0 N]) ++ [(((sp_text g0 N).1 : Nat) : Int)]) ++ [((sp_cnt g0 N : Nat) : Int)]) ++ [((sp_acn g0 N : Nat) : Int)]) q.2.2 x := fun {V ws'} hf q hq => by
      obtain ⟨f1, f2⟩ := List.mem_filter.mp hq
      obtain ⟨x, e1, e2⟩ := g6 q f1
      exact ⟨x, hf _ _ _ (by rw [Bool.not_eq_true'] at f2; exact f2) e1, e2.mono hx3⟩
    refine tx_all (mm_cx hd C) hN160 g5 hT ⟨zn, s1, by omega⟩ (lo0_ok r00 rfl rfl (by rw [← c3]; exact g3)) (fun ws' lv' z hF hw' hf v1 v9 hz => ?_) (fun ws' lv' z hF hC4 hD8 hw' hf v1 v9 hz v10 v13 v34 v25 v251 _ _ => ?_) H locs ls hP hD hS hl
    · intro H' locs' ls' hP' hD' hS' hl'
      have bz := ai_irg z
      have hcnt : sp_cnt g0 N ≤ 4 := sp_cnt_le
      have hacn : sp_acn g0 N ≤ 8 := sp_acn_le
      refine k _ (List.mem_of_getElem? (i := 0) rfl) _ [] [.int z] ws' H' locs' ls' (hx.tr hx3) ⟨(((g1.nu (by omega) (by omega)).nu (by omega) (by omega)).nu (by omega) (by omega)).nu (by omega) (by omega), sbc (f499 (hx3.at b1) hN160 q1 q2 q3 q4 t1) (g2.mono hx3), trivial, ⟨Or.inr (Or.inl ⟨rfl, _, z, q1, rfl, by show z.toInt = sp_ret g0 N + 0; omega⟩), trivial⟩, hw', kc (v1.kn (n := 0) (t := 0) (hx3.at r00) (by omega)) (kc (v9.kn (n := st.2.2.2.1.length + 1) q2 (by omega)) (keep hf)), fun cc i x hwr hsl => wsub_ok c5 (wsub_ok (V := tx_We) (by decide) hf) cc i x hwr (g7 cc i x hwr hsl), fun h => by cases h⟩ hP' hD' hS' ⟨hl'.1, hl'.2.1, fun q hq => by cases hq⟩
    · intro H' locs' ls' hP' hD' hS' hl'
      have bz := ai_irg z
      refine k _ (List.mem_of_getElem? (i := 1) rfl) _ [] [.int z] ws' H' locs' ls' (hx.tr hx3) ⟨(((g1.nu (by omega) (by omega)).nu (by omega) (by omega)).nu (by omega) (by omega)).nu (by omega) (by omega), sbc (f499 (hx3.at b1) hN160 q1 q2 q3 q4 t1) (g2.mono hx3), trivial, ⟨Or.inr (Or.inl ⟨rfl, _, z, q1, rfl, by show z.toInt = sp_ret g0 N + 0; omega⟩), trivial⟩, hw', kc (v1.kn (n := 0) (t := 0) (hx3.at r00) (by omega)) (kc (v9.kn (n := st.2.2.2.1.length + 1) q2 (by omega)) (kc (v10.kn (n := st.2.2.2.1.length + 2) q3 (by omega)) (kc (v13.kn (n := st.2.2.2.1.length + 3) q4 (by omega)) (kc (v34.kn (n := 0) (t := 0) (hx3.at r00) (by omega)) (kc (v25.kn (n := 0) (t := 0) (hx3.at r00) (by omega)) (kc (v251.kn (n := 0) (t := 0) (hx3.at r00) (by omega)) (keep hf))))))), fun cc i x hwr hsl => wsub_ok c5 hf cc i x hwr (g7 cc i x hwr hsl), fun h => by cases h⟩ hP' hD' hS' ⟨hl'.1, hl'.2.1, fun q hq => by cases hq⟩
  · cases hq
