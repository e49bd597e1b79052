/-! the reference's readPlan is sp_plan -/
def rf_tk (ws : va_W) (t : sp_T) : Prop := (t.1 = 4 → vi ws 49 9 1 ∧ vi ws 49 10 t.2.1) ∧ (t.1 ≠ 4 → vi ws 49 9 0 ∧ vi ws 49 11 t.2.2.1 ∧ vi ws 49 12 t.2.1 ∧ vi ws 49 13 t.1 ∧ vi ws 49 14 t.2.2.2)
theorem rf_tk.fr {W : List (Nat × Nat × Nat)} {ws ws' : va_W} {t : sp_T} (h : rf_tk ws t) (hf : ai_fr W ws ws') (hw : ∀ i, 9 ≤ i → i ≤ 14 → ai_wr W 49 i i = false) : rf_tk ws' t :=
  ⟨fun c => ⟨(h.1 c).1.fr hf (hw 9 (by decide) (by decide)), (h.1 c).2.fr hf (hw 10 (by decide) (by decide))⟩, fun c => ⟨(h.2 c).1.fr hf (hw 9 (by decide) (by decide)), (h.2 c).2.1.fr hf (hw 11 (by decide) (by decide)), (h.2 c).2.2.1.fr hf (hw 12 (by decide) (by decide)), (h.2 c).2.2.2.1.fr hf (hw 13 (by decide) (by decide)), (h.2 c).2.2.2.2.fr hf (hw 14 (by decide) (by decide))⟩⟩
theorem rp_tkok {ad : List Nat} {b : Nat} {r : List Int} {ws : va_W} {x : ai_s} {kb : Nat × Nat} {t : sp_T} (g6 : ai_kn ad b r ws x.2.2.2.2.1) (r0 : r[0]? = some 0) (h : sy_is r kb t) (hx : rp_tk x kb = true) : rf_tk ws t := by
  obtain ⟨h1, h2, h3, h4⟩ := h
  unfold rp_tk at hx
  split at hx
  · rename_i hk
    rw [Bool.and_eq_true] at hx
    exact ⟨fun _ => ⟨vi.lk g6 (decide_eq_true_eq.mp hx.1) r0 (by omega), vi.lk g6 (decide_eq_true_eq.mp hx.2) h2 (by omega)⟩, fun c => absurd (h1.trans hk) c⟩
  · rename_i hk
    rw [Bool.and_eq_true, Bool.and_eq_true, Bool.and_eq_true, Bool.and_eq_true] at hx
    obtain ⟨x9, x13, x12, x11, x14⟩ := hx
    exact ⟨fun c => absurd (h1.symm.trans c) hk, fun _ => ⟨vi.lk g6 (decide_eq_true_eq.mp x9) r0 (by omega), vi.lk g6 (decide_eq_true_eq.mp x11) h3 (by omega), vi.lk g6 (decide_eq_true_eq.mp x12) h2 (by omega), vi.lk g6 (decide_eq_true_eq.mp x13) r0 (by rw [h1]; omega), vi.lk g6 (decide_eq_true_eq.mp x14) h4 (by omega)⟩⟩
theorem sp_high_b : ∀ (as : List Int) (h : Int), -1 ≤ h → h ≤ 3 → -1 ≤ as.foldl (fun h a => if a < 4 ∧ h < a then a else h) h ∧ as.foldl (fun h a => if a < 4 ∧ h < a then a else h) h ≤ 3
  | [], h, h1, h2 => ⟨h1, h2⟩
  | a :: as, h, h1, h2 => by
    show -1 ≤ as.foldl _ (if a < 4 ∧ h < a then a else h) ∧ as.foldl _ (if a < 4 ∧ h < a then a else h) ≤ 3
    split
    · exact sp_high_b as a (by omega) (by omega)
    · exact sp_high_b as h h1 h2
theorem sp_high_snoc {as : List Int} {v : Int} : sp_high (as ++ [v]) = if v < 4 ∧ sp_high as < v then v else sp_high as := by
  unfold sp_high
  rw [List.foldl_append]
  rfl
/-- the acts of the page that is read -/
def pac (ws : va_W) (as : List Int) : Prop := ∀ i, i < as.length → vi ws 51 (18 + i) (as.getD i 0)
theorem pac.fr {W : List (Nat × Nat × Nat)} {ws ws' : va_W} {as : List Int} (h : pac ws as) (hf : ai_fr W ws ws') (hw : nowr W 51 = true) : pac ws' as := fun i hi => (h i hi).fr hf (nowr_ok hw _ _)
def rp_is (g : Nat → Int) (n : Nat) (ws : va_W) (t : Nat) (bs : List Int) (q : Nat) : Prop := (t = 0 → rf_tk ws (sp_tok g n q) ∧ vi ws 49 5 (sp_high bs) ∧ vi ws 51 26 bs.length ∧ pac ws bs) ∧ (t ≠ 0 → vi ws 49 9 t ∧ vi ws 49 10 (sp_tok g n q).2.1)
section RPA
variable {ad : List Nat} {p : Program} {l : Launch} {e : Env} {R : Room} {s : State} {m : MethodId} {args : Array Value} {below : List Frame} {meth : Method} {c : Code} {D : va_G} {tys : ai_ty} {A : Nat → Prop} {b L : Nat} {sx : Nat → Int32} {cells slots : Nat} {Q : State → Prop}
theorem rp_back (C : ai_cx tb_m106 7 p R s m args c D tys A b L sx cells slots) {ws : va_W} {lv : List (Nat × Value)} {pc : Nat} (hpc : pc = 32 ∨ pc = 94) (k : hG tb_m106 p l e R s m args below meth c D A cells slots Q 0 lv [] ws) : hG tb_m106 p l e R s m args below meth c D A cells slots Q pc lv [] ws := by
  intro H locs ls hP hD hS hl
  rcases hpc with rfl | rfl
  · exact lv_goto (tgt := 0) C.1 C.2.1 (tv_m106.1.1.1 (32, .goto (-32), 3) (List.mem_of_getElem? (i := 16) rfl)) (by decide) (k H locs ls hP hD hS hl)
  · exact lv_goto (tgt := 0) C.1 C.2.1 (tv_m106.1.1.1 (94, .goto (-94), 3) (List.mem_of_getElem? (i := 53) rfl)) (by decide) (k H locs ls hP hD hS hl)
theorem rp_exb (C : ai_cx tb_m106 7 p R s m args c D tys A b L sx cells slots) {ws : va_W} {cd : Nat} (hcd : cd = 1 ∨ cd = 3 ∨ cd = 5) (hw : ai_wd tb_TY ad tys ws) (h9 : vi ws 49 9 cd) {lv : List (Nat × Value)} (hlv : ai_lo ad b [0] ms_lo lv)
    (k : ∀ (ws' : va_W) (lv' : List (Nat × Value)), ai_wd tb_TY ad tys ws' → ai_fr [] ws ws' → hG tb_m106 p l e R s m args below meth c D A cells slots Q 97 lv' [] ws') : hG tb_m106 p l e R s m args below meth c D A cells slots Q 0 lv [] ws := by
  have run : rp_x (rp_xb (cd : Int)) = true := by
    rcases hcd with rfl | rfl | rfl
    · exact rp_b1
    · exact rp_b3
    · exact rp_b5
  obtain ⟨xs, hx1, hx2⟩ := ai_anyE run
  have gm : ai_gm tb_TY [] ws ad b L sx tys tb_m106.2.2.2.2.1 [0, 0] (rp_xb (cd : Int)) lv [] ws := by
    refine ⟨en_mk (by simp only [rp_xb, en_b, and_true]; omega) rfl, sb0, lo0_ok (r := [0]) rfl rfl rfl hlv, trivial, hw, kc (h9.kn (n := 0) (t := 0) rfl (by omega)) k0, fun _ _ _ _ h => h, fun h => by cases h⟩
  refine hsegT (st := rp_xb (cd : Int)) hx1 rfl C gm (fun x hx r' lv1 sk' ws1 hx' g' => ?_)
  obtain ⟨-, -, -, g4, hw1, -, f1, -⟩ := g'
  have hox := List.all_eq_true.mp hx2 x hx
  rw [Bool.and_eq_true, ai_beq] at hox
  have hsk : sk' = [] := by
    rw [List.isEmpty_iff.mp hox.1] at g4
    exact g4.nil
  subst hsk
  rw [hox.2]
  exact k ws1 lv1 hw1 f1
theorem rp_exk (C : ai_cx tb_m106 7 p R s m args c D tys A b L sx cells slots) {ws : va_W} {cd : Nat} (hcd : cd = 0 ∨ cd = 1 ∨ cd = 3) (hw : ai_wd tb_TY ad tys ws) (h9 : vi ws 49 9 0) (h13 : vi ws 49 13 cd) {lv : List (Nat × Value)} (hlv : ai_lo ad b [0] ms_lo lv)
    (k : ∀ (ws' : va_W) (lv' : List (Nat × Value)), ai_wd tb_TY ad tys ws' → ai_fr [] ws ws' → hG tb_m106 p l e R s m args below meth c D A cells slots Q 97 lv' [] ws') : hG tb_m106 p l e R s m args below meth c D A cells slots Q 0 lv [] ws := by
  have run : rp_x (rp_xk (cd : Int)) = true := by
    rcases hcd with rfl | rfl | rfl
    · exact rp_k0
    · exact rp_k1
    · exact rp_k3
  obtain ⟨xs, hx1, hx2⟩ := ai_anyE run
  have gm : ai_gm tb_TY [] ws ad b L sx tys tb_m106.2.2.2.2.1 [0, 0] (rp_xk (cd : Int)) lv [] ws := by
    refine ⟨en_mk (by simp only [rp_xk, en_b, and_true]; omega) rfl, sb0, lo0_ok (r := [0]) rfl rfl rfl hlv, trivial, hw, kc (h9.kn (n := 0) (t := 0) rfl (by omega)) (kc (h13.kn (n := 0) (t := 0) rfl (by omega)) k0), fun _ _ _ _ h => h, fun h => by cases h⟩
  refine hsegT (st := rp_xk (cd : Int)) hx1 rfl C gm (fun x hx r' lv1 sk' ws1 hx' g' => ?_)
  obtain ⟨-, -, -, g4, hw1, -, f1, -⟩ := g'
  have hox := List.all_eq_true.mp hx2 x hx
  rw [Bool.and_eq_true, ai_beq] at hox
  have hsk : sk' = [] := by
    rw [List.isEmpty_iff.mp hox.1] at g4
    exact g4.nil
  subst hsk
  rw [hox.2]
  exact k ws1 lv1 hw1 f1
set_option maxHeartbeats 1000000 in
theorem rp_loop (C : ai_cx tb_m106 7 p R s m args c D tys A b L sx cells slots) {g : Nat → Int} {n : Nat} (hn : n ≤ 160) :
    ∀ (N : Nat) (ws : va_W) (as : List Int) (pp : Nat) (lv : List (Nat × Value)), N + as.length = 9 → ai_wd tb_TY ad tys ws → sp_tape g n ws → pp ≤ n → rf_tk ws (sp_tok g n pp) → vi ws 49 7 n → vi ws 49 5 (sp_high as) → vi ws 51 26 as.length → pac ws as → sp_acts as → ai_lo ad b [0] ms_lo lv →
    (∀ (ws' : va_W) (lv' : List (Nat × Value)) (t : Nat) (bs : List Int) (q : Nat), sp_plan g n N (sp_tok g n pp) as = (t, bs, sp_tok g n q) → ai_wd tb_TY ad tys ws' → ai_fr rp_WR ws ws' → rp_is g n ws' t bs q → hG tb_m106 p l e R s m args below meth c D A cells slots Q 97 lv' [] ws') → hG tb_m106 p l e R s m args below meth c D A cells slots Q 0 lv [] ws := by
  intro N
  induction N with
  | zero =>
    intro ws as pp lv hN hw hT hp ht h7 h5 h26 hpa ha hlv k
    have := ha.1
    omega
  | succ N ih =>
    intro ws as pp lv hN hw hT hp ht h7 h5 h26 hpa ha hlv k
    have wn : ∀ (k i : Nat), ai_wr [] k i i = false := fun _ _ => rfl
    obtain ⟨q1, q2, q3, q4, -⟩ := sp_tok_le (g := g) hp
    have hplan : sp_plan g n (N + 1) (sp_tok g n pp) as = if (sp_tok g n pp).1 = 2 then (if 8 ≤ as.length then (5, as, sp_tok g n pp) else if tp_i (sp_tok g n pp).2.2.2 0 4 = true then sp_plan g n N (sp_tok g n (sp_tok g n pp).2.2.1) (as ++ [(sp_tok g n pp).2.2.2]) else (3, as, sp_tok g n pp)) else (0, as, sp_tok g n pp) := rfl
    rw [hplan] at k
    by_cases c4 : (sp_tok g n pp).1 = 4
    · rw [if_neg (by omega)] at k
      refine rp_exb C (Or.inl rfl) hw (ht.1 c4).1 hlv (fun ws1 lv1 hw1 f1 => k ws1 lv1 0 as pp rfl hw1 (wsub_ok (by decide) f1) ⟨fun _ => ⟨ht.fr f1 (fun _ _ _ => rfl), h5.fr f1 rfl, h26.fr f1 rfl, hpa.fr f1 rfl⟩, fun h => absurd rfl h⟩)
    · obtain ⟨h9, h11, h12, h13, h14⟩ := ht.2 c4
      by_cases c2 : (sp_tok g n pp).1 = 2
      · rw [if_pos c2] at k
        obtain ⟨zv, s14, e14⟩ := h14
        have bz := ai_irg zv
        have hb := sp_high_b as (-1) (by decide) (by decide)
        have hb : -1 ≤ sp_high as ∧ sp_high as ≤ 3 := hb
        have run := List.all_eq_true.mp rp_r0 as.length (List.mem_range.mpr (by have := ha.1; omega))
        obtain ⟨xs, hx1, hx2⟩ := ai_anyE run
        have hsubm : wsub (rp_Wm as.length) rp_WR = true := by
          have hl := ha.1
          rcases (by omega : as.length = 0 ∨ as.length = 1 ∨ as.length = 2 ∨ as.length = 3 ∨ as.length = 4 ∨ as.length = 5 ∨ as.length = 6 ∨ as.length = 7 ∨ as.length = 8) with h | h | h | h | h | h | h | h | h <;> rw [h] <;> decide
        have gm : ai_gm tb_TY (rp_Wm as.length) ws ad b L sx tys tb_m106.2.2.2.2.1 [0, 0, (n : Int), ((sp_tok g n pp).2.1 : Int), ((sp_tok g n pp).2.2.1 : Int), (sp_tok g n pp).2.2.2, sp_high as] (rp_st as.length) lv [] ws := by
          refine ⟨en_mk (by simp only [rp_st, en_b, and_true]; omega) rfl, f350 rfl hT.1 hT.2, lo0_ok (r := [0]) rfl rfl rfl hlv, trivial, hw, kc (h7.kn (n := 2) (t := (n : Int)) rfl (by omega)) (kc (h12.kn (n := 3) (t := ((sp_tok g n pp).2.1 : Int)) rfl (by omega)) (kc (h11.kn (n := 4) (t := ((sp_tok g n pp).2.2.1 : Int)) rfl (by omega)) (kc (kn1 s14 (n := 5) (t := (sp_tok g n pp).2.2.2) rfl (by omega)) (kc (h9.kn (n := 0) (t := 0) rfl (by omega)) (kc (h13.kn (n := 0) (t := 0) rfl (by omega)) (kc (h5.kn (n := 6) (t := sp_high as) rfl (by omega)) (kc (h26.kn (n := 0) (t := 0) rfl (by omega)) k0))))))), fun _ _ _ _ h => h, fun h => by cases h⟩
        refine hsegT (st := rp_st as.length) hx1 rfl C gm (fun x hx r' lv1 sk' ws1 hx' g' => ?_)
        obtain ⟨g1, g2, g3, g4, hw1, g6, f0, -⟩ := g'
        have f1 : ai_fr rp_WR ws ws1 := wsub_ok hsubm f0
        have r0 : r'[0]? = some 0 := hx'.at rfl
        have r2 : r'[2]? = some (n : Int) := hx'.at rfl
        have r3 : r'[3]? = some ((sp_tok g n pp).2.1 : Int) := hx'.at rfl
        have r4 : r'[4]? = some ((sp_tok g n pp).2.2.1 : Int) := hx'.at rfl
        have r5 : r'[5]? = some (sp_tok g n pp).2.2.2 := hx'.at rfl
        have r6 : r'[6]? = some (sp_high as) := hx'.at rfl
        have hox := List.all_eq_true.mp hx2 x hx
        unfold rp_ok at hox
        rw [Bool.and_eq_true, Bool.and_eq_true, decide_eq_true_eq] at hox
        obtain ⟨hs, p0, hox⟩ := hox
        have hsk : sk' = [] := by
          rw [List.isEmpty_iff.mp hs] at g4
          exact g4.nil
        subst hsk
        split at hox
        · rename_i h8
          rw [if_pos (by omega)] at k
          rw [Bool.and_eq_true, Bool.and_eq_true, ai_beq] at hox
          obtain ⟨o1, o2, o3⟩ := hox
          have w9 : vi ws1 49 9 ((5 : Nat) : Int) := vi.lk g6 (decide_eq_true_eq.mp o2) r0 (by omega)
          have w10 : vi ws1 49 10 ((sp_tok g n pp).2.1 : Int) := vi.lk g6 (decide_eq_true_eq.mp o3) r3 (by omega)
          rw [o1]
          refine hG_this g3 p0 (fun lv2 hlv2 => rp_back C (Or.inl rfl) ?_)
          exact rp_exb C (Or.inr (Or.inr rfl)) hw1 w9 hlv2 (fun ws2 lv3 hw2 f2 => k ws2 lv3 5 as pp rfl hw2 (f1.tr (wsub_ok (by decide) f2)) ⟨fun h => absurd h (by decide), fun _ => ⟨w9.fr f2 rfl, w10.fr f2 rfl⟩⟩)
        · rename_i h8
          have hlen := ha.1
          rw [if_neg (by omega)] at k
          rw [Bool.and_eq_true, Bool.and_eq_true, ai_beq, decide_eq_true_eq] at hox
          obtain ⟨o1, o2, hox⟩ := hox
          obtain ⟨o, ho, hox⟩ := ai_anyE hox
          have hbd := sy_bd_ok g1 r5 ho
          rw [o1]
          refine hG_this g3 p0 (fun lv2 hlv2 => rp_back C (Or.inr rfl) ?_)
          split at hox
          · rename_i hoo
            have hin := hbd.mp hoo
            rw [if_pos (tp_i_iff.mpr hin)] at k
            rw [Bool.and_eq_true, Bool.and_eq_true] at hox
            obtain ⟨hhi, h18, hox⟩ := hox
            have hpa' : pac ws1 (as ++ [(sp_tok g n pp).2.2.2]) := fun i hi => by
              rw [List.length_append] at hi
              have hi : i < as.length + 1 := hi
              rw [List.getD_eq_getElem?_getD]
              by_cases hia : i < as.length
              · rw [List.getElem?_append_left hia, ← List.getD_eq_getElem?_getD]
                refine (hpa i hia).fr f0 ?_
                unfold ai_wr rp_Wm
                simp
                omega
              · have hie : i = as.length := by omega
                subst hie
                rw [List.getElem?_append_right (Nat.le_refl _), Nat.sub_self]
                exact vi.lk g6 (decide_eq_true_eq.mp h18) r5 (by show (sp_tok g n pp).2.2.2 = _; omega)
            obtain ⟨kb, hkb, hox⟩ := ai_anyE hox
            have htk := rp_tkok g6 r0 (sy_tk_ok g2 hT.1 r2 r4 hkb) hox
            have h5' : vi ws1 49 5 (sp_high (as ++ [(sp_tok g n pp).2.2.2])) := by
              rw [sp_high_snoc]
              unfold rp_hi at hhi
              rw [Bool.or_eq_true] at hhi
              rcases hhi with hhi | hhi
              · rw [Bool.and_eq_true, Bool.and_eq_true] at hhi
                obtain ⟨u1, u2, u3⟩ := hhi
                obtain ⟨e0, b1, b2, b3⟩ := ai_any g1 r5 u2
                rw [decide_eq_true_eq] at b1
                unfold rp_gt at u3
                rw [Bool.or_eq_true] at u3
                have hgt : sp_high as < (sp_tok g n pp).2.2.2 := by
                  rcases u3 with u3 | u3
                  · have := av_f5 g2 r5 r6 u3
                    omega
                  · have := av_f4 g2 r6 r5 u3
                    omega
                rw [if_pos ⟨by omega, hgt⟩]
                exact vi.lk g6 (decide_eq_true_eq.mp u1) r5 (by omega)
              · rw [Bool.and_eq_true, Bool.or_eq_true] at hhi
                obtain ⟨u1, u2⟩ := hhi
                rw [if_neg]
                · exact vi.lk g6 (decide_eq_true_eq.mp u1) r6 (by omega)
                · intro hc
                  rcases u2 with u2 | u2
                  · obtain ⟨e0, b1, b2, b3⟩ := ai_any g1 r5 u2
                    rw [decide_eq_true_eq] at b1
                    omega
                  · unfold rp_le at u2
                    rw [Bool.or_eq_true] at u2
                    rcases u2 with u2 | u2
                    · have := av_f4 g2 r5 r6 u2
                      omega
                    · have := av_f5 g2 r6 r5 u2
                      omega
            refine ih ws1 (as ++ [(sp_tok g n pp).2.2.2]) (sp_tok g n pp).2.2.1 lv2 (by rw [List.length_append]; show N + (as.length + 1) = 9; omega) hw1 (hT.fr hn hw1 f1 (by decide) (by decide)) q3 htk (h7.fr f1 (by decide)) h5' (vi.lk g6 o2 r0 (by rw [List.length_append]; show ((as.length + 1 : Nat) : Int) = _; omega)) hpa' ⟨by rw [List.length_append]; show as.length + 1 ≤ 8; omega, fun a h => by
              rcases List.mem_append.mp h with h | h
              · exact ha.2 a h
              · rw [List.mem_singleton.mp h]; exact hin⟩ hlv2 (fun ws2 lv3 t bs q e1 e2 e3 e4 => k ws2 lv3 t bs q e1 e2 (f1.tr e3) e4)
          · rename_i hoo
            rw [if_neg (fun hc => hoo (hbd.mpr (tp_i_iff.mp hc)))] at k
            rw [Bool.and_eq_true] at hox
            have w9 : vi ws1 49 9 ((3 : Nat) : Int) := vi.lk g6 (decide_eq_true_eq.mp hox.1) r0 (by omega)
            have w10 : vi ws1 49 10 ((sp_tok g n pp).2.1 : Int) := vi.lk g6 (decide_eq_true_eq.mp hox.2) r3 (by omega)
            exact rp_exb C (Or.inr (Or.inl rfl)) hw1 w9 hlv2 (fun ws2 lv3 hw2 f2 => k ws2 lv3 3 as pp rfl hw2 (f1.tr (wsub_ok (by decide) f2)) ⟨fun h => absurd h (by decide), fun _ => ⟨w9.fr f2 rfl, w10.fr f2 rfl⟩⟩)
      · rw [if_neg c2] at k
        refine rp_exk C (show (sp_tok g n pp).1 = 0 ∨ (sp_tok g n pp).1 = 1 ∨ (sp_tok g n pp).1 = 3 by omega) hw h9 h13 hlv (fun ws1 lv1 hw1 f1 => k ws1 lv1 0 as pp rfl hw1 (wsub_ok (by decide) f1) ⟨fun _ => ⟨ht.fr f1 (fun _ _ _ => rfl), h5.fr f1 rfl, h26.fr f1 rfl, hpa.fr f1 rfl⟩, fun h => absurd rfl h⟩)
end RPA
