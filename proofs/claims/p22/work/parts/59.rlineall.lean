/-! every line of the reference -/
section RLA
variable {ad : List Nat} {p : Program} {l : Launch} {e : Env} {R : Room} {s : State} {m : MethodId} {args : Array Value} {below : List Frame} {meth : Method} {c : Code} {D : va_G} {tys : ai_ty} {A : Nat → Prop} {b L : Nat} {sx : Nat → Int32} {cells slots : Nat} {Q : State → Prop}
theorem rl_O' {ws : va_W} {r : List Int} {x : ai_s} {T : Nat} (g1 : ai_ok r x.2.2.2.1) (g6 : ai_kn ad b r ws x.2.2.2.2.1) (h : ((ai_lk x.2.2.2.2.1 49 4).any fun v => decide (v = (1, v.2.1, 0, v.2.2.2)) && (x.2.2.2.1[v.2.1]?).any fun e => decide ((T : Int) ≤ e.1 + v.2.2.2) && decide (e.2.1 + v.2.2.2 ≤ (T : Int) + 15)) = true) : ∃ O : Nat, vi ws 49 4 O ∧ T ≤ O ∧ O ≤ T + 15 := by
  obtain ⟨v, l4, h⟩ := ai_anyE h
  rw [Bool.and_eq_true, decide_eq_true_eq] at h
  obtain ⟨ev, h⟩ := h
  obtain ⟨x1, s1, d1⟩ := ai_lk_ok g6 l4
  rw [ev] at d1
  rcases d1 with ⟨q, -⟩ | ⟨-, z, i, q1, rfl, q3⟩ | ⟨q, -⟩ | ⟨q, -⟩ | ⟨q, -⟩
  · exact absurd (id q : (1 : Nat) = 0) (by decide)
  · have q1 : r[v.2.1]? = some z := q1
    have q3 : i.toInt = z + v.2.2.2 := q3
    obtain ⟨e0, b1, b2, b3⟩ := ai_any g1 q1 h
    rw [Bool.and_eq_true, decide_eq_true_eq, decide_eq_true_eq] at b1
    exact ⟨i.toInt.toNat, ⟨i, s1, by omega⟩, by omega, by omega⟩
  · exact absurd (id q : (1 : Nat) = 2) (by decide)
  · exact absurd (id q : (1 : Nat) = 3) (by decide)
  · exact absurd (id q : (1 : Nat) = 4) (by decide)
set_option maxHeartbeats 4000000 in
theorem rf_line (C : ai_cx tb_m108 9 p R s m args c D tys A b L sx cells slots) {ws : va_W} {g : Nat → Int} {n : Nat} {S : sp_S} {E : Nat → Int} (hn : n ≤ 160) (hw : ai_wd tb_TY ad tys ws) (hT : sp_tape g n ws) (hi : rf_is n ws S) (hE : rev ws E) (hz0 : S.2.1 < 4 → E (8 + S.2.1) = 0 ∧ E (12 + S.2.1) = 0) (hv : sp_inv2 n S) (h4 : S.1.1 ≠ 4) (h0 : S.1.1 ≠ 0) {lv : List (Nat × Value)} (hlv : ai_lo ad b [0] ms_lo lv)
    (k1 : ∀ (pcr : Nat) (ws' : va_W) (lv' : List (Nat × Value)) (c1 P : Nat), pcr ∈ [22, 86, 175] → ai_wd tb_TY ad tys ws' → ai_fr rl_W ws ws' → sp_line g n S = .inl (c1, P) → vi ws' 49 9 c1 → vi ws' 49 10 P → hG tb_m108 p l e R s m args below meth c D A cells slots Q pcr lv' [] ws')
    (k2 : ∀ (ws' : va_W) (lv' : List (Nat × Value)) (S' : sp_S), ai_wd tb_TY ad tys ws' → ai_fr rl_W ws ws' → sp_line g n S = .inr S' → rf_is n ws' S' → rev ws' (ev_line g n S E) → hG tb_m108 p l e R s m args below meth c D A cells slots Q 175 lv' [] ws') : hG tb_m108 p l e R s m args below meth c D A cells slots Q 0 lv [] ws := by
  have hv' := hv
  obtain ⟨⟨⟨j, hj, hj2⟩, v1, v2, v3, v4, v5⟩, a1, a2⟩ := hv
  obtain ⟨h7, htk, h3, ⟨O, hO, hO1, hO2⟩, h5, h26, hpa⟩ := hi
  obtain ⟨e1t, e2t, e3t, e4t, -⟩ := sp_tok_le (g := g) v5
  have hF0 : ai_fr rl_W ws ws := fun _ _ _ _ h => h
  -- errors told at once
  have errs : ∀ {W : List (Nat × Nat × Nat)} {st : ai_s} {r : List Int} {pcs : List Nat} {cd : Nat}, ((ai_ex (hkT W) 300 108 tb_m108 9 [87] st).any fun xs => xs.all fun x => rl_err x pcs cd 3) = true → st.1 = 0 → ai_gm tb_TY W ws ad b L sx tys tb_m108.2.2.2.2.1 r st lv [] ws → wsub W rl_W = true → (∀ q ∈ pcs, q ∈ [22, 86, 175]) → r[0]? = some 0 → r[3]? = some (S.1.2.1 : Int) → sp_line g n S = .inl (cd, S.1.2.1) → hG tb_m108 p l e R s m args below meth c D A cells slots Q 0 lv [] ws := by
    intro W st r pcs cd hrun hst gm hsub hpcs q0 q3 hline
    obtain ⟨xs, hx1, hx2⟩ := ai_anyE hrun
    rw [← hst]
    refine hsegT (st := st) hx1 rfl C gm (fun x hx r' lv' sk' ws' hx' g' => ?_)
    obtain ⟨g1, g2, g3, g4, g5, g6, g7, g8⟩ := g'
    obtain ⟨u1, rfl, u3, u4⟩ := rl_errok g4 g6 (hx'.at q0) (hx'.at q3) (List.all_eq_true.mp hx2 x hx)
    exact k1 x.1 ws' lv' cd S.1.2.1 (hpcs _ u1) g5 (wsub_ok hsub g7) hline u3 u4
  by_cases hk : S.1.1 = 1
  · have hline : sp_line g n S = sp_word1 g n (sp_word g S.1.2.1 S.1.2.2.1) S := by
      unfold sp_line
      rw [if_pos hk]
    have hw7 : sp_word g S.1.2.1 S.1.2.2.1 ≤ 7 := by rw [sp_word_P]; exact sp_P_le
    generalize hwd : sp_word g S.1.2.1 S.1.2.2.1 = w at hline hw7
    -- behind the word: at 87 with the next token, or broken by it
    have at87 : ∀ {T' : Nat} {r' : List Int} {x : ai_s} {lv' : List (Nat × Value)} {sk' : List Value} {ws' : va_W} {wv : ai_v}, rl_87 x T' wv = true → ai_ok r' x.2.2.2.1 → ai_sb ws r' x.2.2.2.2.2 → ai_lo ad b r' x.2.1 lv' → ai_sk ad b r' x.2.2.1 sk' → ai_wd tb_TY ad tys ws' → ai_kn ad b r' ws' x.2.2.2.2.1 → ai_fr rl_WA ws ws' → r'[0]? = some 0 → r'[2]? = some (n : Int) → r'[4]? = some (S.1.2.2.1 : Int) →
        ((sp_tok g n S.1.2.2.1).1 = 4 → sp_line g n S = .inl (1, (sp_tok g n S.1.2.2.1).2.1)) →
        ((sp_tok g n S.1.2.2.1).1 ≠ 4 → x.1 = 87 → sk' = [] → rf_tk ws' (sp_tok g n S.1.2.2.1) → ai_get x.2.1 0 = some (0, 49, 0, 0) → ai_get x.2.1 1 = some wv → (∃ O : Nat, vi ws' 49 4 O ∧ T' ≤ O ∧ O ≤ T' + 15) → hG tb_m108 p l e R s m args below meth c D A cells slots Q 87 lv' [] ws') → hG tb_m108 p l e R s m args below meth c D A cells slots Q x.1 lv' sk' ws' := by
      intro T' r' x lv' sk' ws' wv hx g1 g2 g3 g4 g5 g6 g7 q0 q2 q4 hb hgo
      obtain ⟨kb, hkb, hx⟩ := ai_anyE hx
      have his := sy_tk_ok (N := n) (P := S.1.2.2.1) g2 hT.1 q2 q4 hkb
      split at hx
      · rename_i hk4
        obtain ⟨u1, rfl, u3, u4⟩ := rl_errok g4 g6 q0 his.2.1 hx
        exact k1 x.1 ws' lv' 1 _ (by rw [List.mem_singleton.mp u1]; decide) g5 (wsub_ok (by decide) g7) (hb (his.1.trans hk4)) u3 u4
      · rename_i hk4
        rw [Bool.and_eq_true, Bool.and_eq_true, Bool.and_eq_true, Bool.and_eq_true, Bool.and_eq_true, ai_beq, decide_eq_true_eq] at hx
        obtain ⟨o1, o2, o3, o4, o5, o6⟩ := hx
        have hsk : sk' = [] := by
          rw [List.isEmpty_iff.mp o2] at g4
          exact g4.nil
        subst hsk
        rw [o1]
        exact hgo (fun hc => hk4 (his.1.symm.trans hc)) o1 rfl (rp_tkok g6 q0 his o3) (decide_eq_true_eq.mp o4) o5 (rl_O' g1 g6 o6)
    by_cases w7 : w = 7
    · subst w7
      refine errs (r := [0, 0, (n : Int), (S.1.2.1 : Int), (S.1.2.2.1 : Int)]) rl_7r rfl ⟨en_mk (by simp only [rl_7, rl_e, en_b, and_true]; omega) rfl, sbc (fword (w := 7) rfl rfl ⟨_, rfl⟩ hT.1 (by omega) (by decide) hwd) (cl_sb hT v5 rfl rfl), lo0_ok (r := [0]) rfl rfl rfl hlv, trivial, hw, rl_kn h7 htk h4 rfl rfl rfl rfl (by omega), fun _ _ _ _ h => h, fun h => by cases h⟩ (by decide) (by decide) rfl rfl hline
    · by_cases w4 : w < 4
      · by_cases ht4 : S.2.1 = 4
        · have run : rl_fr S.2.2.1 = true := by
            have := List.all_eq_true.mp rl_fr8 j (List.mem_range.mpr hj)
            rw [← hj2] at this
            exact this
          refine errs (st := rl_f S.2.2.1) (r := [0, 0, (n : Int), (S.1.2.1 : Int), (S.1.2.2.1 : Int), ((O - S.2.2.1 : Nat) : Int), (w : Int)]) run rfl ⟨en_mk (by simp only [rl_f, rl_e, List.cons_append, List.nil_append, en_b, and_true]; omega) rfl, sbc (fword (w := 0) rfl rfl ⟨_, rfl⟩ hT.1 (by omega) (by decide) (by rw [if_pos rfl, hwd]; exact ⟨rfl, w4⟩)) (cl_sb hT v5 rfl rfl), lo0_ok (r := [0]) rfl rfl rfl hlv, trivial, hw, kc (hO.kn (n := 5) (t := ((O - S.2.2.1 : Nat) : Int)) rfl (by omega)) (kc (h3.kn (n := 0) (t := 0) rfl (by omega)) (rl_kn h7 htk h4 rfl rfl rfl rfl (by omega))), fun _ _ _ _ h => h, fun h => by cases h⟩ (by decide) (by decide) rfl rfl ?_
          rw [hline]
          unfold sp_word1
          rw [if_neg w7, if_pos w4, if_pos (by omega)]
        · have hl2 : sp_line g n S = sp_t1 g n S.2.1 S.2.2.1 S.2.2.2 (sp_tok g n S.1.2.2.1) := by
            rw [hline]
            unfold sp_word1
            rw [if_neg w7, if_pos w4, if_neg (by omega)]
          have run : rl_Tr S.2.2.1 = true := by
            have := List.all_eq_true.mp rl_Tr8 j (List.mem_range.mpr hj)
            rw [← hj2] at this
            exact this
          obtain ⟨xs, hx1, hx2⟩ := ai_anyE run
          refine hsegT (st := rl_T S.2.2.1) (r := [0, 0, (n : Int), (S.1.2.1 : Int), (S.1.2.2.1 : Int), ((O - S.2.2.1 : Nat) : Int), (w : Int), (S.2.1 : Int)]) hx1 rfl C ⟨en_mk (by simp only [rl_T, rl_e, List.cons_append, List.nil_append, en_b, and_true]; omega) rfl, sbc (fword (w := 0) rfl rfl ⟨_, rfl⟩ hT.1 (by omega) (by decide) (by rw [if_pos rfl, hwd]; exact ⟨rfl, w4⟩)) (cl_sb hT v5 rfl rfl), lo0_ok (r := [0]) rfl rfl rfl hlv, trivial, hw, kc (hO.kn (n := 5) (t := ((O - S.2.2.1 : Nat) : Int)) rfl (by omega)) (kc (h3.kn (n := 7) (t := (S.2.1 : Int)) rfl (by omega)) (rl_kn h7 htk h4 rfl rfl rfl rfl (by omega))), fun _ _ _ _ h => h, fun h => by cases h⟩ (fun x hx r' lv' sk' ws' hx' g' => ?_)
          obtain ⟨g1, g2, g3, g4, g5, g6, g7, g8⟩ := g'
          refine at87 (List.all_eq_true.mp hx2 x hx) g1 g2 g3 g4 g5 g6 g7 (hx'.at rfl) (hx'.at rfl) (hx'.at rfl) (fun hc => ?_) (fun hc hpc hsk ht1 q0 q1 hO' => ?_)
          · rw [hl2]
            unfold sp_t1
            rw [if_neg (by omega), hc]
            rfl
          · obtain ⟨O2, hOa, hOb, hOc⟩ := hO'
            refine hG_jv g3 (hx'.at rfl) q0 q1 (z := (w : Int)) (t := (w : Int)) (hx'.at rfl) (by omega) (fun lv2 hlv2 => ?_)
            have run2 : rl_BTr S.2.1 (sp_tok g n S.1.2.2.1).1 = true := by
              have : S.2.1 = 0 ∨ S.2.1 = 1 ∨ S.2.1 = 2 ∨ S.2.1 = 3 := by omega
              have hm : (sp_tok g n S.1.2.2.1).1 ∈ List.range 4 := List.mem_range.mpr (by omega)
              rcases this with h | h | h | h <;> rw [h]
              · exact List.all_eq_true.mp rl_BT0 _ hm
              · exact List.all_eq_true.mp rl_BT1 _ hm
              · exact List.all_eq_true.mp rl_BT2 _ hm
              · exact List.all_eq_true.mp rl_BT3 _ hm
            obtain ⟨ys, hy1, hy2⟩ := ai_anyE run2
            have hT1 := hT.fr hn g5 g7 (by decide) (by decide)
            obtain ⟨t9, t11, t12, t13, zv, s14, e14⟩ := ht1.2 hc
            have bz := ai_irg zv
            have F1 : ai_fr rl_W ws ws' := wsub_ok (by decide) g7
            have ht4' : S.2.1 < 4 := by omega
            obtain ⟨z8, z12⟩ := hz0 ht4'
            have hE1 : rev ws' E := hE.fr g7 (fun j _ => nowr_ok (by decide) j j)
            have v8 := hE1.1 (8 + S.2.1) (by omega)
            have v12 := hE1.1 (12 + S.2.1) (by omega)
            rw [z8] at v8
            rw [z12] at v12
            have hsubT : wsub (rl_WT S.2.1) rl_W = true := by
              rcases (by omega : S.2.1 = 0 ∨ S.2.1 = 1 ∨ S.2.1 = 2 ∨ S.2.1 = 3) with h | h | h | h <;> rw [h] <;> decide
            refine hsegT (st := rl_BT S.2.1 (sp_tok g n S.1.2.2.1).1) (r := [0, 0, (n : Int), ((sp_tok g n S.1.2.2.1).2.1 : Int), ((sp_tok g n S.1.2.2.1).2.2.1 : Int), (sp_tok g n S.1.2.2.1).2.2.2, (w : Int)]) hy1 rfl C ⟨en_mk (by simp only [rl_BT, rl_eB, rl_e, List.cons_append, List.nil_append, en_b, and_true]; omega) rfl, f350 rfl hT1.1 hT1.2, hlv2.lo rfl rfl (by omega), trivial, g5, kc (v8.kn (n := 0) (t := 0) rfl (by omega)) (kc (v12.kn (n := 0) (t := 0) rfl (by omega)) (kc ((h3.fr g7 (by decide)).kn (n := 0) (t := 0) rfl (by omega)) (kc (kn1 s14 (n := 5) (t := (sp_tok g n S.1.2.2.1).2.2.2) rfl (by omega)) (rl_kn (h7.fr g7 (by decide)) ht1 hc rfl rfl rfl rfl rfl)))), fun _ _ _ _ h => h, fun h => by cases h⟩ (fun x2 hx2' r2 lv3 sk2 ws2 hx3 g3' => ?_)
            obtain ⟨m1, m2, m3, m4, m5, m6, m7, m8⟩ := g3'
            have hox := List.all_eq_true.mp hy2 x2 hx2'
            rw [Bool.and_eq_true, Bool.and_eq_true, Bool.and_eq_true, ai_beq] at hox
            obtain ⟨o1, o2, o3, o4⟩ := hox
            have hsk2 : sk2 = [] := by
              rw [List.isEmpty_iff.mp o2] at m4
              exact m4.nil
            subst hsk2
            obtain ⟨y, hy, hres⟩ := ai_anyE o4
            have F2 : ai_fr rl_W ws ws2 := F1.tr (wsub_ok hsubT m7)
            rw [Bool.and_eq_true, Bool.or_eq_true] at hres
            rw [o1]
            refine hG_this m3 (decide_eq_true_eq.mp o3) (fun lv4 hlv4 => rl_171 C hn m5 (hT.fr hn m5 F2 (by decide) (by decide)) F2 hv' ?_ hlv4 k1 k2)
            refine rl_resok (t' := S.2.1 + 1) (T' := S.2.2.1) (as' := S.2.2.2) m6 (hx3.at rfl) ?_ hres.1 ((h7.fr g7 (by decide)).fr m7 rfl) (Or.inl (by congr 1)) (hOa.fr m7 rfl) hOb hOc ((h5.fr g7 (by decide)).fr m7 rfl) ((h26.fr g7 (by decide)).fr m7 (by unfold ai_wr rl_WT; simp; omega)) (fun i hi => ((hpa i hi).fr g7 (nowr_ok (by decide) _ _)).fr m7 (by unfold ai_wr rl_WT; simp; omega)) (fun bb hbb => ?_)
            rotate_left
            · subst hbb
              have hs : sy_ev1 x2 2 ((sp_tok g n S.1.2.2.1).1, 3) (1, 6, 0, 0) (51, S.2.1) (51, 4 + S.2.1) (51, 8 + S.2.1) (51, 12 + S.2.1) = true := by
                rcases hres.2 with h | h
                · cases h
                · exact h
              obtain ⟨u1, u2, u3, u4⟩ := sy_ev1_ok (g := g) (N := n) (T := sp_tok g n S.1.2.2.1) (W := (w : Int)) m2 m6 hT1.1 (hx3.at rfl) (hx3.at rfl) ⟨rfl, hx3.at rfl, hx3.at rfl, hx3.at rfl⟩ (hx3.at rfl) hs
              have hel : ev_line g n S E = ev_test E S.2.1 (w : Int) (sp_tok g n S.1.2.2.1).2.2.2 (ev_m g n (sp_tok g n S.1.2.2.1)) (ev_p g n (sp_tok g n S.1.2.2.1)) := by
                unfold ev_line ev_word
                rw [hwd, if_pos w4]
              rw [hel]
              exact rev_test ht4' hE1 m7 (fun j hj j1 j2 j3 j4 => by
                unfold ai_wr rl_WT
                simp
                omega) u1 u2 u3 u4
            rw [hl2]
            exact sy_t1_ok m1 m2 hT1.1 (hx3.at rfl) ⟨rfl, hx3.at rfl, hx3.at rfl, hx3.at rfl⟩ hy
      · -- once: guest, laughs, plan
        have hmem : (sp_tok g n S.1.2.2.1).1 ≤ 4 := e4t
        have run : rl_Or w S.2.2.1 = true := by
          have hw456 : w = 4 ∨ w = 5 ∨ w = 6 := by omega
          rcases hw456 with rfl | rfl | rfl
          · have := List.all_eq_true.mp rl_O4 j (List.mem_range.mpr hj)
            rw [← hj2] at this
            exact this
          · have := List.all_eq_true.mp rl_O5 j (List.mem_range.mpr hj)
            rw [← hj2] at this
            exact this
          · have := List.all_eq_true.mp rl_O6 j (List.mem_range.mpr hj)
            rw [← hj2] at this
            exact this
        obtain ⟨xs, hx1, hx2⟩ := ai_anyE run
        refine hsegT (st := rl_O w S.2.2.1) (r := [0, 0, (n : Int), (S.1.2.1 : Int), (S.1.2.2.1 : Int), ((O - S.2.2.1 : Nat) : Int)]) hx1 rfl C ⟨en_mk (by simp only [rl_O, rl_e, List.cons_append, List.nil_append, en_b, and_true]; omega) rfl, sbc (fword (w := w) rfl rfl ⟨_, rfl⟩ hT.1 (by omega) (by omega) (by rw [if_neg (by omega)]; exact hwd)) (cl_sb hT v5 rfl rfl), lo0_ok (r := [0]) rfl rfl rfl hlv, trivial, hw, kc (hO.kn (n := 5) (t := ((O - S.2.2.1 : Nat) : Int)) rfl (by omega)) (rl_kn h7 htk h4 rfl rfl rfl rfl (by omega)), fun _ _ _ _ h => h, fun h => by cases h⟩ (fun x hx r' lv' sk' ws' hx' g' => ?_)
        obtain ⟨g1, g2, g3, g4, g5, g6, g7, g8⟩ := g'
        have hox := List.all_eq_true.mp hx2 x hx
        have F1 : ai_fr rl_W ws ws' := wsub_ok (by decide) g7
        split at hox
        · rename_i hbit
          obtain ⟨u1, rfl, u3, u4⟩ := rl_errok g4 g6 (hx'.at rfl) (P := (S.1.2.1 : Int)) (hx'.at rfl) hox
          refine k1 x.1 ws' lv' 4 S.1.2.1 (by rw [List.mem_singleton.mp u1]; decide) g5 F1 ?_ u3 u4
          rw [hline]
          unfold sp_word1
          rw [if_neg w7, if_neg w4, if_pos hbit]
        · rename_i hbit
          by_cases w6 : w = 6
          · subst w6
            have has : S.2.2.2 = [] := v1 (by omega)
            obtain ⟨t, q, bs, pe1, pe2, pe3, pe4, pe5⟩ := sp_plan_go (g := g) 9 S.1.2.2.1 [] v5 ⟨Nat.zero_le _, fun a h => by cases h⟩
            have hl2 : sp_line g n S = sp_p1 g n S.2.1 (S.2.2.1 + 2 ^ 6) (t, bs, sp_tok g n q) := by
              rw [hline]
              unfold sp_word1
              rw [if_neg w7, if_neg w4, if_neg hbit, if_pos rfl, pe1]
            refine at87 hox g1 g2 g3 g4 g5 g6 g7 (hx'.at rfl) (hx'.at rfl) (hx'.at rfl) (fun hc => ?_) (fun hc hpc hsk ht1 q0 q1 hO' => ?_)
            · have : sp_plan g n 9 (sp_tok g n S.1.2.2.1) [] = (0, [], sp_tok g n S.1.2.2.1) := by
                show (if (sp_tok g n S.1.2.2.1).1 = 2 then _ else (0, [], sp_tok g n S.1.2.2.1)) = _
                rw [if_neg (by omega)]
              rw [hl2, ← pe1, this]
              show sp_stop g n S.2.1 (S.2.2.1 + 2 ^ 6) [] (sp_tok g n S.1.2.2.1) = _
              unfold sp_stop
              rw [if_neg (by omega), hc]
              rfl
            · obtain ⟨O2, hOa, hOb, hOc⟩ := hO'
              refine hG_this2 g3 (hx'.at rfl) q0 q1 (fun lv2 hlv2 => ?_)
              obtain ⟨ys, hy1, hy2⟩ := ai_anyE rl_BPr
              refine hseg (st := rl_BP) (r := [0, 0]) hy1 rfl C ⟨en_mk (by simp only [rl_BP, en_b, and_true]; omega) rfl, sb0, lo0_ok (r := [0]) rfl rfl rfl hlv2, trivial, g5, k0, fun _ _ _ _ h => h, fun h => by cases h⟩ (fun x2 hx2' r2 lv3 sk2 ws2 hx3 g3' => ?_)
              obtain ⟨m1, m2, m3, m4, m5, m6, m7, m8⟩ := g3'
              have y0 : r2[0]? = some 0 := hx3.at rfl
              have hox2 := List.all_eq_true.mp hy2 x2 hx2'
              rw [Bool.and_eq_true, Bool.and_eq_true, ai_beq, decide_eq_true_eq] at hox2
              obtain ⟨o1, o2, o3⟩ := hox2
              rw [o2] at m4
              obtain ⟨yv, s1, rfl, dy, m4⟩ := m4.cons
              have hs1 := m4.nil
              subst hs1
              rw [o1]
              have F2 : ai_fr rl_W ws ws2 := F1.tr (wsub_ok (by decide) m7)
              have hT2 := hT.fr hn m5 F2 (by decide) (by decide)
              have h7' : vi ws2 49 7 n := (h7.fr g7 (by decide)).fr m7 rfl
              refine hG_this m3 (decide_eq_true_eq.mp o3) (fun lv4 hlv4 => ?_)
              refine hcall (q := (110, 0, 106, 0, 6)) (M' := tb_m106) (cl := 49) (rets := [97]) (P := fun w => ai_wd tb_TY ad tys w ∧ ai_fr rp_WR ws2 w ∧ rp_is g n w t bs q) C (by decide) (tv_m108.1.1.1 (148, .invokevirtual 110, 3) (List.mem_of_getElem? (i := 85) rfl)) (tv_m108.2 _ (List.mem_of_getElem? (i := 7) rfl)) rfl rfl rfl rfl (by decide) (by decide) rfl rfl rfl rfl m5 (dv0 dy y0 rfl rfl) ?_ ?_ ?_
              · intro pcr hp
                rw [List.mem_singleton.mp hp]
                exact tv_m106.1.1.1 (97, .return_, 1) (List.mem_of_getElem? (i := 54) rfl)
              · intro p2 e2 R2 s2 m2 args2 below2 meth2 c2 Q2 C2 kk lv0 hlv0
                refine rp_loop (mm_cx (by decide) C2) hn 9 ws2 [] S.1.2.2.1 lv0 rfl m5 hT2 v5 (ht1.fr m7 (fun _ _ _ => rfl)) h7' (by have := (h5.fr g7 (by decide)).fr m7 rfl; rw [has] at this; exact this) (by have := (h26.fr g7 (by decide)).fr m7 rfl; rw [has] at this; exact this) (fun i hi => absurd hi (Nat.not_lt_zero _)) ⟨Nat.zero_le _, fun a h => by cases h⟩ hlv0 (fun w lv5 t' bs' q' a1 a2 a3 a4 => ?_)
                rw [pe1] at a1
                have a5 : t = t' ∧ bs = bs' ∧ sp_tok g n q = sp_tok g n q' := by
                  injection a1 with b1 b2
                  injection b2 with b3 b4
                  exact ⟨b1, b3, b4⟩
                obtain ⟨rfl, rfl, a6⟩ := a5
                refine kk 97 w lv5 (by decide) ⟨a2, a3, ?_⟩
                unfold rp_is at a4 ⊢
                rw [a6]
                exact a4
              · rintro ws3 ⟨hw3, f3, hr⟩
                have F3 : ai_fr rl_W ws ws3 := F2.tr (wsub_ok (by decide) f3)
                have hT3 := hT.fr hn hw3 F3 (by decide) (by decide)
                have h7'' : vi ws3 49 7 n := h7'.fr f3 (by decide)
                have h3'' : vi ws3 49 3 S.2.1 := ((h3.fr g7 (by decide)).fr m7 rfl).fr f3 (by decide)
                have hO'' : vi ws3 49 4 O2 := (hOa.fr m7 rfl).fr f3 (by decide)
                obtain ⟨z1, z2, z3, z4, -⟩ := sp_tok_le (g := g) pe3
                -- broken: to 171 with the fault
                have bro : ∀ {cd : Nat}, (cd = 1 ∨ cd = 3 ∨ cd = 5) → vi ws3 49 9 cd → vi ws3 49 10 (sp_tok g n q).2.1 → sp_line g n S = .inl (cd, (sp_tok g n q).2.1) → hG tb_m108 p l e R s m args below meth c D A cells slots Q 151 lv4 [] ws3 := by
                  intro cd hcd b9 b10 hl3
                  have run3 : rl_Cbr cd = true := by
                    rcases hcd with rfl | rfl | rfl
                    · exact rl_Cb1
                    · exact rl_Cb3
                    · exact rl_Cb5
                  obtain ⟨zs, hz1, hz2⟩ := ai_anyE run3
                  refine hseg (st := rl_Cb (cd : Int)) (r := [0, 0]) hz1 rfl C ⟨en_mk (by simp only [rl_Cb, en_b, and_true]; omega) rfl, sb0, lo0_ok (r := [0]) rfl rfl rfl hlv4, trivial, hw3, kc (b9.kn (n := 0) (t := 0) rfl (by omega)) k0, fun _ _ _ _ h => h, fun h => by cases h⟩ (fun x4 hx4 r4 lv5 sk4 ws4 hx4' g4' => ?_)
                  obtain ⟨-, -, w3, w4', w5, -, w7', -⟩ := g4'
                  have hox4 := List.all_eq_true.mp hz2 x4 hx4
                  rw [Bool.and_eq_true, Bool.and_eq_true, ai_beq] at hox4
                  have hsk4 : sk4 = [] := by
                    rw [List.isEmpty_iff.mp hox4.2.1] at w4'
                    exact w4'.nil
                  subst hsk4
                  rw [hox4.1]
                  have F4 : ai_fr rl_W ws ws4 := F3.tr (wsub_ok (by decide) w7')
                  exact hG_this w3 (decide_eq_true_eq.mp hox4.2.2) (fun lv6 hlv6 => rl_171 C hn w5 (hT.fr hn w5 F4 (by decide) (by decide)) F4 hv' (Or.inl ⟨cd, _, hl3, b9.fr w7' rfl, b10.fr w7' rfl⟩) hlv6 k1 k2)
                by_cases ht0 : t = 0
                · subst ht0
                  obtain ⟨r1, r2', r3, rpa⟩ := hr.1 rfl
                  have hl3 : sp_line g n S = sp_stop g n S.2.1 (S.2.2.1 + 2 ^ 6) bs (sp_tok g n q) := hl2
                  by_cases hq4 : (sp_tok g n q).1 = 4
                  · refine bro (Or.inl rfl) (r1.1 hq4).1 (r1.1 hq4).2 ?_
                    rw [hl3]
                    unfold sp_stop
                    rw [if_neg (by omega), hq4]
                    rfl
                  · obtain ⟨b9, b11, b12, b13, -⟩ := r1.2 hq4
                    obtain ⟨zs, hz1, hz2⟩ := ai_anyE (List.all_eq_true.mp rl_Cr4 (sp_tok g n q).1 (List.mem_range.mpr (by omega)))
                    refine hseg (st := rl_C (sp_tok g n q).1) (r := [0, 0, ((sp_tok g n q).2.1 : Int)]) hz1 rfl C ⟨en_mk (by simp only [rl_C, en_b, and_true]; omega) rfl, sb0, lo0_ok (r := [0]) rfl rfl rfl hlv4, trivial, hw3, kc (b9.kn (n := 0) (t := 0) rfl (by omega)) (kc (b13.kn (n := 0) (t := 0) rfl (by omega)) (kc (b12.kn (n := 2) (t := ((sp_tok g n q).2.1 : Int)) rfl (by omega)) k0)), fun _ _ _ _ h => h, fun h => by cases h⟩ (fun x4 hx4 r4 lv5 sk4 ws4 hx4' g4' => ?_)
                    obtain ⟨-, -, w3, w4', w5, w6', w7', -⟩ := g4'
                    have hox4 := List.all_eq_true.mp hz2 x4 hx4
                    rw [Bool.and_eq_true, Bool.and_eq_true, Bool.and_eq_true, ai_beq] at hox4
                    obtain ⟨o1', o2', o3', o4'⟩ := hox4
                    have hsk4 : sk4 = [] := by
                      rw [List.isEmpty_iff.mp o2'] at w4'
                      exact w4'.nil
                    subst hsk4
                    rw [o1']
                    have F4 : ai_fr rl_W ws ws4 := F3.tr (wsub_ok (by decide) w7')
                    refine hG_this w3 (decide_eq_true_eq.mp o3') (fun lv6 hlv6 => rl_171 C hn w5 (hT.fr hn w5 F4 (by decide) (by decide)) F4 hv' ?_ hlv6 k1 k2)
                    split at o4'
                    · rename_i hk3
                      refine Or.inr ⟨(sp_tok g n q).2.2.1, S.2.1, S.2.2.1 + 2 ^ 6, bs, ?_, vi.lk w6' (decide_eq_true_eq.mp o4') (hx4'.at (show ([0, 0, ((sp_tok g n q).2.1 : Int)] : List Int)[0]? = some 0 from rfl)) (by omega), b11.fr w7' (by decide), h7''.fr w7' (by decide), h3''.fr w7' (by decide), ⟨O2, hO''.fr w7' (by decide), hOb, hOc⟩, r2'.fr w7' (by decide), r3.fr w7' (by decide), rpa.fr w7' (by decide), ?_⟩
                      · rw [hl3]
                        unfold sp_stop
                        rw [if_pos hk3]
                      · have hel : ev_line g n S E = E := by
                          unfold ev_line ev_word
                          rw [hwd, if_neg (by decide), if_neg (by decide), if_neg (by decide)]
                        rw [hel]
                        exact (((hE.fr g7 (fun j _ => nowr_ok (by decide) j j)).fr m7 (fun j _ => nowr_ok (by decide) j j)).fr f3 (fun j hj => by
                          unfold ai_wr rp_WR
                          simp
                          omega)).fr w7' (fun j _ => nowr_ok (by decide) j j)
                    · rename_i hk3
                      rw [Bool.and_eq_true] at o4'
                      refine Or.inl ⟨2, (sp_tok g n q).2.1, ?_, vi.lk w6' (decide_eq_true_eq.mp o4'.1) (hx4'.at (show ([0, 0, ((sp_tok g n q).2.1 : Int)] : List Int)[0]? = some 0 from rfl)) (by omega), vi.lk w6' (decide_eq_true_eq.mp o4'.2) (hx4'.at (show ([0, 0, ((sp_tok g n q).2.1 : Int)] : List Int)[2]? = some ((sp_tok g n q).2.1 : Int) from rfl)) (by omega)⟩
                      rw [hl3]
                      unfold sp_stop sp_ft
                      rw [if_neg hk3, if_neg hq4]
                · obtain ⟨b9, b10⟩ := hr.2 ht0
                  refine bro (by omega) b9 b10 ?_
                  rw [hl2]
                  unfold sp_p1
                  rw [if_neg (show ¬ (t, bs, sp_tok g n q).1 = 0 from ht0)]
          · have hw45 : w = 4 ∨ w = 5 := by omega
            have hl2 : sp_line g n S = sp_o1 g n S.2.1 (S.2.2.1 + 2 ^ w) S.2.2.2 (if w = 4 then 20 else 99) (sp_tok g n S.1.2.2.1) := by
              rw [hline]
              unfold sp_word1
              rw [if_neg w7, if_neg w4, if_neg hbit, if_neg w6]
            refine at87 hox g1 g2 g3 g4 g5 g6 g7 (hx'.at rfl) (hx'.at rfl) (hx'.at rfl) (fun hc => ?_) (fun hc hpc hsk ht1 q0 q1 hO' => ?_)
            · rw [hl2]
              unfold sp_o1
              rw [if_neg (by omega), hc]
              rfl
            · obtain ⟨O2, hOa, hOb, hOc⟩ := hO'
              refine hG_this2 g3 (hx'.at rfl) q0 q1 (fun lv2 hlv2 => ?_)
              have run2 : rl_BOr w (sp_tok g n S.1.2.2.1).1 = true := by
                have hm : (sp_tok g n S.1.2.2.1).1 ∈ List.range 4 := List.mem_range.mpr (by omega)
                rcases hw45 with rfl | rfl
                · exact List.all_eq_true.mp rl_BO4 _ hm
                · exact List.all_eq_true.mp rl_BO5 _ hm
              obtain ⟨ys, hy1, hy2⟩ := ai_anyE run2
              have hT1 := hT.fr hn g5 g7 (by decide) (by decide)
              obtain ⟨t9, t11, t12, t13, zv, s14, e14⟩ := ht1.2 hc
              have bz := ai_irg zv
              refine hsegT (st := rl_BO w (sp_tok g n S.1.2.2.1).1) (r := [0, 0, (n : Int), ((sp_tok g n S.1.2.2.1).2.1 : Int), ((sp_tok g n S.1.2.2.1).2.2.1 : Int), (sp_tok g n S.1.2.2.1).2.2.2, 0]) hy1 rfl C ⟨en_mk (by simp only [rl_BO, rl_eB, rl_e, List.cons_append, List.nil_append, en_b, and_true]; omega) rfl, f350 rfl hT1.1 hT1.2, lo0_ok (r := [0]) rfl rfl rfl hlv2, trivial, g5, kc (kn1 s14 (n := 5) (t := (sp_tok g n S.1.2.2.1).2.2.2) rfl (by omega)) (rl_kn (h7.fr g7 (by decide)) ht1 hc rfl rfl rfl rfl rfl), fun _ _ _ _ h => h, fun h => by cases h⟩ (fun x2 hx2' r2 lv3 sk2 ws2 hx3 g3' => ?_)
              obtain ⟨m1, m2, m3, m4, m5, m6, m7, m8⟩ := g3'
              have hox2 := List.all_eq_true.mp hy2 x2 hx2'
              rw [Bool.and_eq_true, Bool.and_eq_true, Bool.and_eq_true, ai_beq] at hox2
              obtain ⟨o1, o2, o3, o4⟩ := hox2
              have hsk2 : sk2 = [] := by
                rw [List.isEmpty_iff.mp o2] at m4
                exact m4.nil
              subst hsk2
              obtain ⟨y, hy, hres⟩ := ai_anyE o4
              have hsubO : wsub (rl_WO w) rl_W = true := by rcases hw45 with rfl | rfl <;> decide
              have F2 : ai_fr rl_W ws ws2 := F1.tr (wsub_ok hsubO m7)
              rw [Bool.and_eq_true, Bool.or_eq_true] at hres
              rw [o1]
              refine hG_this m3 (decide_eq_true_eq.mp o3) (fun lv4 hlv4 => rl_171 C hn m5 (hT.fr hn m5 F2 (by decide) (by decide)) F2 hv' ?_ hlv4 k1 k2)
              refine rl_resok (t' := S.2.1) (T' := S.2.2.1 + 2 ^ w) (as' := S.2.2.2) m6 (hx3.at rfl) ?_ hres.1 ((h7.fr g7 (by decide)).fr m7 rfl) (Or.inr ((h3.fr g7 (by decide)).fr m7 rfl)) (hOa.fr m7 rfl) hOb hOc ((h5.fr g7 (by decide)).fr m7 rfl) ((h26.fr g7 (by decide)).fr m7 (by rcases hw45 with rfl | rfl <;> decide)) (fun i hi => ((hpa i hi).fr g7 (nowr_ok (by decide) _ _)).fr m7 (by unfold ai_wr rl_WO; simp; omega)) (fun bb hbb => ?_)
              rotate_left
              · subst hbb
                have hs : lkq x2 51 (12 + w) (1, 5, 0, if w = 4 then -10 else 0) = true := by
                  rcases hres.2 with h | h
                  · cases h
                  · exact h
                have u1 : vi ws2 51 (12 + w) ((sp_tok g n S.1.2.2.1).2.2.2 + (if w = 4 then -10 else 0)) := vi.lk m6 (decide_eq_true_eq.mp hs) (hx3.at rfl) rfl
                have hE1 : rev ws' E := hE.fr g7 (fun j _ => nowr_ok (by decide) j j)
                have hel : ev_line g n S E = ev_up E (12 + w) (sp_tok g n S.1.2.2.1).2.2.2 := by
                  unfold ev_line ev_word
                  rw [hwd]
                  rcases hw45 with rfl | rfl
                  · rw [if_neg (by decide), if_pos rfl]
                  · rw [if_neg (by decide), if_neg (by decide), if_pos rfl]
                rw [hel]
                refine ⟨fun j hj => ?_, ?_, ?_⟩
                · rw [ev_up_ne (by omega)]
                  exact (hE1.1 j hj).fr m7 (by unfold ai_wr rl_WO; simp; omega)
                · rcases hw45 with rfl | rfl
                  · rw [ev_up_at]
                    exact u1
                  · rw [ev_up_ne (by decide)]
                    exact hE1.2.1.fr m7 (by decide)
                · rcases hw45 with rfl | rfl
                  · rw [ev_up_ne (by decide)]
                    exact hE1.2.2.fr m7 (by decide)
                  · rw [ev_up_at]
                    rw [if_neg (by decide), Int.add_zero] at u1
                    exact u1
              rw [hl2]
              exact sy_o1_ok m1 m2 hT1.1 (hx3.at rfl) ⟨rfl, hx3.at rfl, hx3.at rfl, hx3.at rfl⟩ hy
  · have hline : sp_line g n S = .inl (2, S.1.2.1) := by
      unfold sp_line sp_ft
      rw [if_neg hk, if_neg h4]
    have run : rl_Nr S.1.1 = true := by
      have : S.1.1 = 2 ∨ S.1.1 = 3 := by omega
      rcases this with h | h <;> rw [h]
      · exact rl_N2
      · exact rl_N3
    exact errs (st := (0, ms_lo, [], rl_e, rl_k (S.1.1 : Int), cl_f)) (r := [0, 0, (n : Int), (S.1.2.1 : Int), (S.1.2.2.1 : Int)]) run rfl ⟨en_mk (by simp only [rl_e, en_b, and_true]; omega) rfl, cl_sb hT v5 rfl rfl, lo0_ok (r := [0]) rfl rfl rfl hlv, trivial, hw, rl_kn h7 htk h4 rfl rfl rfl rfl rfl, fun _ _ _ _ h => h, fun h => by cases h⟩ (by decide) (by decide) rfl rfl hline
end RLA
