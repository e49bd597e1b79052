/-- the acts' names are names -/
theorem sy_plan_in {w0 : va_W} {r : List Int} {x : ai_s} {g : Nat → Int} {n N : Nat} (g1 : ai_ok r x.2.2.2.1) (g2 : ai_sb w0 r x.2.2.2.2.2) (hg : fx_tape w0 g) (hn : r[n]? = some (N : Int)) : ∀ (f : Nat) (kb : Nat × Nat) (t : sp_T) (as : List Nat) (pl : Nat × List Nat × Nat × Nat), sy_is r kb t → sy_plan x n f kb as = some pl → (∀ i, i < as.length → ∃ z, r[as.getD i 0]? = some z) → ∀ i, i < pl.2.1.length → ∃ z, r[pl.2.1.getD i 0]? = some z
  | 0, _, _, _, _, _, hy, _ => by cases hy
  | f + 1, kb, t, as, pl, h, hy, ha => by
    obtain ⟨h1, h2, h3, h4⟩ := h
    unfold sy_plan at hy
    split at hy
    · split at hy
      · cases hy
        exact ha
      · obtain ⟨o, ho, hy⟩ := Option.bind_eq_some_iff.mp hy
        split at hy
        · obtain ⟨kc, hc, hy⟩ := Option.bind_eq_some_iff.mp hy
          refine sy_plan_in g1 g2 hg hn f kc _ (as ++ [kb.2 + 2]) pl (sy_tk_ok g2 hg hn h3 hc) hy (fun i hi => ?_)
          rw [List.length_append] at hi
          have hi : i < as.length + 1 := hi
          rw [List.getD_eq_getElem?_getD]
          by_cases hia : i < as.length
          · rw [List.getElem?_append_left hia, ← List.getD_eq_getElem?_getD]
            exact ha i hia
          · rw [show i = as.length by omega, List.getElem?_append_right (Nat.le_refl _), Nat.sub_self]
            exact ⟨_, h4⟩
        · cases hy
          exact ha
    · cases hy
      exact ha
/-! every line of the class -/
section CLA
variable {ad : List Nat} {p : Program} {l : Launch} {e : Env} {R : Room} {s : State} {m : MethodId} {args : Array Value} {below : List Frame} {meth : Method} {c : Code} {D : va_G} {tys : ai_ty} {A : Nat → Prop} {b L : Nat} {sx : Nat → Int32} {cells slots : Nat} {Q : State → Prop}
theorem cl_kn {r : List Int} {ws : va_W} {n ln : Nat} {S : sp_S} (hi : cl_is n ws S ln) (h0 : r[0]? = some 0) (h2 : r[2]? = some (n : Int)) (h3 : r[3]? = some (S.1.2.1 : Int)) (h4 : r[4]? = some (S.1.2.2.1 : Int)) (h5 : r[5]? = some (ln : Int)) {kk : Int} (hk : kk = (S.1.1 : Int)) : ai_kn ad b r ws (cl_k kk) := by
  obtain ⟨i1, i3, i4, i5, i7, i8, i9, -⟩ := hi
  exact kc (i1.kn h2 (by omega)) (kc (i9.kn h3 (by omega)) (kc (i7.kn h4 (by omega)) (kc (i8.kn h0 (by omega)) (kc (i5.kn h0 (by omega)) (kc (i4.kn h5 (by omega)) k0)))))
theorem cl_sb {r : List Int} {ws : va_W} {n : Nat} {g : Nat → Int} {S : sp_S} (hT : sp_tape g n ws) (hle : S.1.2.2.1 ≤ n) (h2 : r[2]? = some (n : Int)) (h4 : r[4]? = some (S.1.2.2.1 : Int)) : ai_sb ws r cl_f := sbc (f350 h2 hT.1 hT.2) (sbc (f4 h4 h2 (by omega)) sb0)
set_option maxHeartbeats 2000000 in
theorem cl_line (C : ai_cx tb_m26 8 p R s m args c D tys A b L sx cells slots) {ws : va_W} {g : Nat → Int} {n ln : Nat} {S : sp_S} (hn : n ≤ 160) (hln : ln ≤ 160) (hw : ai_wd tb_TY ad tys ws) (hT : sp_tape g n ws) (hi : cl_is n ws S ln) (hv : sp_inv n S) {lv : List (Nat × Value)} (hlv : ai_lo ad b [0] tn_lo lv)
    (k1 : ∀ (pcr : Nat) (ws' : va_W) (lv' : List (Nat × Value)) (c1 P : Nat), (pcr = 64 ∨ pcr = 85) → ai_wd tb_TY ad tys ws' → ai_fr cl_W ws ws' → sp_line g n S = .inl (c1, P) → vi ws' 26 5 c1 → vi ws' 26 6 P → hG tb_m26 p l e R s m args below meth c D A cells slots Q pcr lv' [] ws')
    (k2 : ∀ (ws' : va_W) (lv' : List (Nat × Value)) (S' : sp_S), ai_wd tb_TY ad tys ws' → ai_fr cl_W ws ws' → sp_line g n S = .inr S' → cl_is n ws' S' (ln + 1) → (∀ E, cev ws 28 S.2.1 E → cev ws' 28 S'.2.1 (ev_line g n S E)) → hG tb_m26 p l e R s m args below meth c D A cells slots Q 100 lv' [] ws') : hG tb_m26 p l e R s m args below meth c D A cells slots Q 0 lv [] ws := by
  obtain ⟨⟨j, hj, hj2⟩, v1, v2, v3, v4, v5⟩ := hv
  have hi' := hi
  obtain ⟨i1, i3, i4, i5, i7, i8, i9, i10, i11, i12⟩ := hi
  have fin : ∀ {W : List (Nat × Nat × Nat)} {st : ai_s} {r : List Int} {ch : ai_s → Bool}, ((ai_ex (hkT W) 3000 26 tb_m26 8 [96] st).any fun xs => xs.all ch) = true → st.1 = 0 → ai_gm tb_TY W ws ad b L sx tys tb_m26.2.2.2.2.1 r st lv [] ws → wsub W cl_W = true → r[0]? = some 0 → r[2]? = some (n : Int) → r[4]? = some (S.1.2.2.1 : Int) → r[5]? = some (ln : Int) →
      (∀ (x : ai_s) (r' : List Int) (ws' : va_W), ch x = true → ai_x r r' → ai_ok r' x.2.2.2.1 → ai_sb ws r' x.2.2.2.2.2 → ai_wd tb_TY ad tys ws' → ai_fr W ws ws' → ai_kn ad b r' ws' x.2.2.2.2.1 → x.2.2.1.isEmpty = true ∧ ∃ (tests told : Option Int) (pl : Option (List Nat)) (y : sy_r) (t' T' : Nat) (as' : List Int), cl_res x tests told pl y = true ∧ sy_ok r' g n t' T' as' y (sp_line g n S) ∧ (tests = some (t' : Int) ∨ vi ws' 28 0 t') ∧ (told = some (T' : Int) ∨ vi ws' 26 3 T') ∧ ((∃ nm, pl = some nm ∧ as' = sy_v r' nm ∧ ∀ i, i < nm.length → ∃ z, r'[nm.getD i 0]? = some z) ∨ (vi ws' 28 3 as'.length ∧ ∀ i, i < as'.length → vi ws' 33 i (as'.getD i 0))) ∧ ∀ bb, y = .inr bb → ∀ E, cev ws 28 S.2.1 E → cev ws' 28 t' (ev_line g n S E)) →
      hG tb_m26 p l e R s m args below meth c D A cells slots Q 0 lv [] ws := by
    intro W st r ch hrun h0 gm hsub q0 q2 q4 q5 hch
    obtain ⟨xs, hx1, hx2⟩ := ai_anyE hrun
    rw [← h0]
    refine hsegT (st := st) hx1 rfl C gm (fun x hx r' lv' sk' ws' hx' g' => ?_)
    obtain ⟨g1, g2, g3, g4, g5, g6, g7, g8⟩ := g'
    obtain ⟨hs, tests, told, pl, y, t', T', as', h1, h2, h3, h4, h5, h6⟩ := hch x r' ws' (List.all_eq_true.mp hx2 x hx) hx' g1 g2 g5 g7 g6
    have hsk : sk' = [] := by
      rw [List.isEmpty_iff.mp hs] at g4
      exact g4.nil
    subst hsk
    exact cl_fin C hn hT i1 hsub g3 g5 g6 g7 (hx'.at q0) (hx'.at q5) h1 h2 h3 h4 h5 h6 k1 k2
  by_cases hk : S.1.1 = 1
  · have hline : sp_line g n S = sp_word1 g n (sp_word g S.1.2.1 S.1.2.2.1) S := by
      unfold sp_line
      rw [if_pos hk]
    have hw7 : sp_word g S.1.2.1 S.1.2.2.1 ≤ 7 := by rw [sp_word_P]; exact sp_P_le
    generalize hwd : sp_word g S.1.2.1 S.1.2.2.1 = w at hline hw7
    by_cases h7 : w = 7
    · subst h7
      refine fin (r := [0, 0, (n : Int), (S.1.2.1 : Int), (S.1.2.2.1 : Int), (ln : Int)]) cl_7r rfl ⟨en_mk (by simp only [cl_7, cl_e, en_b, and_true]; omega) rfl, sbc (fword (w := 7) rfl rfl ⟨_, rfl⟩ hT.1 (by omega) (by decide) hwd) (cl_sb hT v5 rfl rfl), lo0_ok (r := [0]) rfl rfl rfl hlv, trivial, hw, cl_kn hi' rfl rfl rfl rfl rfl (by omega), fun _ _ _ _ h => h, fun h => by cases h⟩ (by decide) rfl rfl rfl rfl (fun x r' ws' hc hx' g1 g2 hw' hf g6 => ?_)
      rw [Bool.and_eq_true] at hc
      exact ⟨hc.1, none, none, none, _, S.2.1, S.2.2.1, S.2.2.2, hc.2, ⟨S.1.2.1, hx'.at rfl, hline⟩, Or.inr (i10.fr hf (by decide)), Or.inr (i3.fr hf (by decide)), Or.inr ⟨i11.fr hf (by decide), fun i hi => (i12 i hi).fr hf (by unfold ai_wr cl_WN; simp)⟩, fun bb h => by cases h⟩
    · by_cases h4 : w < 4
      · have hsubT : wsub (cl_WT S.2.1) cl_W = true := by
          have : S.2.1 = 0 ∨ S.2.1 = 1 ∨ S.2.1 = 2 ∨ S.2.1 = 3 ∨ S.2.1 = 4 := by omega
          rcases this with h | h | h | h | h <;> rw [h] <;> decide
        have run : cl_Tr S.2.1 = true := by
          have : S.2.1 = 0 ∨ S.2.1 = 1 ∨ S.2.1 = 2 ∨ S.2.1 = 3 ∨ S.2.1 = 4 := by omega
          rcases this with h | h | h | h | h <;> rw [h]
          · exact cl_T0
          · exact cl_T1
          · exact cl_T2
          · exact cl_T3
          · exact cl_T4
        refine fin (st := cl_T S.2.1) (W := cl_WT S.2.1) (r := [0, 0, (n : Int), (S.1.2.1 : Int), (S.1.2.2.1 : Int), (ln : Int), (w : Int)]) run rfl ⟨en_mk (by simp only [cl_T, cl_e, List.cons_append, List.nil_append, en_b, and_true]; omega) rfl, sbc (fword (w := 0) rfl rfl ⟨_, rfl⟩ hT.1 (by omega) (by decide) (by rw [if_pos rfl, hwd]; exact ⟨rfl, h4⟩)) (cl_sb hT v5 rfl rfl), lo0_ok (r := [0]) rfl rfl rfl hlv, trivial, hw, kc (i10.kn (n := 0) (t := 0) rfl (by omega)) (cl_kn hi' rfl rfl rfl rfl rfl (by omega)), fun _ _ _ _ h => h, fun h => by cases h⟩ hsubT rfl rfl rfl rfl (fun x r' ws' hc hx' g1 g2 hw' hf g6 => ?_)
        unfold cl_Tok at hc
        rw [Bool.and_eq_true] at hc
        obtain ⟨y, hy, hy2⟩ := ai_anyE hc.2
        rw [Bool.and_eq_true, Bool.or_eq_true] at hy2
        have hb3 : ai_wr (cl_WT S.2.1) 26 3 3 = false := by unfold ai_wr cl_WT; simp
        have hb11 : ai_wr (cl_WT S.2.1) 28 3 3 = false := by unfold ai_wr cl_WT; simp
        refine ⟨hc.1, _, none, none, y, S.2.1 + 1, S.2.2.1, S.2.2.2, hy2.1, ?_, Or.inl (by congr 1), Or.inr (i3.fr hf hb3), Or.inr ⟨i11.fr hf hb11, fun i hi => (i12 i hi).fr hf (by unfold ai_wr cl_WT; simp)⟩, fun bb hbb E hE => ?_⟩
        rotate_left
        · subst hbb
          have ht4 : S.2.1 < 4 := by
            rcases Nat.lt_or_ge S.2.1 4 with h | h
            · exact h
            · exfalso
              rw [if_pos (show S.2.1 = 4 by omega)] at hy
              cases hy
          have hs : sy_ev x 2 4 (1, 6, 0, 0) (29, S.2.1) (30, S.2.1) (31, S.2.1) (32, S.2.1) = true := by
            rcases hy2.2 with h | h
            · cases h
            · exact h
          obtain ⟨u1, u2, u3, u4⟩ := sy_ev_ok (W := (w : Int)) g2 g6 hT.1 (hx'.at rfl) (hx'.at rfl) (hx'.at rfl) (hx'.at rfl) hs
          have hel : ev_line g n S E = ev_test E S.2.1 (w : Int) (sp_tok g n S.1.2.2.1).2.2.2 (ev_m g n (sp_tok g n S.1.2.2.1)) (ev_p g n (sp_tok g n S.1.2.2.1)) := by
            unfold ev_line ev_word
            rw [hwd, if_pos h4]
          rw [hel]
          exact cev_test ht4 hE hf (fun i hi => by
            unfold ai_wr cl_WT
            simp
            omega) (by unfold ai_wr cl_WT; simp) (by unfold ai_wr cl_WT; simp) u1 u2 u3 u4
        rw [hline]
        unfold sp_word1
        rw [if_neg h7, if_pos h4]
        split at hy
        · rename_i ht4
          cases hy
          rw [if_pos (by omega)]
          exact ⟨S.1.2.1, hx'.at rfl, rfl⟩
        · rename_i ht4
          rw [if_neg (by omega)]
          obtain ⟨kb, hb, hy⟩ := Option.bind_eq_some_iff.mp hy
          exact sy_t1_ok g1 g2 hT.1 (hx'.at rfl) (sy_tk_ok g2 hT.1 (hx'.at rfl) (hx'.at rfl) hb) hy
      · by_cases h6 : w = 6
        · subst h6
          by_cases hbit : S.2.2.1 / 2 ^ 6 % 2 = 1
          · have run : cl_Qr S.2.2.1 = true := by
              have := List.all_eq_true.mp cl_Q4 (j - 4) (List.mem_range.mpr (by omega))
              rw [show 64 + 16 * (j - 4) = S.2.2.1 by omega] at this
              exact this
            refine fin (st := cl_Q S.2.2.1) (r := [0, 0, (n : Int), (S.1.2.1 : Int), (S.1.2.2.1 : Int), (ln : Int)]) run rfl ⟨en_mk (by simp only [cl_Q, cl_e, en_b, and_true]; omega) rfl, sbc (fword (w := 6) rfl rfl ⟨_, rfl⟩ hT.1 (by omega) (by decide) hwd) (cl_sb hT v5 rfl rfl), lo0_ok (r := [0]) rfl rfl rfl hlv, trivial, hw, kc (i3.kn (n := 0) (t := 0) rfl (by omega)) (cl_kn hi' rfl rfl rfl rfl rfl (by omega)), fun _ _ _ _ h => h, fun h => by cases h⟩ (by decide) rfl rfl rfl rfl (fun x r' ws' hc hx' g1 g2 hw' hf g6 => ?_)
            rw [Bool.and_eq_true] at hc
            refine ⟨hc.1, none, none, none, _, S.2.1, S.2.2.1, S.2.2.2, hc.2, ?_, Or.inr (i10.fr hf (by decide)), Or.inr (i3.fr hf (by decide)), Or.inr ⟨i11.fr hf (by decide), fun i hi => (i12 i hi).fr hf (by unfold ai_wr cl_WN; simp)⟩, fun bb h => by cases h⟩
            rw [hline]
            unfold sp_word1
            rw [if_neg h7, if_neg h4, if_pos hbit]
            exact ⟨S.1.2.1, hx'.at rfl, rfl⟩
          · have has : S.2.2.2 = [] := v1 (by omega)
            have run : cl_Pr S.2.2.1 = true := by
              have : S.2.2.1 = 0 ∨ S.2.2.1 = 16 ∨ S.2.2.1 = 32 ∨ S.2.2.1 = 48 := by omega
              rcases this with h | h | h | h <;> rw [h]
              · exact cl_P0
              · exact cl_P1
              · exact cl_P2
              · exact cl_P3
            refine fin (st := cl_P S.2.2.1) (r := [0, 0, (n : Int), (S.1.2.1 : Int), (S.1.2.2.1 : Int), (ln : Int)]) run rfl ⟨en_mk (by simp only [cl_P, cl_e, en_b, and_true]; omega) rfl, sbc (fword (w := 6) rfl rfl ⟨_, rfl⟩ hT.1 (by omega) (by decide) hwd) (cl_sb hT v5 rfl rfl), lo0_ok (r := [0]) rfl rfl rfl hlv, trivial, hw, kc (i3.kn (n := 0) (t := 0) rfl (by omega)) (kc (i11.kn (n := 0) (t := 0) rfl (by rw [has]; rfl)) (cl_kn hi' rfl rfl rfl rfl rfl (by omega))), fun _ _ _ _ h => h, fun h => by cases h⟩ (by decide) rfl rfl rfl rfl (fun x r' ws' hc hx' g1 g2 hw' hf g6 => ?_)
            unfold cl_Pok at hc
            rw [Bool.and_eq_true] at hc
            obtain ⟨pl, hpl, hc2⟩ := ai_anyE hc.2
            obtain ⟨y, hy, hy2⟩ := ai_anyE hc2
            obtain ⟨kb, hb, hpl⟩ := Option.bind_eq_some_iff.mp hpl
            obtain ⟨tk, e1, e2⟩ := sy_plan_ok g1 g2 hT.1 (hx'.at rfl) 9 kb _ [] pl (sy_tk_ok g2 hT.1 (hx'.at rfl) (hx'.at rfl) hb) hpl
            refine ⟨hc.1, none, _, some pl.2.1, y, S.2.1, S.2.2.1 + 2 ^ 6, sy_v r' pl.2.1, hy2, ?_, Or.inr (i10.fr hf (by decide)), Or.inl (by congr 1), Or.inl ⟨pl.2.1, rfl, rfl, ?_⟩, fun bb hbb E hE => ?_⟩
            · rw [hline]
              unfold sp_word1
              rw [if_neg h7, if_neg h4, if_neg hbit, if_pos rfl]
              have e1 : sp_plan g n 9 (sp_tok g n S.1.2.2.1) [] = (pl.1, sy_v r' pl.2.1, tk) := e1
              rw [e1]
              exact sy_p1_ok e2 hy
            · exact sy_plan_in g1 g2 hT.1 (hx'.at rfl) 9 kb _ [] pl (sy_tk_ok g2 hT.1 (hx'.at rfl) (hx'.at rfl) hb) hpl (fun i hi => absurd hi (Nat.not_lt_zero _))
            · have hel : ev_line g n S E = E := by
                unfold ev_line ev_word
                rw [hwd, if_neg (by decide), if_neg (by decide), if_neg (by decide)]
              rw [hel]
              obtain ⟨q1, q2, q3⟩ := hE
              refine ⟨fun i hi => ?_, q2.fr hf (by decide), q3.fr hf (by decide)⟩
              obtain ⟨a1, a2, a3, a4⟩ := q1 i hi
              exact ⟨a1.fr hf (nowr_ok (by decide) i i), a2.fr hf (nowr_ok (by decide) i i), a3.fr hf (nowr_ok (by decide) i i), a4.fr hf (nowr_ok (by decide) i i)⟩
        · have hw45 : w = 4 ∨ w = 5 := by omega
          have run : cl_Or w S.2.2.1 = true := by
            rcases hw45 with rfl | rfl
            · have := List.all_eq_true.mp cl_O4 j (List.mem_range.mpr hj)
              rw [← hj2] at this
              exact this
            · have := List.all_eq_true.mp cl_O5 j (List.mem_range.mpr hj)
              rw [← hj2] at this
              exact this
          refine fin (st := cl_O w S.2.2.1) (W := cl_WO w) (r := [0, 0, (n : Int), (S.1.2.1 : Int), (S.1.2.2.1 : Int), (ln : Int)]) run rfl ⟨en_mk (by simp only [cl_O, cl_e, en_b, and_true]; omega) rfl, sbc (fword (w := w) rfl rfl ⟨_, rfl⟩ hT.1 (by omega) (by omega) (by rw [if_neg (by omega)]; exact hwd)) (cl_sb hT v5 rfl rfl), lo0_ok (r := [0]) rfl rfl rfl hlv, trivial, hw, kc (i3.kn (n := 0) (t := 0) rfl (by omega)) (cl_kn hi' rfl rfl rfl rfl rfl (by omega)), fun _ _ _ _ h => h, fun h => by cases h⟩ (by rcases hw45 with rfl | rfl <;> decide) rfl rfl rfl rfl (fun x r' ws' hc hx' g1 g2 hw' hf g6 => ?_)
          unfold cl_Ook at hc
          rw [Bool.and_eq_true] at hc
          obtain ⟨y, hy, hy2⟩ := ai_anyE hc.2
          rw [Bool.and_eq_true, Bool.or_eq_true] at hy2
          have hb10 : ai_wr (cl_WO w) 28 0 0 = false := by rcases hw45 with rfl | rfl <;> decide
          have hb11 : ai_wr (cl_WO w) 28 3 3 = false := by rcases hw45 with rfl | rfl <;> decide
          have hbr : ∀ k, 29 ≤ k → nowr (cl_WO w) k = true ∨ k = 1000 := fun k hk => by
            by_cases h1 : k = 1000
            · exact Or.inr h1
            · left
              have e1 : Nat.beq 26 k = false := Bool.eq_false_iff.mpr fun h => by have := ai_beq.mp h; omega
              have e2 : Nat.beq 28 k = false := Bool.eq_false_iff.mpr fun h => by have := ai_beq.mp h; omega
              unfold nowr cl_WO
              simp [e1, e2]
              exact ⟨by decide, by decide⟩
          refine ⟨hc.1, none, _, none, y, S.2.1, S.2.2.1 + 2 ^ w, S.2.2.2, hy2.1, ?_, Or.inr (i10.fr hf hb10), Or.inl (by congr 1), Or.inr ⟨i11.fr hf hb11, fun i hi => (i12 i hi).fr hf (nowr_ok ((hbr 33 (by decide)).resolve_right (by decide)) i i)⟩, fun bb hbb E hE => ?_⟩
          rotate_left
          · subst hbb
            have hs : sy_num x 2 4 (28, w - 3) 0 = true := by
              rcases hy2.2 with h | h
              · cases h
              · exact h
            have u1 := sy_num_ok g2 g6 hT.1 (hx'.at rfl) (hx'.at rfl) hs
            rw [Int.add_zero] at u1
            have hel : ev_line g n S E = ev_up E (15 + (w - 3)) (sp_tok g n S.1.2.2.1).2.2.2 := by
              unfold ev_line ev_word
              rw [hwd]
              rcases hw45 with rfl | rfl
              · rw [if_neg (by decide), if_pos rfl]
              · rw [if_neg (by decide), if_neg (by decide), if_pos rfl]
            rw [hel]
            refine cev_up (by omega) (by omega) hE hf ⟨(hbr 29 (by decide)).resolve_right (by decide), (hbr 30 (by decide)).resolve_right (by decide), (hbr 31 (by decide)).resolve_right (by decide), (hbr 32 (by decide)).resolve_right (by decide)⟩ ?_ u1
            rcases hw45 with rfl | rfl <;> decide
          rw [hline]
          unfold sp_word1
          rw [if_neg h7, if_neg h4]
          split at hy
          · rename_i hbit
            cases hy
            rw [if_pos hbit]
            exact ⟨S.1.2.1, hx'.at rfl, rfl⟩
          · rename_i hbit
            rw [if_neg hbit, if_neg h6]
            obtain ⟨kb, hb, hy⟩ := Option.bind_eq_some_iff.mp hy
            exact sy_o1_ok g1 g2 hT.1 (hx'.at rfl) (sy_tk_ok g2 hT.1 (hx'.at rfl) (hx'.at rfl) hb) hy
  · have hline : sp_line g n S = .inl (sp_ft S.1.1, S.1.2.1) := by
      unfold sp_line
      rw [if_neg hk]
    have run : cl_Nr S.1.1 = true := by
      have : S.1.1 = 0 ∨ S.1.1 = 2 ∨ S.1.1 = 3 ∨ S.1.1 = 4 := by omega
      rcases this with h | h | h | h <;> rw [h]
      · exact cl_N0
      · exact cl_N2
      · exact cl_N3
      · exact cl_N4
    refine fin (st := cl_N S.1.1) (r := [0, 0, (n : Int), (S.1.2.1 : Int), (S.1.2.2.1 : Int), (ln : Int)]) run rfl ⟨en_mk (by simp only [cl_N, cl_e, en_b, and_true]; omega) rfl, cl_sb hT v5 rfl rfl, lo0_ok (r := [0]) rfl rfl rfl hlv, trivial, hw, cl_kn hi' rfl rfl rfl rfl rfl rfl, fun _ _ _ _ h => h, fun h => by cases h⟩ (by decide) rfl rfl rfl rfl (fun x r' ws' hc hx' g1 g2 hw' hf g6 => ?_)
    unfold cl_Nok at hc
    rw [Bool.and_eq_true] at hc
    exact ⟨hc.1, none, none, none, _, S.2.1, S.2.2.1, S.2.2.2, hc.2, ⟨S.1.2.1, hx'.at rfl, hline⟩, Or.inr (i10.fr hf (by decide)), Or.inr (i3.fr hf (by decide)), Or.inr ⟨i11.fr hf (by decide), fun i hi => (i12 i hi).fr hf (by unfold ai_wr cl_WN; simp)⟩, fun bb h => by cases h⟩
end CLA
