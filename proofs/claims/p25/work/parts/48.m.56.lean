section
/-- the acts' names are names -/
theorem sy_plan_in {w0 : va_W} {r : List Int} {x : ai_s} {g : Nat → Int} {n N : Nat} (g1 : ai_ok r x.2.2.2.1) (g2 : ai_sb w0 r x.2.2.2.2.2) (hg : fx_tape w0 g) (hn : r[n]? = some (N : Int)) : ∀ (f : Nat) (kb : Nat × Nat) (t : sp_T) (as : List Nat) (pl : Nat × List Nat × Nat × Nat), sy_is r kb t → sy_plan x n f kb as = some pl → (∀ i, i < as.length → ∃ z, r[as.getD i 0]? = some z) → ∀ i, i < pl.2.1.length → ∃ z, r[pl.2.1.getD i 0]? = some z
  | 0, _, _, _, _, _, hy, _ => by cases hy
  | f + 1, kb, t, as, pl, h, hy, ha => by
    obtain ⟨h1, h2, h3, h4⟩ := h
    unfold sy_plan at hy
    split at hy
    · split at hy
      · cases hy
        exact ha
      · obtain ⟨o, ho, hy⟩ := Option.bind_eq_some_iff.mp hy
        split at hy
        · obtain ⟨kc, hc, hy⟩ := Option.bind_eq_some_iff.mp hy
          refine sy_plan_in g1 g2 hg hn f kc _ (as ++ [kb.2 + 2]) pl (sy_tk_ok g2 hg hn h3 hc) hy (fun i hi => ?_)
          rw [List.length_append] at hi
          have hi : i < as.length + 1 := hi
          rw [List.getD_eq_getElem?_getD]
          by_cases hia : i < as.length
          · rw [List.getElem?_append_left hia, ← List.getD_eq_getElem?_getD]
            exact ha i hia
          · rw [show i = as.length by omega, List.getElem?_append_right (Nat.le_refl _), Nat.sub_self]
            exact ⟨_, h4⟩
        · cases hy
          exact ha
    · cases hy
      exact ha
/-! every line of the class -/
section CLA
variable {ad : List Nat} {p : Program} {l : Launch} {e : Env} {R : Room} {s : State} {m : MethodId} {args : Array Value} {below : List Frame} {meth : Method} {c : Code} {D : va_G} {tys : ai_ty} {A : Nat → Prop} {b L : Nat} {sx : Nat → Int32} {cells slots : Nat} {Q : State → Prop}
theorem cl_kn {r : List Int} {ws : va_W} {n ln : Nat} {S : sp_S} (hi : cl_is n ws S ln) (h0 : r[0]? = some 0) (h2 : r[2]? = some (n : Int)) (h3 : r[3]? = some (S.1.2.1 : Int)) (h4 : r[4]? = some (S.1.2.2.1 : Int)) (h5 : r[5]? = some (ln : Int)) {kk : Int} (hk : kk = (S.1.1 : Int)) : ai_kn ad b r ws (cl_k kk) := by
  obtain ⟨i1, i3, i4, i5, i7, i8, i9, -⟩ := hi
  exact kc (i1.kn h2 (by omega)) (kc (i9.kn h3 (by omega)) (kc (i7.kn h4 (by omega)) (kc (i8.kn h0 (by omega)) (kc (i5.kn h0 (by omega)) (kc (i4.kn h5 (by omega)) k0)))))
theorem cl_sb {r : List Int} {ws : va_W} {n : Nat} {g : Nat → Int} {S : sp_S} (hT : sp_tape g n ws) (hle : S.1.2.2.1 ≤ n) (h2 : r[2]? = some (n : Int)) (h4 : r[4]? = some (S.1.2.2.1 : Int)) : ai_sb ws r cl_f := sbc (f350 h2 hT.1 hT.2) (sbc (f4 h4 h2 (by omega)) sb0)
set_option maxHeartbeats 2000000 in
theorem cl_line (C : ai_cx tb_m26 8 p R s m args c D tys A b L sx cells slots) {ws : va_W} {g : Nat → Int} {n ln : Nat} {S : sp_S} (hn : n ≤ 160) (hln : ln ≤ 160) (hw : ai_wd tb_TY ad tys ws) (hT : sp_tape g n ws) (hi : cl_is n ws S ln) (hv : sp_inv n S) {lv : List (Nat × Value)} (hlv : ai_lo ad b [0] tn_lo lv)
    (k1 : ∀ (pcr : Nat) (ws' : va_W) (lv' : List (Nat × Value)) (c1 P : Nat), (pcr = 64 ∨ pcr = 85) → ai_wd tb_TY ad tys ws' → ai_fr cl_W ws ws' → sp_line g n S = .inl (c1, P) → vi ws' 26 5 c1 → vi ws' 26 6 P → hG tb_m26 p l e R s m args below meth c D A cells slots Q pcr lv' [] ws')
    (k2 : ∀ (ws' : va_W) (lv' : List (Nat × Value)) (S' : sp_S), ai_wd tb_TY ad tys ws' → ai_fr cl_W ws ws' → sp_line g n S = .inr S' → cl_is n ws' S' (ln + 1) → (∀ E, cev ws 28 S.2.1 E → cev ws' 28 S'.2.1 (ev_line g n S E)) → hG tb_m26 p l e R s m args below meth c D A cells slots Q 100 lv' [] ws') : hG tb_m26 p l e R s m args below meth c D A cells slots Q 0 lv [] ws := by
  obtain ⟨⟨j, hj, hj2⟩, v1, v2, v3, v4, v5⟩ := hv
  have hi' := hi
  obtain ⟨i1, i3, i4, i5, i7, i8, i9, i10, i11, i12⟩ := hi
  have fin : ∀ {W : List (Nat × Nat × Nat)} {st : ai_s} {r : List Int} {ch : ai_s → Bool}, ((ai_ex (hkT W) 3000 26 tb_m26 8 [96] st).any fun xs => xs.all ch) = true → st.1 = 0 → ai_gm tb_TY W ws ad b L sx tys tb_m26.2.2.2.2.1 r st lv [] ws → wsub W cl_W = true → r[0]? = some 0 → r[2]? = some (n : Int) → r[4]? = some (S.1.2.2.1 : Int) → r[5]? = some (ln : Int) →
      (∀ (x : ai_s) (r' : List Int) (ws' : va_W), ch x = true → ai_x r r' → ai_ok r' x.2.2.2.1 → ai_sb ws r' x.2.2.2.2.2 → ai_wd tb_TY ad tys ws' → ai_fr W ws ws' → ai_kn ad b r' ws' x.2.2.2.2.1 → x.2.2.1.isEmpty = true ∧ ∃ (tests told : Option Int) (pl : Option (List Nat)) (y : sy_r) (t' T' : Nat) (as' : List Int), cl_res x tests told pl y = true ∧ sy_ok r' g n t' T' as' y (sp_line g n S) ∧ (tests = some (t' : Int) ∨ vi ws' 28 0 t') ∧ (told = some (T' : Int) ∨ vi ws' 26 3 T') ∧ ((∃ nm, pl = some nm ∧ as' = sy_v r' nm ∧ ∀ i, i < nm.length → ∃ z, r'[nm.getD i 0]? = some z) ∨ (vi ws' 28 3 as'.length ∧ ∀ i, i < as'.length → vi ws' 33 i (as'.getD i 0))) ∧ ∀ bb, y = .inr bb → ∀ E, cev ws 28 S.2.1 E → cev ws' 28 t' (ev_line g n S E)) →
      hG tb_m26 p l e R s m args below meth c D A cells slots Q 0 lv [] ws := by
    intro W st r ch hrun h0 gm hsub q0 q2 q4 q5 hch
    obtain ⟨xs, hx1, hx2⟩ := ai_anyE hrun
    rw [← h0]
    refine hsegT (st := st) hx1 rfl C gm (fun x hx r' lv' sk' ws' hx' g' => ?_)
    obtain ⟨g1, g2, g3, g4, g5, g6, g7, g8⟩ := g'
    obtain ⟨hs, tests, told, pl, y, t', T', as', h1, h2, h3, h4, h5, h6⟩ := hch x r' ws' (List.all_eq_true.mp hx2 x hx) hx' g1 g2 g5 g7 g6
    have hsk : sk' = [] := by
      rw [List.isEmpty_iff.mp hs] at g4
      exact g4.nil
    subst hsk
    exact cl_fin C hn hT i1 hsub g3 g5 g6 g7 (hx'.at q0) (hx'.at q5) h1 h2 h3 h4 h5 h6 k1 k2
  by_cases hk : S.1.1 = 1
  · have hline : sp_line g n S = sp_word1 g n (sp_word g S.1.2.1 S.1.2.2.1) S := by
      unfold sp_line
      rw [if_pos hk]
    have hw7 : sp_word g S.1.2.1 S.1.2.2.1 ≤ 7 := by rw [sp_word_P]; exact sp_P_le
    generalize hwd : sp_word g S.1.2.1 S.1.2.2.1 = w at hline hw7
    by_cases h7 : w = 7
    · subst h7
      refine fin (r := [0, 0, (n : Int), (S.1.2.1 : Int), (S.1.2.2.1 : Int), (ln : Int)]) cl_7r rfl ⟨en_mk (by simp only [cl_7, cl_e, en_b, and_true]; omega) rfl, sbc (fword (w := 7) rfl rfl ⟨_, rfl⟩ hT.1 (by omega) (by decide) hwd) (cl_sb hT v5 rfl rfl), lo0_ok (r := [0]) rfl rfl rfl hlv, trivial, hw, cl_kn hi' rfl rfl rfl rfl rfl (by omega), fun _ _ _ _ h => h, fun h => by cases h⟩ (by decide) rfl rfl rfl rfl (fun x r' ws' hc hx' g1 g2 hw' hf g6 => ?_)
      rw [Bool.and_eq_true] at hc
      exact ⟨hc.1, none, none, none, _, S.2.1, S.2.2.1, S.2.2.2, hc.2, ⟨S.1.2.1, hx'.at rfl, hline⟩, Or.inr (i10.fr hf (by decide)), Or.inr (i3.fr hf (by decide)), Or.inr ⟨i11.fr hf (by decide), fun i hi => (i12 i hi).fr hf (by unfold ai_wr cl_WN; simp)⟩, fun bb h => by cases h⟩
    · by_cases h4 : w < 4
      · have hsubT : wsub (cl_WT S.2.1) cl_W = true := by
          have : S.2.1 = 0 ∨ S.2.1 = 1 ∨ S.2.1 = 2 ∨ S.2.1 = 3 ∨ S.2.1 = 4 := by omega
          rcases this with h | h | h | h | h <;> rw [h] <;> decide
        have run : cl_Tr S.2.1 = true := by
          have : S.2.1 = 0 ∨ S.2.1 = 1 ∨ S.2.1 = 2 ∨ S.2.1 = 3 ∨ S.2.1 = 4 := by omega
          rcases this with h | h | h | h | h <;> rw [h]
          · exact cl_T0
          · exact cl_T1
          · exact cl_T2
          · exact cl_T3
          · exact cl_T4
        refine fin (st := cl_T S.2.1) (W := cl_WT S.2.1) (r := [0, 0, (n : Int), (S.1.2.1 : Int), (S.1.2.2.1 : Int), (ln : Int), (w : Int)]) run rfl ⟨en_mk (by simp only [cl_T, cl_e, List.cons_append, List.nil_append, en_b, and_true]; omega) rfl, sbc (fword (w := 0) rfl rfl ⟨_, rfl⟩ hT.1 (by omega) (by decide) (by rw [if_pos rfl, hwd]; exact ⟨rfl, h4⟩)) (cl_sb hT v5 rfl rfl), lo0_ok (r := [0]) rfl rfl rfl hlv, trivial, hw, kc (i10.kn (n := 0) (t := 0) rfl (by omega)) (cl_kn hi' rfl rfl rfl rfl rfl (by omega)), fun _ _ _ _ h => h, fun h => by cases h⟩ hsubT rfl rfl rfl rfl (fun x r' ws' hc hx' g1 g2 hw' hf g6 => ?_)
        unfold cl_Tok at hc
        rw [Bool.and_eq_true] at hc
        obtain ⟨y, hy, hy2⟩ := ai_anyE hc.2
        rw [Bool.and_eq_true, Bool.or_eq_true] at hy2
        have hb3 : ai_wr (cl_WT S.2.1) 26 3 3 = false := by unfold ai_wr cl_WT; simp
        have hb11 : ai_wr (cl_WT S.2.1) 28 3 3 = false := by unfold ai_wr cl_WT; simp
        refine ⟨hc.1, _, none, none, y, S.2.1 + 1, S.2.2.1, S.2.2.2, hy2.1, ?_, Or.inl (by congr 1), Or.inr (i3.fr hf hb3), Or.inr ⟨i11.fr hf hb11, fun i hi => (i12 i hi).fr hf (by unfold ai_wr cl_WT; simp)⟩, fun bb hbb E hE => ?_⟩
        rotate_left
        · subst hbb
          have ht4 : S.2.1 < 4 := by
            rcases Nat.lt_or_ge S.2.1 4 with h | h
            · exact h
            · exfalso
              rw [if_pos (show S.2.1 = 4 by omega)] at hy
              cases hy
          have hs : sy_ev x 2 4 (1, 6, 0, 0) (29, S.2.1) (30, S.2.1) (31, S.2.1) (32, S.2.1) = true := by
            rcases hy2.2 with h | h
            · cases h
            · exact h
          obtain ⟨u1, u2, u3, u4⟩ := sy_ev_ok (W := (w : Int)) g2 g6 hT.1 (hx'.at rfl) (hx'.at rfl) (hx'.at rfl) (hx'.at rfl) hs
          have hel : ev_line g n S E = ev_test E S.2.1 (w : Int) (sp_tok g n S.1.2.2.1).2.2.2 (ev_m g n (sp_tok g n S.1.2.2.1)) (ev_p g n (sp_tok g n S.1.2.2.1)) := by
            unfold ev_line ev_word
            rw [hwd, if_pos h4]
          rw [hel]
          exact cev_test ht4 hE hf (fun i hi => by
            unfold ai_wr cl_WT
            simp
            omega) (by unfold ai_wr cl_WT; simp) (by unfold ai_wr cl_WT; simp) u1 u2 u3 u4
        rw [hline]
        unfold sp_word1
        rw [if_neg h7, if_pos h4]
        split at hy
        · rename_i ht4
          cases hy
          rw [if_pos (by omega)]
          exact ⟨S.1.2.1, hx'.at rfl, rfl⟩
        · rename_i ht4
          rw [if_neg (by omega)]
          obtain ⟨kb, hb, hy⟩ := Option.bind_eq_some_iff.mp hy
          exact sy_t1_ok g1 g2 hT.1 (hx'.at rfl) (sy_tk_ok g2 hT.1 (hx'.at rfl) (hx'.at rfl) hb) hy
      · by_cases h6 : w = 6
        · subst h6
          by_cases hbit : S.2.2.1 / 2 ^ 6 % 2 = 1
          · have run : cl_Qr S.2.2.1 = true := by
              have := List.all_eq_true.mp cl_Q4 (j - 4) (List.mem_range.mpr (by omega))
              rw [show 64 + 16 * (j - 4) = S.2.2.1 by omega] at this
              exact this
            refine fin (st := cl_Q S.2.2.1) (r := [0, 0, (n : Int), (S.1.2.1 : Int), (S.1.2.2.1 : Int), (ln : Int)]) run rfl ⟨en_mk (by simp only [cl_Q, cl_e, en_b, and_true]; omega) rfl, sbc (fword (w := 6) rfl rfl ⟨_, rfl⟩ hT.1 (by omega) (by decide) hwd) (cl_sb hT v5 rfl rfl), lo0_ok (r := [0]) rfl rfl rfl hlv, trivial, hw, kc (i3.kn (n := 0) (t := 0) rfl (by omega)) (cl_kn hi' rfl rfl rfl rfl rfl (by omega)), fun _ _ _ _ h => h, fun h => by cases h⟩ (by decide) rfl rfl rfl rfl (fun x r' ws' hc hx' g1 g2 hw' hf g6 => ?_)
            rw [Bool.and_eq_true] at hc
            refine ⟨hc.1, none, none, none, _, S.2.1, S.2.2.1, S.2.2.2, hc.2, ?_, Or.inr (i10.fr hf (by decide)), Or.inr (i3.fr hf (by decide)), Or.inr ⟨i11.fr hf (by decide), fun i hi => (i12 i hi).fr hf (by unfold ai_wr cl_WN; simp)⟩, fun bb h => by cases h⟩
            rw [hline]
            unfold sp_word1
            rw [if_neg h7, if_neg h4, if_pos hbit]
            exact ⟨S.1.2.1, hx'.at rfl, rfl⟩
          · have has : S.2.2.2 = [] := v1 (by omega)
            have run : cl_Pr S.2.2.1 = true := by
              have : S.2.2.1 = 0 ∨ S.2.2.1 = 16 ∨ S.2.2.1 = 32 ∨ S.2.2.1 = 48 := by omega
              rcases this with h | h | h | h <;> rw [h]
              · exact cl_P0
              · exact cl_P1
              · exact cl_P2
              · exact cl_P3
            refine fin (st := cl_P S.2.2.1) (r := [0, 0, (n : Int), (S.1.2.1 : Int), (S.1.2.2.1 : Int), (ln : Int)]) run rfl ⟨en_mk (by simp only [cl_P, cl_e, en_b, and_true]; omega) rfl, sbc (fword (w := 6) rfl rfl ⟨_, rfl⟩ hT.1 (by omega) (by decide) hwd) (cl_sb hT v5 rfl rfl), lo0_ok (r := [0]) rfl rfl rfl hlv, trivial, hw, kc (i3.kn (n := 0) (t := 0) rfl (by omega)) (kc (i11.kn (n := 0) (t := 0) rfl (by rw [has]; rfl)) (cl_kn hi' rfl rfl rfl rfl rfl (by omega))), fun _ _ _ _ h => h, fun h => by cases h⟩ (by decide) rfl rfl rfl rfl (fun x r' ws' hc hx' g1 g2 hw' hf g6 => ?_)
            unfold cl_Pok at hc
            rw [Bool.and_eq_true] at hc
            obtain ⟨pl, hpl, hc2⟩ := ai_anyE hc.2
            obtain ⟨y, hy, hy2⟩ := ai_anyE hc2
            obtain ⟨kb, hb, hpl⟩ := Option.bind_eq_some_iff.mp hpl
            obtain ⟨tk, e1, e2⟩ := sy_plan_ok g1 g2 hT.1 (hx'.at rfl) 9 kb _ [] pl (sy_tk_ok g2 hT.1 (hx'.at rfl) (hx'.at rfl) hb) hpl
            refine ⟨hc.1, none, _, some pl.2.1, y, S.2.1, S.2.2.1 + 2 ^ 6, sy_v r' pl.2.1, hy2, ?_, Or.inr (i10.fr hf (by decide)), Or.inl (by congr 1), Or.inl ⟨pl.2.1, rfl, rfl, ?_⟩, fun bb hbb E hE => ?_⟩
            · rw [hline]
              unfold sp_word1
              rw [if_neg h7, if_neg h4, if_neg hbit, if_pos rfl]
              have e1 : sp_plan g n 9 (sp_tok g n S.1.2.2.1) [] = (pl.1, sy_v r' pl.2.1, tk) := e1
              rw [e1]
              exact sy_p1_ok e2 hy
            · exact sy_plan_in g1 g2 hT.1 (hx'.at rfl) 9 kb _ [] pl (sy_tk_ok g2 hT.1 (hx'.at rfl) (hx'.at rfl) hb) hpl (fun i hi => absurd hi (Nat.not_lt_zero _))
            · have hel : ev_line g n S E = E := by
                unfold ev_line ev_word
                rw [hwd, if_neg (by decide), if_neg (by decide), if_neg (by decide)]
              rw [hel]
              obtain ⟨q1, q2, q3⟩ := hE
              refine ⟨fun i hi => ?_, q2.fr hf (by decide), q3.fr hf (by decide)⟩
              obtain ⟨a1, a2, a3, a4⟩ := q1 i hi
              exact ⟨a1.fr hf (nowr_ok (by decide) i i), a2.fr hf (nowr_ok (by decide) i i), a3.fr hf (nowr_ok (by decide) i i), a4.fr hf (nowr_ok (by decide) i i)⟩
        · have hw45 : w = 4 ∨ w = 5 := by omega
          have run : cl_Or w S.2.2.1 = true := by
            rcases hw45 with rfl | rfl
            · have := List.all_eq_true.mp cl_O4 j (List.mem_range.mpr hj)
              rw [← hj2] at this
              exact this
            · have := List.all_eq_true.mp cl_O5 j (List.mem_range.mpr hj)
              rw [← hj2] at this
              exact this
          refine fin (st := cl_O w S.2.2.1) (W := cl_WO w) (r := [0, 0, (n : Int), (S.1.2.1 : Int), (S.1.2.2.1 : Int), (ln : Int)]) run rfl ⟨en_mk (by simp only [cl_O, cl_e, en_b, and_true]; omega) rfl, sbc (fword (w := w) rfl rfl ⟨_, rfl⟩ hT.1 (by omega) (by omega) (by rw [if_neg (by omega)]; exact hwd)) (cl_sb hT v5 rfl rfl), lo0_ok (r := [0]) rfl rfl rfl hlv, trivial, hw, kc (i3.kn (n := 0) (t := 0) rfl (by omega)) (cl_kn hi' rfl rfl rfl rfl rfl (by omega)), fun _ _ _ _ h => h, fun h => by cases h⟩ (by rcases hw45 with rfl | rfl <;> decide) rfl rfl rfl rfl (fun x r' ws' hc hx' g1 g2 hw' hf g6 => ?_)
          unfold cl_Ook at hc
          rw [Bool.and_eq_true] at hc
          obtain ⟨y, hy, hy2⟩ := ai_anyE hc.2
          rw [Bool.and_eq_true, Bool.or_eq_true] at hy2
          have hb10 : ai_wr (cl_WO w) 28 0 0 = false := by rcases hw45 with rfl | rfl <;> decide
          have hb11 : ai_wr (cl_WO w) 28 3 3 = false := by rcases hw45 with rfl | rfl <;> decide
          have hbr : ∀ k, 29 ≤ k → nowr (cl_WO w) k = true ∨ k = 1000 := fun k hk => by
            by_cases h1 : k = 1000
            · exact Or.inr h1
            · left
              have e1 : Nat.beq 26 k = false := Bool.eq_false_iff.mpr fun h => by have := ai_beq.mp h; omega
              have e2 : Nat.beq 28 k = false := Bool.eq_false_iff.mpr fun h => by have := ai_beq.mp h; omega
              unfold nowr cl_WO
              simp [e1, e2]
              exact ⟨by decide, by decide⟩
          refine ⟨hc.1, none, _, none, y, S.2.1, S.2.2.1 + 2 ^ w, S.2.2.2, hy2.1, ?_, Or.inr (i10.fr hf hb10), Or.inl (by congr 1), Or.inr ⟨i11.fr hf hb11, fun i hi => (i12 i hi).fr hf (nowr_ok ((hbr 33 (by decide)).resolve_right (by decide)) i i)⟩, fun bb hbb E hE => ?_⟩
          rotate_left
          · subst hbb
            have hs : sy_num x 2 4 (28, w - 3) 0 = true := by
              rcases hy2.2 with h | h
              · cases h
              · exact h
            have u1 := sy_num_ok g2 g6 hT.1 (hx'.at rfl) (hx'.at rfl) hs
            rw [Int.add_zero] at u1
            have hel : ev_line g n S E = ev_up E (15 + (w - 3)) (sp_tok g n S.1.2.2.1).2.2.2 := by
              unfold ev_line ev_word
              rw [hwd]
              rcases hw45 with rfl | rfl
              · rw [if_neg (by decide), if_pos rfl]
              · rw [if_neg (by decide), if_neg (by decide), if_pos rfl]
            rw [hel]
            refine cev_up (by omega) (by omega) hE hf ⟨(hbr 29 (by decide)).resolve_right (by decide), (hbr 30 (by decide)).resolve_right (by decide), (hbr 31 (by decide)).resolve_right (by decide), (hbr 32 (by decide)).resolve_right (by decide)⟩ ?_ u1
            rcases hw45 with rfl | rfl <;> decide
          rw [hline]
          unfold sp_word1
          rw [if_neg h7, if_neg h4]
          split at hy
          · rename_i hbit
            cases hy
            rw [if_pos hbit]
            exact ⟨S.1.2.1, hx'.at rfl, rfl⟩
          · rename_i hbit
            rw [if_neg hbit, if_neg h6]
            obtain ⟨kb, hb, hy⟩ := Option.bind_eq_some_iff.mp hy
            exact sy_o1_ok g1 g2 hT.1 (hx'.at rfl) (sy_tk_ok g2 hT.1 (hx'.at rfl) (hx'.at rfl) hb) hy
  · have hline : sp_line g n S = .inl (sp_ft S.1.1, S.1.2.1) := by
      unfold sp_line
      rw [if_neg hk]
    have run : cl_Nr S.1.1 = true := by
      have : S.1.1 = 0 ∨ S.1.1 = 2 ∨ S.1.1 = 3 ∨ S.1.1 = 4 := by omega
      rcases this with h | h | h | h <;> rw [h]
      · exact cl_N0
      · exact cl_N2
      · exact cl_N3
      · exact cl_N4
    refine fin (st := cl_N S.1.1) (r := [0, 0, (n : Int), (S.1.2.1 : Int), (S.1.2.2.1 : Int), (ln : Int)]) run rfl ⟨en_mk (by simp only [cl_N, cl_e, en_b, and_true]; omega) rfl, cl_sb hT v5 rfl rfl, lo0_ok (r := [0]) rfl rfl rfl hlv, trivial, hw, cl_kn hi' rfl rfl rfl rfl rfl rfl, fun _ _ _ _ h => h, fun h => by cases h⟩ (by decide) rfl rfl rfl rfl (fun x r' ws' hc hx' g1 g2 hw' hf g6 => ?_)
    unfold cl_Nok at hc
    rw [Bool.and_eq_true] at hc
    exact ⟨hc.1, none, none, none, _, S.2.1, S.2.2.1, S.2.2.2, hc.2, ⟨S.1.2.1, hx'.at rfl, hline⟩, Or.inr (i10.fr hf (by decide)), Or.inr (i3.fr hf (by decide)), Or.inr ⟨i11.fr hf (by decide), fun i hi => (i12 i hi).fr hf (by unfold ai_wr cl_WN; simp)⟩, fun bb h => by cases h⟩
end CLA
end
section
/-! a call by hand that answers yes or no; plansMissingTest -/
def hb_Q (P : va_W → Int32 → Prop) (D : va_G) (A : Nat → Prop) : Array Value → State → Outcome → State → Prop := fun _ st oc t => (∃ (ws : va_W) (z : Int32), P ws z ∧ va_P D vwCl ws t.heap ∧ va_D A ws ∧ oc = .returned (some (.int z))) ∧ va_F A st t
section HCB
variable {ad : List Nat} {M : ai_m} {d : Nat} {p : Program} {l : Launch} {e : Env} {R : Room} {s : State} {m : MethodId} {args : Array Value} {below : List Frame} {meth : Method} {c : Code} {D : va_G} {tys : ai_ty} {A : Nat → Prop} {b L : Nat} {sx : Nat → Int32} {cells slots : Nat} {Q : State → Prop}
theorem hcallB {q : ai_l5} {M' : ai_m} {pc cl : Nat} {t : ai_c} {rets : List Nat} {P : va_W → Int32 → Prop} {ws : va_W} {x : Value} {lv : List (Nat × Value)}
    (C : ai_cx M d p R s m args c D tys A b L sx cells slots) (hd1 : 1 ≤ d) (hdec : decode M.2.1 pc = .ok (.invokevirtual q.1, 3)) (hlok : ai_lok tb_MT M.1.cls q) (hq0 : q.2.1 = 0) (hq1 : q.2.2.2.1 = 0) (hM' : tb_MT[q.2.2.1]? = some M') (hsc : M'.2.2.2.2.1 = false) (hml : M'.2.2.1 ≤ 17) (hm1 : 1 ≤ M'.2.2.1) (hv : M'.2.2.2.1 = some .boolean)
    (ht : tb_TY[cl]? = some t) (t0 : t.1 = 0) (t1 : t.2.1 = q.2.2.2.2) (hw : ai_wd tb_TY ad tys ws) (hx : ai_dv ad b [0] (0, cl, 0, 0) x)
    (hr : ∀ pcr ∈ rets, decode M'.2.1 pcr = .ok (.ireturn, 1)) (h01 : ∀ ws z, P ws z → z = 0 ∨ z = 1)
    (callee : ∀ {p : Program} {e : Env} {R : Room} {s : State} {m : MethodId} {args : Array Value} {below : List Frame} {meth : Method} {c : Code} {Q : State → Prop}, ai_cx M' (d - 1) p R s m args c D tys A b L sx 0 0 → (∀ (pcr : Nat) (ws' : va_W) (z : Int32) (lv' : List (Nat × Value)), pcr ∈ rets → P ws' z → hG M' p l e R s m args below meth c D A 0 0 Q pcr lv' [.int z] ws') → ∀ lv0, ai_lo ad b [0] [(0, (0, cl, 0, 0))] lv0 → hG M' p l e R s m args below meth c D A 0 0 Q 0 lv0 [] ws)
    (k : ∀ ws' z, P ws' z → hG M p l e R s m args below meth c D A cells slots Q (pc + 3) lv [.int z] ws') : hG M p l e R s m args below meth c D A cells slots Q pc lv [x] ws := by
  intro H locs ls hP hD hS hl
  obtain ⟨a, e1, w1, w2, w3⟩ := hw.get ht
  have hxa : x = .ref a := by
    rcases hx with ⟨-, q', q1, q2⟩ | ⟨q', -⟩ | ⟨q', -⟩ | ⟨q', -⟩ | ⟨q', -⟩
    · rw [q2, Option.some.inj (q1.symm.trans w2)]
    · exact absurd (id q' : (0 : Nat) = 1) (by decide)
    · exact absurd (id q' : (0 : Nat) = 2) (by decide)
    · exact absurd (id q' : (0 : Nat) = 3) (by decide)
    · exact absurd (id q' : (0 : Nat) = 4) (by decide)
  subst hxa
  unfold ai_lok at hlok
  rw [hq0] at hlok
  obtain ⟨M2, rr, m1, m2, m3, m4⟩ := hlok
  rw [hM'] at m1
  cases m1
  obtain ⟨hok, hpl⟩ := (tv_MT M' (List.mem_of_getElem? hM')).1
  have hA : ∀ q, H.size ≤ q → A q := fun q hq => C.2.2.2.2.2.2.2.1 q (Nat.le_trans hS.1 hq)
  have met : Met l M'.1 (ai_ws M') (ai_rm (d - 1)) (va_Pc [.ref a] (fun U => U.heap = H ∧ va_K D vwCl tys U ∧ ai_nj A U)) (hb_Q P D A) 0 0 A := by
    refine Met.ofW (cc := M'.2.1) (maxL := M'.2.2.1) (ret := M'.2.2.2.1) hpl rfl ?_
    intro p e s m args below meth c s₁ B hmL hv'
    obtain ⟨rfl, hH, hK, hN⟩ := hv'
    have hts := atoms_spec (ws := ai_ws M') B.pre
    have hown : s.vm.findClass M'.1.cls = some m.cls := findClass_of_methodNamed B.named
    have C' : ai_cx M' (d - 1) p (headSpec (ai_ws M') (ai_rm (d - 1))).room s m ([Value.ref a] : List Value).toArray c D tys A b L sx 0 0 :=
      ⟨B.exec, B.bytes, hmL, hown, fun w h => hts w (List.mem_cons_of_mem _ h), hN, hK, fun q hq => hA q (by rw [← hH]; exact hq), ⟨Nat.le_refl _, Nat.le_refl _, Nat.zero_le _, Nat.zero_le _⟩, fun h => by rw [hsc] at h; cases h⟩
    have hl' := lv_entry [Value.ref a] (n := M'.2.2.1) (by exact hm1)
    rw [lg_entry_eq]
    have hh : s.heap = H := hH
    refine callee C' (fun pcr ws' z lv' hpr hPw => ?_) (lv_args 0 [.ref a]) ⟨rfl, Or.inl ⟨rfl, a, w2, rfl⟩, trivial⟩ s.heap [] _ (by rw [hh]; exact hP) hD va_S.rf hl'
    intro H2 locs2 ls2 hP2 hD2 hS2 hl2
    exact W.zret C'.1 C'.2.1 (B.returns.trans hv) (by rcases h01 ws' z hPw with rfl | rfl <;> rfl) (fun t ht hW => ⟨⟨ws', z, hPw, by rw [ht]; exact hP2, hD2, rfl⟩, hS2.F ht⟩) hS2.2.2 (hr pcr hpr) B.notSynchronized
  rcases w3 with ⟨-, fs, rfl, -⟩ | ⟨q1, -⟩ | ⟨q1, -⟩ | ⟨q1, -⟩
  · rw [t1] at w1
    refine ai_callW (va_runV (C := rr.1) (As := []) (rest := []) (Ts := ai_GT) (own := M.1.cls) ⟨C.1, C.2.1, C.2.2.1, C.2.2.2.1, C.2.2.2.2.1⟩ met (cwV q.2.2.2.1 C.2.2.2.2.1 m3 rfl rfl rfl m4 (ai_roomOK C hd1 hml)) ⟨ai_PcB, va_recv C.2.2.2.2.2.2.1 hP m2 w1, ai_PcW C hS⟩ rfl (by rw [hq1]; rfl) hl.1 rfl (lv_room (Nat.zero_le _)) hdec ⟨C.2.2.2.2.2.2.2.2.1.2.2.1, C.2.2.2.2.2.2.2.2.1.2.2.2⟩) (fun v0 st₀ t LL h0 hL hQ => ?_)
    obtain ⟨⟨ws', z, p1, p2, p3, p4⟩, hF⟩ := hQ
    injection p4 with p4
    subst p4
    exact k ws' z p1 t.heap (locs ++ LL) ls p2 p3 (ai_SF hS h0 hF hL) hl
  · omega
  · omega
  · omega
end HCB
def pm_lo (i : Nat) : List (Nat × ai_v) := [(0, (0, 26, 0, 0)), (1, (1, 0, 0, (i : Int)))]
def pm_st (i : Nat) : ai_s := (2, pm_lo i, [], [(0, 0, false, 0, 0), (0, 2555, false, 1, 0), (0, 8, false, 2, 0), (0, 4, false, 3, 0), (0, 4, false, 4, 0)], [(28, 3, (1, 2, 0, 0)), (28, 0, (1, 3, 0, 0)), (33, i, (1, 4, 0, 0))], [])
def pm_e (x : ai_s) (v : Nat) (h : ai_e → Bool) : Bool := (x.2.2.2.1[v]?).any h
def pm_ok (i : Nat) (x : ai_s) : Bool :=
  (Nat.beq x.1 54 && (decide (x.2.2.1 = [(1, 0, 0, 0)]) && pm_e x 2 fun e => decide (e.2.1 ≤ (i : Int)))) ||
  ((pm_e x 2 fun e => decide ((i : Int) + 1 ≤ e.1)) &&
   ((Nat.beq x.1 46 && (decide (x.2.2.1 = [(1, 0, 0, 1)]) && ((pm_e x 4 fun e => decide (e.2.1 ≤ 3)) && (av_f x 5 4 3 none 0 || av_f x 4 3 4 none 1)))) ||
    (Nat.beq x.1 50 && (x.2.2.1.isEmpty && (decide (ai_get x.2.1 0 = some (0, 26, 0, 0)) && (decide (ai_get x.2.1 1 = some (1, 0, 0, (i : Int) + 1)) && ((pm_e x 4 fun e => decide (4 ≤ e.1)) || (av_f x 4 4 3 none 0 || av_f x 5 3 4 none 1))))))))
noncomputable def pm_r (i : Nat) : Bool := (ai_ex (hk []) 100 30 tb_m30 6 [50] (pm_st i)).any fun xs => xs.all (pm_ok i)
theorem pm_r0 : ((List.range 8).all pm_r) = true := by decide +kernel
def pm_8 : ai_s := (2, pm_lo 8, [], [(0, 0, false, 0, 0), (0, 2555, false, 1, 0), (0, 8, false, 2, 0)], [(28, 3, (1, 2, 0, 0))], [])
theorem pm_r8 : ((ai_ex (hk []) 100 30 tb_m30 6 [50] pm_8).any fun xs => xs.all fun x => Nat.beq x.1 54 && decide (x.2.2.1 = [(1, 0, 0, 0)])) = true := by decide +kernel
def pm_0 : ai_s := (0, tn_lo, [], [(0, 0, false, 0, 0), (0, 2555, false, 1, 0)], [], [])
theorem pm_r00 : ((ai_ex (hk []) 20 30 tb_m30 6 [2] pm_0).any fun xs => xs.all fun x => Nat.beq x.1 2 && (x.2.2.1.isEmpty && (decide (ai_get x.2.1 0 = some (0, 26, 0, 0)) && decide (ai_get x.2.1 1 = some (1, 0, 0, 0))))) = true := by decide +kernel
end
section
/-! plansMissingTest against the highest act -/
theorem sp_high_go {t : Int} : ∀ (as : List Int) (h : Int), t ≤ as.foldl (fun h a => if a < 4 ∧ h < a then a else h) h ↔ t ≤ h ∨ ∃ a, a ∈ as ∧ a < 4 ∧ t ≤ a
  | [], h => by
    show t ≤ h ↔ _
    refine ⟨Or.inl, fun k => ?_⟩
    rcases k with k | ⟨a, k, -⟩
    · exact k
    · cases k
  | a :: as, h => by
    show t ≤ as.foldl _ (if a < 4 ∧ h < a then a else h) ↔ _
    rw [sp_high_go as]
    constructor
    · rintro (k | ⟨x, k1, k2⟩)
      · split at k
        · rename_i hc
          exact Or.inr ⟨a, List.mem_cons_self, hc.1, k⟩
        · exact Or.inl k
      · exact Or.inr ⟨x, List.mem_cons_of_mem _ k1, k2⟩
    · rintro (k | ⟨x, k1, k2⟩)
      · left
        split
        · omega
        · exact k
      · rcases List.mem_cons.mp k1 with rfl | k1
        · left
          split
          · exact k2.2
          · omega
        · exact Or.inr ⟨x, k1, k2⟩
theorem sp_high_iff {t : Int} (ht : 0 ≤ t) {as : List Int} : t ≤ sp_high as ↔ ∃ a, a ∈ as ∧ a < 4 ∧ t ≤ a := by
  unfold sp_high
  rw [sp_high_go]
  exact ⟨fun h => h.resolve_left (by omega), Or.inr⟩
def pm_x (i : Nat) : ai_s := (2, pm_lo i, [], [(0, 0, false, 0, 0), (0, 2555, false, 1, 0), (0, (i : Int), false, 2, 0)], [(28, 3, (1, 2, 0, 0))], [])
noncomputable def pm_xr (i : Nat) : Bool := (ai_ex (hk []) 100 30 tb_m30 6 [50] (pm_x i)).any fun xs => xs.all fun x => Nat.beq x.1 54 && decide (x.2.2.1 = [(1, 0, 0, 0)])
theorem pm_rx : ((List.range 9).all pm_xr) = true := by decide +kernel
section PMA
variable {ad : List Nat} {p : Program} {l : Launch} {e : Env} {R : Room} {s : State} {m : MethodId} {args : Array Value} {below : List Frame} {meth : Method} {c : Code} {D : va_G} {tys : ai_ty} {A : Nat → Prop} {b L : Nat} {sx : Nat → Int32} {cells slots : Nat} {Q : State → Prop}
theorem pm_back (C : ai_cx tb_m30 6 p R s m args c D tys A b L sx cells slots) {ws : va_W} {lv : List (Nat × Value)} (k : hG tb_m30 p l e R s m args below meth c D A cells slots Q 2 lv [] ws) : hG tb_m30 p l e R s m args below meth c D A cells slots Q 50 lv [] ws := by
  intro H locs ls hP hD hS hl
  exact lv_goto (tgt := 2) C.1 C.2.1 (tv_m30.1.1.1 (50, .goto (-48), 3) (List.mem_of_getElem? (i := 26) rfl)) (by decide) (k H locs ls hP hD hS hl)
def pm_P (t : Nat) (as : List Int) (z : Int32) : Prop := (z = 1 ∧ (t : Int) ≤ sp_high as) ∨ (z = 0 ∧ ¬ (t : Int) ≤ sp_high as)
theorem pm_all (C : ai_cx tb_m30 6 p R s m args c D tys A b L sx cells slots) {ws : va_W} {t : Nat} {as : List Int} (hw : ai_wd tb_TY ad tys ws) (h3 : vi ws 28 3 as.length) (h0 : vi ws 28 0 t) (ht : t ≤ 4) (hlen : as.length ≤ 8) (ha : ∀ i, i < as.length → vi ws 33 i (as.getD i 0)) (hb : ∀ a, a ∈ as → 0 ≤ a ∧ a ≤ 4) {lv : List (Nat × Value)} (hlv : ai_lo ad b [0] tn_lo lv)
    (k : ∀ (pcr : Nat) (ws' : va_W) (lv' : List (Nat × Value)) (z : Int32), (pcr = 46 ∨ pcr = 54) → ai_wd tb_TY ad tys ws' → ai_fr [] ws ws' → pm_P t as z → hG tb_m30 p l e R s m args below meth c D A cells slots Q pcr lv' [.int z] ws') : hG tb_m30 p l e R s m args below meth c D A cells slots Q 0 lv [] ws := by
  have wn : ∀ (k i : Nat), ai_wr [] k i i = false := fun _ _ => rfl
  have one : ∀ {x : ai_s} {r' : List Int} {sk' : List Value} {o : Int}, x.2.2.1 = [(1, 0, 0, o)] → r'[0]? = some 0 → ai_sk ad b r' x.2.2.1 sk' → ∃ z : Int32, sk' = [.int z] ∧ z.toInt = o := fun {x r' sk' o} hx r0 g4 => by
    rw [hx] at g4
    obtain ⟨y, s1, rfl, dy, g4⟩ := g4.cons
    have hs1 := g4.nil
    subst hs1
    obtain ⟨z, rfl, hz⟩ := dvn dy r0
    exact ⟨z, rfl, by omega⟩
  have last : ∀ (i : Nat), i ≤ 8 → as.length ≤ i → (∀ j, j < i → j < as.length → ¬ (as.getD j 0 < 4 ∧ (t : Int) ≤ as.getD j 0)) → ∀ (ws' : va_W) (lv' : List (Nat × Value)), ai_wd tb_TY ad tys ws' → ai_fr [] ws ws' → ai_lo ad b [0] (pm_lo i) lv' → hG tb_m30 p l e R s m args below meth c D A cells slots Q 2 lv' [] ws' := by
    intro i hi him hpre ws' lv' hw' hf' hlv'
    obtain ⟨xs, hx1, hx2⟩ := ai_anyE (List.all_eq_true.mp pm_rx i (List.mem_range.mpr (by omega)))
    have gm : ai_gm tb_TY [] ws' ad b L sx tys tb_m30.2.2.2.2.1 [0, 0, (as.length : Int)] (pm_x i) lv' [] ws' := by
      refine ⟨en_mk (by simp only [pm_x, en_b, and_true]; omega) rfl, sb0, lo0_ok (r := [0]) rfl rfl rfl hlv', trivial, hw', kc ((h3.fr hf' (wn _ _)).kn (n := 2) (t := (as.length : Int)) rfl (by omega)) k0, fun _ _ _ _ h => h, fun h => by cases h⟩
    refine hseg (st := pm_x i) hx1 rfl C gm (fun x hx r' lv2 sk' ws2 hx' g' => ?_)
    obtain ⟨g1, g2, g3, g4, g5, g6, g7, g8⟩ := g'
    have hox := List.all_eq_true.mp hx2 x hx
    rw [Bool.and_eq_true, ai_beq, decide_eq_true_eq] at hox
    obtain ⟨z, rfl, hz⟩ := one hox.2 (hx'.at rfl) g4
    rw [hox.1]
    refine k 54 ws2 lv2 z (Or.inr rfl) g5 (hf'.tr g7) (Or.inr ⟨Int32.toInt_inj.mp (by rw [hz]; rfl), fun hc => ?_⟩)
    obtain ⟨a, a1, a2, a3⟩ := (sp_high_iff (by omega)).mp hc
    obtain ⟨j, hj, rfl⟩ := List.mem_iff_getElem.mp a1
    refine hpre j (by omega) hj ?_
    rw [List.getD_eq_getElem?_getD, List.getElem?_eq_getElem hj]
    exact ⟨a2, a3⟩
  have loop : ∀ (N i : Nat), i + N = 8 → (∀ j, j < i → j < as.length → ¬ (as.getD j 0 < 4 ∧ (t : Int) ≤ as.getD j 0)) → ∀ (ws' : va_W) (lv' : List (Nat × Value)), ai_wd tb_TY ad tys ws' → ai_fr [] ws ws' → ai_lo ad b [0] (pm_lo i) lv' → hG tb_m30 p l e R s m args below meth c D A cells slots Q 2 lv' [] ws' := by
    intro N
    induction N with
    | zero =>
      intro i hi hpre ws' lv' hw' hf' hlv'
      exact last i (by omega) (by omega) hpre ws' lv' hw' hf' hlv'
    | succ N ih =>
      intro i hi hpre ws' lv' hw' hf' hlv'
      by_cases him : as.length ≤ i
      · exact last i (by omega) him hpre ws' lv' hw' hf' hlv'
      · have hmem : as.getD i 0 ∈ as := by
          rw [List.getD_eq_getElem?_getD, List.getElem?_eq_getElem (by omega)]
          exact List.getElem_mem _
        obtain ⟨b1, b2⟩ := hb _ hmem
        obtain ⟨xs, hx1, hx2⟩ := ai_anyE (List.all_eq_true.mp pm_r0 i (List.mem_range.mpr (by omega)))
        have gm : ai_gm tb_TY [] ws' ad b L sx tys tb_m30.2.2.2.2.1 [0, 0, (as.length : Int), (t : Int), as.getD i 0] (pm_st i) lv' [] ws' := by
          refine ⟨en_mk (by simp only [pm_st, en_b, and_true]; omega) rfl, sb0, lo0_ok (r := [0]) rfl rfl rfl hlv', trivial, hw', kc ((h3.fr hf' (wn _ _)).kn (n := 2) (t := (as.length : Int)) rfl (by omega)) (kc ((h0.fr hf' (wn _ _)).kn (n := 3) (t := (t : Int)) rfl (by omega)) (kc (((ha i (by omega)).fr hf' (wn _ _)).kn (n := 4) (t := as.getD i 0) rfl (by omega)) k0)), fun _ _ _ _ h => h, fun h => by cases h⟩
        refine hseg (st := pm_st i) hx1 rfl C gm (fun x hx r' lv2 sk' ws2 hx' g' => ?_)
        obtain ⟨g1, g2, g3, g4, g5, g6, g7, g8⟩ := g'
        have r0 : r'[0]? = some 0 := hx'.at rfl
        have r2 : r'[2]? = some (as.length : Int) := hx'.at rfl
        have r3 : r'[3]? = some (t : Int) := hx'.at rfl
        have r4 : r'[4]? = some (as.getD i 0) := hx'.at rfl
        have hox := List.all_eq_true.mp hx2 x hx
        unfold pm_ok at hox
        rw [Bool.or_eq_true] at hox
        rcases hox with hox | hox
        · rw [Bool.and_eq_true, Bool.and_eq_true] at hox
          obtain ⟨e0, c1, c2, c3⟩ := ai_any g1 r2 hox.2.2
          rw [decide_eq_true_eq] at c1
          omega
        · rw [Bool.and_eq_true, Bool.or_eq_true] at hox
          obtain ⟨-, hox⟩ := hox
          rcases hox with hox | hox
          · rw [Bool.and_eq_true, Bool.and_eq_true, Bool.and_eq_true, ai_beq, decide_eq_true_eq, Bool.or_eq_true] at hox
            obtain ⟨p1, p2, p3, p4⟩ := hox
            obtain ⟨z, rfl, hz⟩ := one p2 r0 g4
            obtain ⟨e0, c1, c2, c3⟩ := ai_any g1 r4 p3
            rw [decide_eq_true_eq] at c1
            have hta : (t : Int) ≤ as.getD i 0 := by
              rcases p4 with p4 | p4
              · have := av_f5 g2 r4 r3 p4
                omega
              · have := av_f4 g2 r3 r4 p4
                omega
            rw [p1]
            exact k 46 ws2 lv2 z (Or.inl rfl) g5 (hf'.tr g7) (Or.inl ⟨Int32.toInt_inj.mp (by rw [hz]; rfl), (sp_high_iff (by omega)).mpr ⟨_, hmem, by omega, hta⟩⟩)
          · rw [Bool.and_eq_true, Bool.and_eq_true, Bool.and_eq_true, Bool.and_eq_true, ai_beq, decide_eq_true_eq, decide_eq_true_eq, Bool.or_eq_true, Bool.or_eq_true] at hox
            obtain ⟨p1, hs, p2, p3, p4⟩ := hox
            have hsk : sk' = [] := by
              rw [List.isEmpty_iff.mp hs] at g4
              exact g4.nil
            subst hsk
            rw [p1]
            refine hG_this2 g3 r0 p2 p3 (fun lv3 hlv3 => pm_back C (ih (i + 1) (by omega) (fun j hj hj2 => ?_) ws2 lv3 g5 (hf'.tr g7) hlv3))
            by_cases hji : j < i
            · exact hpre j hji hj2
            · rw [show j = i by omega]
              rcases p4 with p4 | p4 | p4
              · obtain ⟨e0, c1, c2, c3⟩ := ai_any g1 r4 p4
                rw [decide_eq_true_eq] at c1
                omega
              · have := av_f4 g2 r4 r3 p4
                omega
              · have := av_f5 g2 r3 r4 p4
                omega
  obtain ⟨xs, h1, h3'⟩ := ai_anyE pm_r00
  have gm : ai_gm tb_TY [] ws ad b L sx tys tb_m30.2.2.2.2.1 [0, 0] pm_0 lv [] ws := by
    refine ⟨en_mk (by simp only [pm_0, en_b, and_true]; omega) rfl, sb0, lo0_ok (r := [0]) rfl rfl rfl hlv, trivial, hw, k0, fun _ _ _ _ h => h, fun h => by cases h⟩
  refine hseg (st := pm_0) h1 rfl C gm (fun x hx r' lv2 sk' ws2 hx' g' => ?_)
  obtain ⟨g1, g2, g3, g4, g5, g6, g7, g8⟩ := g'
  have r0 : r'[0]? = some 0 := hx'.at rfl
  have hox := List.all_eq_true.mp h3' x hx
  rw [Bool.and_eq_true, Bool.and_eq_true, Bool.and_eq_true, ai_beq, decide_eq_true_eq, decide_eq_true_eq] at hox
  obtain ⟨p1, hs, p2, p3⟩ := hox
  have hsk : sk' = [] := by
    rw [List.isEmpty_iff.mp hs] at g4
    exact g4.nil
  subst hsk
  rw [p1]
  exact hG_this2 g3 r0 p2 p3 (fun lv1 hlv1 => loop 8 0 rfl (fun j hj => absurd hj (Nat.not_lt_zero _)) ws2 lv1 g5 g7 hlv1)
end PMA
end
section
/-! what a line's function keeps: bounds, and that it goes on -/
theorem sp_tok_le {g : Nat → Int} {n p : Nat} (hp : p ≤ n) : p ≤ (sp_tok g n p).2.1 ∧ (sp_tok g n p).2.1 ≤ (sp_tok g n p).2.2.1 ∧ (sp_tok g n p).2.2.1 ≤ n ∧ (sp_tok g n p).1 ≤ 4 ∧ ((sp_tok g n p).1 = 3 → (sp_tok g n p).2.1 < (sp_tok g n p).2.2.1) := by
  have h1 := tp_skip_le (g := g) (n := n) (p := p) (lo := 32) (hi := 32)
  unfold sp_tok
  generalize tp_skip g n 32 32 p = F at h1 ⊢
  have h1b := h1.2 hp
  have h2 := tp_skip_le (g := g) (n := n) (p := F) (lo := 97) (hi := 122)
  have h3 := tp_skip_le (g := g) (n := n) (p := F) (lo := 48) (hi := 57)
  have h2b := h2.2 h1b
  have h3b := h3.2 h1b
  have h1a := h1.1
  have h2a := h2.1
  have h3a := h3.1
  by_cases c1 : n ≤ F
  · rw [if_pos c1]
    exact ⟨h1a, Nat.le_refl _, h1b, by show 0 ≤ 4; decide, fun h => absurd (show (0 : Nat) = 3 from h) (by decide)⟩
  · rw [if_neg c1]
    by_cases c2 : g F = 59
    · rw [if_pos c2]
      exact ⟨h1a, Nat.le_succ _, by show F + 1 ≤ n; omega, by show 3 ≤ 4; decide, fun _ => Nat.lt_succ_self _⟩
    · rw [if_neg c2]
      by_cases c3 : tp_i (g F) 97 122 = true
      · rw [if_pos c3]
        exact ⟨h1a, h2a, h2b, by show 1 ≤ 4; decide, fun h => absurd (show (1 : Nat) = 3 from h) (by decide)⟩
      · rw [if_neg c3]
        by_cases c4 : tp_i (g F) 48 57 = true
        · rw [if_pos c4]
          by_cases c5 : 2 < tp_skip g n 48 57 F - F
          · rw [if_pos c5]
            exact ⟨h1a, h3a, h3b, by show 4 ≤ 4; decide, fun h => absurd (show (4 : Nat) = 3 from h) (by decide)⟩
          · rw [if_neg c5]
            exact ⟨h1a, h3a, h3b, by show 2 ≤ 4; decide, fun h => absurd (show (2 : Nat) = 3 from h) (by decide)⟩
        · rw [if_neg c4]
          exact ⟨h1a, Nat.le_refl _, h1b, by show 4 ≤ 4; decide, fun h => absurd (show (4 : Nat) = 3 from h) (by decide)⟩
/-- a line's result: a fault of 1 to 5 within the tape, or the token behind a stop -/
def sp_go (g : Nat → Int) (n p tests told : Nat) (as : List Int) : sp_R → Prop
  | .inl x => 1 ≤ x.1 ∧ x.1 ≤ 5 ∧ x.2 ≤ n
  | .inr S => ∃ e, p < e ∧ e ≤ n ∧ S = (sp_tok g n e, tests, told, as)
theorem sp_ft_ok {k : Nat} : 1 ≤ sp_ft k ∧ sp_ft k ≤ 5 := by
  unfold sp_ft
  split <;> omega
section SPG
variable {g : Nat → Int} {n p q tests told : Nat} {as : List Int}
theorem sp_go.mono {R : sp_R} (h : sp_go g n q tests told as R) (hp : p ≤ q) : sp_go g n p tests told as R := by
  cases R with
  | inl x => exact h
  | inr S =>
    obtain ⟨e, h1, h2⟩ := h
    exact ⟨e, by omega, h2⟩
theorem sp_stop_go (hp : p ≤ n) : sp_go g n p tests told as (sp_stop g n tests told as (sp_tok g n p)) := by
  obtain ⟨h1, h2, h3, -, h5⟩ := sp_tok_le (g := g) hp
  unfold sp_stop
  by_cases c : (sp_tok g n p).1 = 3
  · rw [if_pos c]
    exact ⟨_, by have := h5 c; omega, h3, rfl⟩
  · rw [if_neg c]
    exact ⟨sp_ft_ok.1, sp_ft_ok.2, by show (sp_tok g n p).2.1 ≤ n; omega⟩
theorem sp_t3_go (hp : p ≤ n) : sp_go g n p tests told as (sp_t3 g n tests told as (sp_tok g n p)) := by
  obtain ⟨h1, h2, h3, -, h5⟩ := sp_tok_le (g := g) hp
  unfold sp_t3
  by_cases c : (sp_tok g n p).1 = 2
  · rw [if_pos c]
    split
    · exact (sp_stop_go h3).mono (by omega)
    · exact ⟨by show 1 ≤ 3; decide, by show 3 ≤ 5; decide, by show (sp_tok g n p).2.1 ≤ n; omega⟩
  · rw [if_neg c]
    exact sp_stop_go hp
theorem sp_t2_go {z : Int} (hp : p ≤ n) : sp_go g n p tests told as (sp_t2 g n tests told as z (sp_tok g n p)) := by
  obtain ⟨h1, h2, h3, -, h5⟩ := sp_tok_le (g := g) hp
  unfold sp_t2
  by_cases c : (sp_tok g n p).1 = 2
  · rw [if_pos c]
    split
    · exact (sp_t3_go h3).mono (by omega)
    · exact ⟨by show 1 ≤ 3; decide, by show 3 ≤ 5; decide, by show (sp_tok g n p).2.1 ≤ n; omega⟩
  · rw [if_neg c]
    exact sp_stop_go hp
theorem sp_t1_go (hp : p ≤ n) : sp_go g n p (tests + 1) told as (sp_t1 g n tests told as (sp_tok g n p)) := by
  obtain ⟨h1, h2, h3, -, h5⟩ := sp_tok_le (g := g) hp
  unfold sp_t1
  by_cases c : (sp_tok g n p).1 = 2
  · rw [if_pos c]
    split
    · exact (sp_t2_go h3).mono (by omega)
    · exact ⟨by show 1 ≤ 3; decide, by show 3 ≤ 5; decide, by show (sp_tok g n p).2.1 ≤ n; omega⟩
  · rw [if_neg c]
    exact ⟨sp_ft_ok.1, sp_ft_ok.2, by show (sp_tok g n p).2.1 ≤ n; omega⟩
theorem sp_o1_go {z : Int} (hp : p ≤ n) : sp_go g n p tests told as (sp_o1 g n tests told as z (sp_tok g n p)) := by
  obtain ⟨h1, h2, h3, -, h5⟩ := sp_tok_le (g := g) hp
  unfold sp_o1
  by_cases c : (sp_tok g n p).1 = 2
  · rw [if_pos c]
    split
    · exact (sp_stop_go h3).mono (by omega)
    · exact ⟨by show 1 ≤ 3; decide, by show 3 ≤ 5; decide, by show (sp_tok g n p).2.1 ≤ n; omega⟩
  · rw [if_neg c]
    exact ⟨sp_ft_ok.1, sp_ft_ok.2, by show (sp_tok g n p).2.1 ≤ n; omega⟩
def sp_acts (as : List Int) : Prop := as.length ≤ 8 ∧ ∀ a, a ∈ as → 0 ≤ a ∧ a ≤ 4
theorem sp_plan_go : ∀ (f p : Nat) (as : List Int), p ≤ n → sp_acts as → ∃ (t q : Nat) (bs : List Int), sp_plan g n f (sp_tok g n p) as = (t, bs, sp_tok g n q) ∧ p ≤ q ∧ q ≤ n ∧ sp_acts bs ∧ (t = 0 ∨ t = 3 ∨ t = 5)
  | 0, p, as, hp, ha => ⟨0, p, as, rfl, Nat.le_refl _, hp, ha, Or.inl rfl⟩
  | f + 1, p, as, hp, ha => by
    obtain ⟨h1, h2, h3, -, h5⟩ := sp_tok_le (g := g) hp
    unfold sp_plan
    by_cases c : (sp_tok g n p).1 = 2
    · rw [if_pos c]
      by_cases c8 : 8 ≤ as.length
      · rw [if_pos c8]
        exact ⟨5, p, as, rfl, Nat.le_refl _, hp, ha, Or.inr (Or.inr rfl)⟩
      · rw [if_neg c8]
        by_cases ci : tp_i (sp_tok g n p).2.2.2 0 4 = true
        · rw [if_pos ci]
          have hi := tp_i_iff.mp ci
          obtain ⟨t, q, bs, e1, e2, e3, e4, e5⟩ := sp_plan_go f (sp_tok g n p).2.2.1 (as ++ [(sp_tok g n p).2.2.2]) h3 ⟨by rw [List.length_append]; show as.length + 1 ≤ 8; omega, fun a h => by
            rcases List.mem_append.mp h with h | h
            · exact ha.2 a h
            · rw [List.mem_singleton.mp h]; exact hi⟩
          exact ⟨t, q, bs, e1, by omega, e3, e4, e5⟩
        · rw [if_neg ci]
          exact ⟨3, p, as, rfl, Nat.le_refl _, hp, ha, Or.inr (Or.inl rfl)⟩
    · rw [if_neg c]
      exact ⟨0, p, as, rfl, Nat.le_refl _, hp, ha, Or.inl rfl⟩
end SPG
def sp_inv2 (n : Nat) (S : sp_S) : Prop := sp_inv n S ∧ sp_acts S.2.2.2 ∧ S.1.2.1 ≤ S.1.2.2.1
def sp_next (n : Nat) (S : sp_S) : sp_R → Prop
  | .inl x => 1 ≤ x.1 ∧ x.1 ≤ 5 ∧ x.2 ≤ n
  | .inr S' => sp_inv2 n S' ∧ S.1.2.2.1 < S'.1.2.2.1
theorem sp_next_of {g : Nat → Int} {n tests told : Nat} {as : List Int} {S : sp_S} {R : sp_R} (h : sp_go g n S.1.2.2.1 tests told as R) (h1 : ∃ j, j < 8 ∧ told = 16 * j) (h2 : told / 64 % 2 = 0 → as = []) (h3 : tests ≤ 4) (h4 : sp_acts as) : sp_next n S R := by
  cases R with
  | inl x => exact h
  | inr S' =>
    obtain ⟨e, e1, e2, rfl⟩ := h
    obtain ⟨k1, k2, k3, k4, -⟩ := sp_tok_le (g := g) e2
    exact ⟨⟨⟨h1, h2, h3, k4, by show (sp_tok g n e).2.1 ≤ n; omega, k3⟩, h4, k2⟩, by show S.1.2.2.1 < (sp_tok g n e).2.2.1; omega⟩
theorem sp_line_go {g : Nat → Int} {n : Nat} {S : sp_S} (h : sp_inv2 n S) : sp_next n S (sp_line g n S) := by
  obtain ⟨⟨⟨j, j1, j2⟩, i2, i3, i4, i5, i6⟩, a1, a2⟩ := h
  unfold sp_line
  by_cases c : S.1.1 = 1
  · rw [if_pos c]
    have hw : sp_word g S.1.2.1 S.1.2.2.1 ≤ 7 := by rw [sp_word_P]; exact sp_P_le
    generalize sp_word g S.1.2.1 S.1.2.2.1 = w at hw
    unfold sp_word1
    by_cases c7 : w = 7
    · rw [if_pos c7]
      exact ⟨by show 1 ≤ 2; decide, by show 2 ≤ 5; decide, i5⟩
    · rw [if_neg c7]
      by_cases c4 : w < 4
      · rw [if_pos c4]
        by_cases ct : 4 ≤ S.2.1
        · rw [if_pos ct]
          exact ⟨by show 1 ≤ 5; decide, by show 5 ≤ 5; decide, i5⟩
        · rw [if_neg ct]
          exact sp_next_of (sp_t1_go i6) ⟨j, j1, j2⟩ i2 (by omega) a1
      · rw [if_neg c4]
        by_cases cb : S.2.2.1 / 2 ^ w % 2 = 1
        · rw [if_pos cb]
          exact ⟨by show 1 ≤ 4; decide, by show 4 ≤ 5; decide, i5⟩
        · rw [if_neg cb]
          by_cases c6 : w = 6
          · rw [if_pos c6]
            subst c6
            obtain ⟨t, q, bs, e1, e2, e3, e4, e5⟩ := sp_plan_go (g := g) 9 S.1.2.2.1 [] i6 ⟨Nat.zero_le _, fun a h => by cases h⟩
            rw [e1]
            unfold sp_p1
            by_cases ct : t = 0
            · rw [if_pos (show (t, bs, sp_tok g n q).1 = 0 from ct)]
              exact sp_next_of (tests := S.2.1) (told := S.2.2.1 + 2 ^ 6) (as := bs) ((sp_stop_go e3).mono e2) ⟨j + 4, by omega, by omega⟩ (fun h => by omega) i3 e4
            · rw [if_neg (show ¬ (t, bs, sp_tok g n q).1 = 0 from ct)]
              obtain ⟨k1, k2, k3, k4, -⟩ := sp_tok_le (g := g) e3
              exact ⟨by show 1 ≤ t; omega, by show t ≤ 5; omega, by show (sp_tok g n q).2.1 ≤ n; omega⟩
          · rw [if_neg c6]
            have hw45 : w = 4 ∨ w = 5 := by omega
            rcases hw45 with rfl | rfl
            · exact sp_next_of (sp_o1_go i6) ⟨j + 1, by omega, by omega⟩ (fun h => i2 (by omega)) i3 a1
            · exact sp_next_of (sp_o1_go i6) ⟨j + 2, by omega, by omega⟩ (fun h => i2 (by omega)) i3 a1
  · rw [if_neg c]
    exact ⟨sp_ft_ok.1, sp_ft_ok.2, i5⟩
theorem sp_start {g : Nat → Int} {n : Nat} : sp_inv2 n (sp_tok g n 0, 0, 0, []) := by
  obtain ⟨k1, k2, k3, k4, -⟩ := sp_tok_le (g := g) (Nat.zero_le n)
  exact ⟨⟨⟨0, by decide, rfl⟩, fun _ => rfl, Nat.zero_le _, k4, by show (sp_tok g n 0).2.1 ≤ n; omega, k3⟩, ⟨Nat.zero_le _, fun a h => by cases h⟩, k2⟩
end
section
/-! what a line keeps of the page: moved at most size below t, nothing told from t on -/
def ev_ok (t : Nat) (E : Nat → Int) : Prop := ∀ i, i < 4 → (i < t → E (8 + i) ≤ E (4 + i)) ∧ (t ≤ i → E (8 + i) = 0 ∧ E (12 + i) = 0)
theorem sp_t1_m {g : Nat → Int} {n tests told : Nat} {as : List Int} {t1 : sp_T} {S' : sp_S} (h : sp_t1 g n tests told as t1 = .inr S') : ev_m g n t1 ≤ t1.2.2.2 := by
  unfold sp_t1 at h
  unfold ev_m
  split at h
  · split at h
    · rename_i c
      unfold sp_t2 at h
      split at h
      · rename_i c2
        rw [if_pos c2]
        split at h
        · rename_i c3
          exact c3.2
        · cases h
      · rename_i c2
        rw [if_neg c2]
        omega
    · cases h
  · cases h
theorem ev_line_ok {g : Nat → Int} {n : Nat} {S S' : sp_S} {E : Nat → Int} (hv : sp_inv2 n S) (he : ev_ok S.2.1 E) (h : sp_line g n S = .inr S') : ev_ok S'.2.1 (ev_line g n S E) := by
  have key : ∀ {p tests told : Nat} {as : List Int} {R : sp_R}, sp_go g n p tests told as R → R = .inr S' → S'.2.1 = tests := by
    intro p tests told as R h1 h2
    subst h2
    obtain ⟨e, -, e2, rfl⟩ := h1
    rfl
  have i6 := hv.1.2.2.2.2.2
  unfold sp_line at h
  unfold ev_line ev_word
  generalize sp_word g S.1.2.1 S.1.2.2.1 = w at h
  split at h
  · unfold sp_word1 at h
    split at h
    · cases h
    · split at h
      · rename_i w4
        rw [if_pos w4]
        split at h
        · cases h
        · rename_i ht
          have ht4 : S.2.1 < 4 := by omega
          have hm := sp_t1_m h
          rw [key (sp_t1_go i6) h]
          intro i hi
          obtain ⟨e1, e2⟩ := he i hi
          refine ⟨fun h1 => ?_, fun h1 => ?_⟩
          · by_cases hit : i = S.2.1
            · subst hit
              rw [ev_test_m, ev_test_s]
              exact hm
            · rw [ev_test_ne (by omega) (by omega) (by omega) (by omega), ev_test_ne (by omega) (by omega) (by omega) (by omega)]
              exact e1 (by omega)
          · rw [ev_test_ne (by omega) (by omega) (by omega) (by omega), ev_test_ne (by omega) (by omega) (by omega) (by omega)]
            exact e2 (by omega)
      · rename_i w4
        rw [if_neg w4]
        have up : ∀ {j : Nat} {z : Int}, 16 ≤ j → ev_ok S.2.1 (ev_up E j z) := fun {j z} hj i hi => by
          obtain ⟨e1, e2⟩ := he i hi
          rw [ev_up_ne (by omega), ev_up_ne (by omega), ev_up_ne (by omega)]
          exact ⟨e1, e2⟩
        split at h
        · cases h
        · split at h
          · rename_i w6
            obtain ⟨t, q, bs, e1, e2, e3, e4, e5⟩ := sp_plan_go (g := g) 9 S.1.2.2.1 [] i6 ⟨Nat.zero_le _, fun a h => by cases h⟩
            rw [e1] at h
            unfold sp_p1 at h
            split at h
            · rw [key (sp_stop_go e3) h, if_neg (by omega), if_neg (by omega)]
              exact he
            · cases h
          · rw [key (sp_o1_go i6) h]
            split
            · exact up (by decide)
            · split
              · exact up (by decide)
              · exact he
  · cases h
theorem ev_0_ok : ev_ok 0 ev_0 := fun i hi => ⟨fun h => absurd h (Nat.not_lt_zero _), fun _ => ⟨if_neg (by omega), if_neg (by omega)⟩⟩
theorem ev_run_ok {g : Nat → Int} {n : Nat} : ∀ (f l : Nat) (S : sp_S) (E : Nat → Int), sp_inv2 n S → ev_ok S.2.1 E → ∀ S' l', sp_run g n f l S = .inr (S', l') → ev_ok S'.2.1 (ev_run g n f S E)
  | 0, l, S, E, hv, he, S', l', h => by
    cases h
    exact he
  | f + 1, l, S, E, hv, he, S', l', h => by
    have hgo := sp_line_go (g := g) hv
    have hlo := fun (S2 : sp_S) => ev_line_ok (g := g) (S' := S2) hv he
    have herun : ev_run g n (f + 1) S E = if S.1.1 = 0 then E else match sp_line g n S with
        | .inl _ => E
        | .inr S' => ev_run g n f S' (ev_line g n S E) := rfl
    rw [herun]
    unfold sp_run at h
    split at h
    · rename_i h0
      rw [if_pos h0]
      cases h
      exact he
    · rename_i h0
      rw [if_neg h0]
      generalize sp_line g n S = RR at hgo h hlo
      cases RR with
      | inl y =>
        have h : (Sum.inl y : (Nat × Nat) ⊕ (sp_S × Nat)) = .inr (S', l') := h
        cases h
      | inr S2 =>
        have h : sp_run g n f (l + 1) S2 = .inr (S', l') := h
        exact ev_run_ok f (l + 1) S2 (ev_line g n S E) hgo.1 (hlo S2 rfl) S' l' h
end
section
/-! readAll of the class: its pieces -/
def ra_W0 : List (Nat × Nat × Nat) := [(26, 3, 11), (28, 0, 4)]
def ra_0 : ai_s := (0, tn_lo, [], [(0, 0, false, 0, 0), (0, 2555, false, 1, 0), (0, 160, false, 2, 0)], [(26, 1, (1, 2, 0, 0))], [])
def l8 (x : ai_s) (i : Nat) (v : ai_v) : Bool := decide (ai_lk x.2.2.2.2.1 28 i = some v)
def ra_0ok (x : ai_s) : Bool := x.2.2.1.isEmpty && (Nat.beq x.1 38 && (decide (ai_get x.2.1 0 = some (0, 26, 0, 0)) && (decide (ai_get x.2.1 1 = some (1, 0, 0, 0)) && (c6 x 3 (1, 0, 0, 0) && (c6 x 4 (1, 0, 0, 0) && (c6 x 5 (1, 0, 0, 0) && (l8 x 0 (1, 0, 0, 0) && (l8 x 1 (1, 0, 0, 10) && (l8 x 2 (1, 0, 0, 0) && (l8 x 3 (1, 0, 0, 0) && (sy_tk x 2 0).any fun kb => c6 x 8 (1, 0, 0, (kb.1 : Int)) && (c6 x 9 (1, kb.2, 0, 0) && c6 x 7 (1, kb.2 + 1, 0, 0))))))))))))
theorem ra_r0 : ((ai_ex (hkT ra_W0) 200 25 tb_m25 9 [38] ra_0).any fun xs => xs.all ra_0ok) = true := by decide +kernel
def ra_lo : List (Nat × ai_v) := [(0, (0, 26, 0, 0)), (1, (1, 2, 0, 0))]
def ra_h : ai_s := (38, ra_lo, [], [(0, 0, false, 0, 0), (0, 2555, false, 1, 0), (0, 161, false, 2, 0), (0, 4, false, 3, 0)], [(26, 5, (1, 0, 0, 0)), (26, 8, (1, 3, 0, 0))], [])
def ra_hok (x : ai_s) : Bool := decide (ai_get x.2.1 0 = some (0, 26, 0, 0)) && (decide (ai_get x.2.1 1 = some (1, 2, 0, 0)) &&
  ((Nat.beq x.1 69 && (x.2.2.1.isEmpty && ((pm_e x 2 fun e => decide (161 ≤ e.1)) || pm_e x 3 fun e => decide (e.2.1 ≤ 0)))) ||
   (Nat.beq x.1 60 && (decide (x.2.2.1 = [(0, 26, 0, 0)]) && ((pm_e x 2 fun e => decide (e.2.1 ≤ 160)) && (x.2.2.2.1[3]?).any fun e => e.2.2.1 || decide (1 ≤ e.1))))))
theorem ra_rh : ((ai_ex (hk []) 60 25 tb_m25 9 [60, 69] ra_h).any fun xs => xs.all ra_hok) = true := by decide +kernel
def ra_63 : ai_s := (63, ra_lo, [], [(0, 0, false, 0, 0), (0, 2555, false, 1, 0), (0, 160, false, 2, 0)], [], [])
theorem ra_r63 : ((ai_ex (hk []) 60 25 tb_m25 9 [66] ra_63).any fun xs => xs.all fun x => x.2.2.1.isEmpty && (Nat.beq x.1 66 && (decide (ai_get x.2.1 0 = some (0, 26, 0, 0)) && decide (ai_get x.2.1 1 = some (1, 2, 0, 1))))) = true := by decide +kernel
def ra_63e : ai_s := (63, ra_lo, [], [(0, 0, false, 0, 0), (0, 2555, false, 1, 0), (0, 160, false, 2, 0), (1, 5, false, 3, 0)], [(26, 5, (1, 3, 0, 0))], [])
theorem ra_r63e : ((ai_ex (hk []) 60 25 tb_m25 9 [69] ra_63e).any fun xs => xs.all fun x => x.2.2.1.isEmpty && (Nat.beq x.1 69 && decide (ai_get x.2.1 0 = some (0, 26, 0, 0)))) = true := by decide +kernel
def ra_69e : ai_s := (69, tn_lo, [], [(0, 0, false, 0, 0), (0, 2555, false, 1, 0), (1, 5, false, 2, 0)], [(26, 5, (1, 2, 0, 0))], [])
theorem ra_r69e : ((ai_ex (hk []) 60 25 tb_m25 9 [] ra_69e).any fun xs => xs.all fun x => x.2.2.1.isEmpty && Nat.beq x.1 93) = true := by decide +kernel
def ra_69 : ai_s := (69, tn_lo, [], [(0, 0, false, 0, 0), (0, 2555, false, 1, 0)], [(26, 5, (1, 0, 0, 0))], [])
theorem ra_r69 : ((ai_ex (hk []) 60 25 tb_m25 9 [77] ra_69).any fun xs => xs.all fun x => Nat.beq x.1 77 && (decide (x.2.2.1 = [(0, 26, 0, 0)]) && decide (ai_get x.2.1 0 = some (0, 26, 0, 0)))) = true := by decide +kernel
def ra_80 (z : Int) : ai_s := (80, tn_lo, [(1, 0, 0, z)], [(0, 0, false, 0, 0), (0, 2555, false, 1, 0), (0, 160, false, 2, 0)], [(26, 1, (1, 2, 0, 0))], [])
theorem ra_r80 : ((ai_ex (hk []) 60 25 tb_m25 9 [] (ra_80 0)).any fun xs => xs.all fun x => x.2.2.1.isEmpty && Nat.beq x.1 93) = true := by decide +kernel
theorem ra_r81 : ((ai_ex (hk [(26, 5, 7)]) 60 25 tb_m25 9 [] (ra_80 1)).any fun xs => xs.all fun x => x.2.2.1.isEmpty && (Nat.beq x.1 93 && (c6 x 5 (1, 0, 0, 6) && c6 x 6 (1, 2, 0, 0)))) = true := by decide +kernel
section RAL
variable {ad : List Nat} {M : ai_m} {p : Program} {l : Launch} {e : Env} {R : Room} {s : State} {m : MethodId} {args : Array Value} {below : List Frame} {meth : Method} {c : Code} {D : va_G} {tys : ai_ty} {A : Nat → Prop} {b L : Nat} {sx : Nat → Int32} {cells slots : Nat} {Q : State → Prop}
/-- this object and one number among the locals -/
def jv (ad : List Nat) (b cl : Nat) (i : Nat) (z : Int) (lv : List (Nat × Value)) : Prop := ∃ (x : Value) (j : Int32), lv = [(0, x), (i, .int j)] ∧ ai_dv ad b [0] (0, cl, 0, 0) x ∧ j.toInt = z
theorem hG_jv {r : List Int} {lo : List (Nat × ai_v)} {lv : List (Nat × Value)} {cl i nm pc : Nat} {o z t : Int} {sk : List Value} {ws : va_W} (h : ai_lo ad b r lo lv) (h0 : r[0]? = some 0) (hg : ai_get lo 0 = some (0, cl, 0, 0)) (hg1 : ai_get lo i = some (1, nm, 0, o)) (hr : r[nm]? = some z) (ht : t = z + o) (k : ∀ lv1, jv ad b cl i t lv1 → hG M p l e R s m args below meth c D A cells slots Q pc lv1 sk ws) : hG M p l e R s m args below meth c D A cells slots Q pc lv sk ws := by
  obtain ⟨n, x, h1, h2⟩ := ai_get_ok h hg
  obtain ⟨n', x', h1', h2'⟩ := ai_get_ok h hg1
  obtain ⟨j, rfl, hj⟩ := dvn h2' hr
  intro H locs ls hP hD hS hl
  refine k [(0, x), (i, .int j)] ⟨x, j, rfl, dv0 h2 h0 rfl rfl, by omega⟩ H locs ls hP hD hS ⟨hl.1, hl.2.1, fun q hq => ?_⟩
  rcases List.mem_cons.mp hq with rfl | hq
  · exact lv_at hl n h1
  · rw [List.mem_singleton.mp hq]
    exact lv_at hl n' h1'
theorem jv.lo {r : List Int} {cl i nm : Nat} {t z o : Int} {lv : List (Nat × Value)} (h : jv ad b cl i t lv) (h0 : r[0]? = some 0) (hr : r[nm]? = some z) (ht : t = z + o) : ai_lo ad b r [(0, (0, cl, 0, 0)), (i, (1, nm, 0, o))] lv := by
  obtain ⟨x, j, rfl, hx, hj⟩ := h
  exact ⟨rfl, dv0 hx rfl h0 rfl, rfl, Or.inr (Or.inl ⟨rfl, z, j, hr, rfl, by show j.toInt = z + o; omega⟩), trivial⟩
theorem jv.this {cl i : Nat} {t : Int} {lv : List (Nat × Value)} (h : jv ad b cl i t lv) {pc : Nat} {sk : List Value} {ws : va_W} (k : ∀ lv1, ai_lo ad b [0] [(0, (0, cl, 0, 0))] lv1 → hG M p l e R s m args below meth c D A cells slots Q pc lv1 sk ws) : hG M p l e R s m args below meth c D A cells slots Q pc lv sk ws := by
  obtain ⟨x, j, rfl, hx, hj⟩ := h
  intro H locs ls hP hD hS hl
  exact k [(0, x)] ⟨rfl, hx, trivial⟩ H locs ls hP hD hS ⟨hl.1, hl.2.1, fun q hq => hl.2.2 q (by rw [List.mem_singleton.mp hq]; exact List.mem_cons_self)⟩
theorem ra_back (C : ai_cx tb_m25 9 p R s m args c D tys A b L sx cells slots) {ws : va_W} {lv : List (Nat × Value)} (k : hG tb_m25 p l e R s m args below meth c D A cells slots Q 38 lv [] ws) : hG tb_m25 p l e R s m args below meth c D A cells slots Q 66 lv [] ws := by
  intro H locs ls hP hD hS hl
  exact lv_goto (tgt := 38) C.1 C.2.1 (tv_m25.1.1.1 (66, .goto (-28), 3) (List.mem_of_getElem? (i := 34) rfl)) (by decide) (k H locs ls hP hD hS hl)
/-- behind the loop: a fault, or all lines -/
def ra_at (n : Nat) (ws : va_W) (E : Nat → Int) : (Nat × Nat) ⊕ (sp_S × Nat) → Prop
  | .inl x => vi ws 26 5 x.1 ∧ vi ws 26 6 x.2 ∧ 1 ≤ x.1 ∧ x.1 ≤ 5
  | .inr x => cl_is n ws x.1 x.2 ∧ sp_inv2 n x.1 ∧ cev ws 28 x.1.2.1 E
set_option maxHeartbeats 1000000 in
theorem ra_loop (C : ai_cx tb_m25 9 p R s m args c D tys A b L sx cells slots) {g : Nat → Int} {n : Nat} (hn : n ≤ 160) :
    ∀ (f j : Nat) (ws : va_W) (S : sp_S) (E : Nat → Int) (lv : List (Nat × Value)), j + f = 161 → ai_wd tb_TY ad tys ws → sp_tape g n ws → cl_is n ws S j → sp_inv2 n S → cev ws 28 S.2.1 E → jv ad b 26 1 (j : Int) lv →
    (∀ (ws' : va_W) (lv' : List (Nat × Value)), ai_wd tb_TY ad tys ws' → ai_fr cl_W ws ws' → ai_lo ad b [0] tn_lo lv' → ra_at n ws' (ev_run g n f S E) (sp_run g n f j S) → hG tb_m25 p l e R s m args below meth c D A cells slots Q 69 lv' [] ws') → hG tb_m25 p l e R s m args below meth c D A cells slots Q 38 lv [] ws := by
  intro f
  induction f with
  | zero =>
    intro j ws S E lv hj hw hT hi hv hcE hlv k
    obtain ⟨xs, hx1, hx2⟩ := ai_anyE ra_rh
    have v4 := hv.1.2.2.2.1
    obtain ⟨i1, i3, i4, i5, i7, i8, i9, i10, i11, i12⟩ := hi
    have gm : ai_gm tb_TY [] ws ad b L sx tys tb_m25.2.2.2.2.1 [0, 0, (j : Int), (S.1.1 : Int)] ra_h lv [] ws := by
      refine ⟨en_mk (by simp only [ra_h, en_b, and_true]; omega) rfl, sb0, hlv.lo rfl rfl (by omega), trivial, hw, kc (i5.kn (n := 0) (t := 0) rfl (by omega)) (kc (i8.kn (n := 3) (t := (S.1.1 : Int)) rfl (by omega)) k0), fun _ _ _ _ h => h, fun h => by cases h⟩
    refine hseg (st := ra_h) hx1 rfl C gm (fun x hx r' lv' sk' ws' hx' g' => ?_)
    obtain ⟨g1, g2, g3, g4, g5, g6, g7, g8⟩ := g'
    have r2 : r'[2]? = some (j : Int) := hx'.at rfl
    have hox := List.all_eq_true.mp hx2 x hx
    unfold ra_hok at hox
    rw [Bool.and_eq_true, Bool.and_eq_true, decide_eq_true_eq, decide_eq_true_eq, Bool.or_eq_true] at hox
    obtain ⟨q0, q1, hox⟩ := hox
    rcases hox with hox | hox
    · rw [Bool.and_eq_true, Bool.and_eq_true, ai_beq] at hox
      obtain ⟨p1, hs, -⟩ := hox
      have hsk : sk' = [] := by
        rw [List.isEmpty_iff.mp hs] at g4
        exact g4.nil
      subst hsk
      rw [p1]
      exact hG_this g3 q0 (fun lv1 hlv1 => k ws' lv1 g5 (wsub_ok (by decide) g7) hlv1 ⟨⟨i1.fr g7 rfl, i3.fr g7 rfl, i4.fr g7 rfl, i5.fr g7 rfl, i7.fr g7 rfl, i8.fr g7 rfl, i9.fr g7 rfl, i10.fr g7 rfl, i11.fr g7 rfl, fun i hi => (i12 i hi).fr g7 rfl⟩, hv, hcE.fr g7 rfl⟩)
    · rw [Bool.and_eq_true, Bool.and_eq_true, Bool.and_eq_true] at hox
      obtain ⟨e0, c1, c2, c3⟩ := ai_any g1 r2 hox.2.2.1
      rw [decide_eq_true_eq] at c1
      omega
  | succ f ih =>
    intro j ws S E lv hj hw hT hi hv hcE hlv k
    obtain ⟨xs, hx1, hx2⟩ := ai_anyE ra_rh
    have v4 := hv.1.2.2.2.1
    have hi' := hi
    obtain ⟨i1, i3, i4, i5, i7, i8, i9, i10, i11, i12⟩ := hi
    have gm : ai_gm tb_TY [] ws ad b L sx tys tb_m25.2.2.2.2.1 [0, 0, (j : Int), (S.1.1 : Int)] ra_h lv [] ws := by
      refine ⟨en_mk (by simp only [ra_h, en_b, and_true]; omega) rfl, sb0, hlv.lo rfl rfl (by omega), trivial, hw, kc (i5.kn (n := 0) (t := 0) rfl (by omega)) (kc (i8.kn (n := 3) (t := (S.1.1 : Int)) rfl (by omega)) k0), fun _ _ _ _ h => h, fun h => by cases h⟩
    refine hseg (st := ra_h) hx1 rfl C gm (fun x hx r' lv' sk' ws' hx' g' => ?_)
    obtain ⟨g1, g2, g3, g4, g5, g6, g7, g8⟩ := g'
    have r0 : r'[0]? = some 0 := hx'.at rfl
    have r2 : r'[2]? = some (j : Int) := hx'.at rfl
    have r3 : r'[3]? = some (S.1.1 : Int) := hx'.at rfl
    have hi2 : cl_is n ws' S j := ⟨i1.fr g7 rfl, i3.fr g7 rfl, i4.fr g7 rfl, i5.fr g7 rfl, i7.fr g7 rfl, i8.fr g7 rfl, i9.fr g7 rfl, i10.fr g7 rfl, i11.fr g7 rfl, fun i hi => (i12 i hi).fr g7 rfl⟩
    have hF : ai_fr cl_W ws ws' := wsub_ok (by decide) g7
    have hox := List.all_eq_true.mp hx2 x hx
    unfold ra_hok at hox
    rw [Bool.and_eq_true, Bool.and_eq_true, decide_eq_true_eq, decide_eq_true_eq, Bool.or_eq_true] at hox
    obtain ⟨q0, q1, hox⟩ := hox
    have hrun : sp_run g n (f + 1) j S = if S.1.1 = 0 then .inr (S, j) else match sp_line g n S with
        | .inl x => .inl x
        | .inr S' => sp_run g n f (j + 1) S' := rfl
    have herun : ev_run g n (f + 1) S E = if S.1.1 = 0 then E else match sp_line g n S with
        | .inl _ => E
        | .inr S' => ev_run g n f S' (ev_line g n S E) := rfl
    rcases hox with hox | hox
    · rw [Bool.and_eq_true, Bool.and_eq_true, ai_beq, Bool.or_eq_true] at hox
      obtain ⟨p1, hs, p2⟩ := hox
      have hsk : sk' = [] := by
        rw [List.isEmpty_iff.mp hs] at g4
        exact g4.nil
      subst hsk
      rw [p1]
      have h0 : S.1.1 = 0 := by
        rcases p2 with p2 | p2
        · obtain ⟨e0, c1, c2, c3⟩ := ai_any g1 r2 p2
          rw [decide_eq_true_eq] at c1
          omega
        · obtain ⟨e0, c1, c2, c3⟩ := ai_any g1 r3 p2
          rw [decide_eq_true_eq] at c1
          omega
      rw [hrun, herun, if_pos h0, if_pos h0] at k
      exact hG_this g3 q0 (fun lv1 hlv1 => k ws' lv1 g5 hF hlv1 ⟨hi2, hv, hcE.fr g7 rfl⟩)
    · rw [Bool.and_eq_true, Bool.and_eq_true, Bool.and_eq_true, ai_beq, decide_eq_true_eq] at hox
      obtain ⟨p1, p2, p3, p4⟩ := hox
      obtain ⟨e0, c1, c2, c3⟩ := ai_any g1 r2 p3
      rw [decide_eq_true_eq] at c1
      have h0 : ¬ S.1.1 = 0 := by
        obtain ⟨e1, d1, d2, d3, d4, -⟩ := g1.get r3
        rw [d1] at p4
        have p4 : (e1.2.2.1 || decide (1 ≤ e1.1)) = true := p4
        rw [Bool.or_eq_true, decide_eq_true_eq] at p4
        rcases p4 with p4 | p4
        · have := d4 p4
          omega
        · omega
      rw [hrun, herun, if_neg h0, if_neg h0] at k
      rw [p2] at g4
      obtain ⟨y, s1, rfl, dy, g4⟩ := g4.cons
      have hs1 := g4.nil
      subst hs1
      rw [p1]
      have hT2 := hT.fr hn g5 hF (by decide) (by decide)
      refine hG_jv g3 r0 q0 q1 r2 (show (j : Int) = (j : Int) + 0 by omega) (fun lv1 hlv1 => ?_)
      have hgo := sp_line_go (g := g) hv
      refine hcall (q := (50, 0, 26, 0, 2)) (M' := tb_m26) (cl := 26) (rets := [64, 85, 100]) (P := fun ws2 => ai_wd tb_TY ad tys ws2 ∧ ai_fr cl_W ws' ws2 ∧ ((∃ c1 P, sp_line g n S = .inl (c1, P) ∧ vi ws2 26 5 c1 ∧ vi ws2 26 6 P) ∨ ∃ S', sp_line g n S = .inr S' ∧ cl_is n ws2 S' (j + 1) ∧ ∀ E, cev ws' 28 S.2.1 E → cev ws2 28 S'.2.1 (ev_line g n S E))) C (by decide) (tv_m25.1.1.1 (60, .invokevirtual 50, 3) (List.mem_of_getElem? (i := 32) rfl)) (tv_m25.2 _ (List.mem_of_getElem? (i := 2) rfl)) rfl rfl rfl rfl (by decide) (by decide) rfl rfl rfl rfl g5 (dv0 dy r0 rfl rfl) ?_ ?_ ?_
      · intro pcr hp
        rcases List.mem_cons.mp hp with rfl | hp
        · exact tv_m26.1.1.1 (64, .return_, 1) (List.mem_of_getElem? (i := 32) rfl)
        · rcases List.mem_cons.mp hp with rfl | hp
          · exact tv_m26.1.1.1 (85, .return_, 1) (List.mem_of_getElem? (i := 43) rfl)
          · rw [List.mem_singleton.mp hp]
            exact tv_m26.1.1.1 (100, .return_, 1) (List.mem_of_getElem? (i := 52) rfl)
      · intro p2 e2 R2 s2 m2 args2 below2 meth2 c2 Q2 C2 kk lv0 hlv0
        refine cl_line C2 hn (by omega) g5 hT2 hi2 hv.1 hlv0 (fun pcr ws2 lv2 c1 P hpc a1 a2 a3 a4 a5 => kk pcr ws2 lv2 ?_ ⟨a1, a2, Or.inl ⟨c1, P, a3, a4, a5⟩⟩) (fun ws2 lv2 S' a1 a2 a3 a4 a5 => kk 100 ws2 lv2 (by decide) ⟨a1, a2, Or.inr ⟨S', a3, a4, a5⟩⟩)
        rcases hpc with rfl | rfl <;> decide
      · rintro ws2 ⟨hw2, hf2, hr⟩
        have hF2 : ai_fr cl_W ws ws2 := hF.tr hf2
        rcases hr with ⟨c1, P, e1, e2, e3⟩ | ⟨S', e1, e2, e4⟩
        · rw [e1] at k hgo
          obtain ⟨o1, o2, o3⟩ := hgo
          obtain ⟨ys, hy1, hy2⟩ := ai_anyE ra_r63e
          have gm2 : ai_gm tb_TY [] ws2 ad b L sx tys tb_m25.2.2.2.2.1 [0, 0, (j : Int), (c1 : Int)] ra_63e lv1 [] ws2 := by
            refine ⟨en_mk (by simp only [ra_63e, en_b, and_true]; omega) rfl, sb0, hlv1.lo rfl rfl (by omega), trivial, hw2, kc (e2.kn (n := 3) (t := (c1 : Int)) rfl (by omega)) k0, fun _ _ _ _ h => h, fun h => by cases h⟩
          refine hseg (st := ra_63e) hy1 rfl C gm2 (fun x2 hx2' r2' lv2 sk2 ws3 hx3 g3' => ?_)
          obtain ⟨k1, k2, k3, k4, k5, k6, k7, k8⟩ := g3'
          have hox2 := List.all_eq_true.mp hy2 x2 hx2'
          rw [Bool.and_eq_true, Bool.and_eq_true, ai_beq, decide_eq_true_eq] at hox2
          obtain ⟨hs2, u1, u2⟩ := hox2
          have hsk2 : sk2 = [] := by
            rw [List.isEmpty_iff.mp hs2] at k4
            exact k4.nil
          subst hsk2
          rw [u1]
          exact hG_this k3 u2 (fun lv3 hlv3 => k ws3 lv3 k5 (hF2.tr (wsub_ok (by decide) k7)) hlv3 ⟨e2.fr k7 rfl, e3.fr k7 rfl, o1, o2⟩)
        · rw [e1] at k hgo
          obtain ⟨ys, hy1, hy2⟩ := ai_anyE ra_r63
          have gm2 : ai_gm tb_TY [] ws2 ad b L sx tys tb_m25.2.2.2.2.1 [0, 0, (j : Int)] ra_63 lv1 [] ws2 := by
            refine ⟨en_mk (by simp only [ra_63, en_b, and_true]; omega) rfl, sb0, hlv1.lo rfl rfl (by omega), trivial, hw2, k0, fun _ _ _ _ h => h, fun h => by cases h⟩
          refine hseg (st := ra_63) hy1 rfl C gm2 (fun x2 hx2' r2' lv2 sk2 ws3 hx3 g3' => ?_)
          obtain ⟨k1, k2, k3, k4, k5, k6, k7, k8⟩ := g3'
          have hox2 := List.all_eq_true.mp hy2 x2 hx2'
          rw [Bool.and_eq_true, Bool.and_eq_true, Bool.and_eq_true, ai_beq, decide_eq_true_eq, decide_eq_true_eq] at hox2
          obtain ⟨hs2, u1, u2, u3⟩ := hox2
          have hsk2 : sk2 = [] := by
            rw [List.isEmpty_iff.mp hs2] at k4
            exact k4.nil
          subst hsk2
          rw [u1]
          have hF3 : ai_fr cl_W ws ws3 := hF2.tr (wsub_ok (by decide) k7)
          refine hG_jv k3 (hx3.at rfl) u2 u3 (z := (j : Int)) (t := ((j + 1 : Nat) : Int)) (hx3.at rfl) (by omega) (fun lv3 hlv3 => ra_back C ?_)
          obtain ⟨s1, s3, s4, s5, s7, s8, s9', s10, s11, s12⟩ := e2
          exact ih (j + 1) ws3 S' (ev_line g n S E) lv3 (by omega) k5 (hT.fr hn k5 hF3 (by decide) (by decide)) ⟨s1.fr k7 rfl, s3.fr k7 rfl, s4.fr k7 rfl, s5.fr k7 rfl, s7.fr k7 rfl, s8.fr k7 rfl, s9'.fr k7 rfl, s10.fr k7 rfl, s11.fr k7 rfl, fun i hi => (s12 i hi).fr k7 rfl⟩ hgo.1 ((e4 E (hcE.fr g7 rfl)).fr k7 rfl) hlv3 (fun ws4 lv4 a1 a2 a3 a4 => k ws4 lv4 a1 (hF3.tr a2) a3 a4)
end RAL
end
section
/-! readAll of the class is sp_text -/
def ra_is (g : Nat → Int) (n : Nat) (ws : va_W) : Prop := vi ws 26 5 (sp_text g n).1 ∧ (sp_text g n).1 ≤ 6 ∧ ((sp_text g n).1 ≠ 0 → vi ws 26 6 (sp_text g n).2.1) ∧ ((sp_text g n).1 = 0 → vi ws 26 4 (sp_text g n).2.2 ∧ vi ws 28 0 (sp_cnt g n) ∧ sp_cnt g n ≤ 4 ∧ vi ws 28 3 (sp_acn g n) ∧ sp_acn g n ≤ 8 ∧ cev ws 28 (sp_cnt g n) (ev_text g n) ∧ ∀ i, i < sp_acn g n → vi ws 33 i ((ev_acts g n).getD i 0))
section RAE
variable {ad : List Nat} {p : Program} {l : Launch} {e : Env} {R : Room} {s : State} {m : MethodId} {args : Array Value} {below : List Frame} {meth : Method} {c : Code} {D : va_G} {tys : ai_ty} {A : Nat → Prop} {b L : Nat} {sx : Nat → Int32} {cells slots : Nat} {Q : State → Prop}
set_option maxHeartbeats 1000000 in
theorem ra_all (C : ai_cx tb_m25 9 p R s m args c D tys A b L sx cells slots) {ws : va_W} {g : Nat → Int} {n : Nat} (hn : n ≤ 160) (hw : ai_wd tb_TY ad tys ws) (hT : sp_tape g n ws) (h1 : vi ws 26 1 n) {lv : List (Nat × Value)} (hlv : ai_lo ad b [0] tn_lo lv)
    (k : ∀ (ws' : va_W) (lv' : List (Nat × Value)), ai_wd tb_TY ad tys ws' → ai_fr cl_W ws ws' → ra_is g n ws' → hG tb_m25 p l e R s m args below meth c D A cells slots Q 93 lv' [] ws') : hG tb_m25 p l e R s m args below meth c D A cells slots Q 0 lv [] ws := by
  obtain ⟨xs, hx1, hx2⟩ := ai_anyE ra_r0
  have gm : ai_gm tb_TY ra_W0 ws ad b L sx tys tb_m25.2.2.2.2.1 [0, 0, (n : Int)] ra_0 lv [] ws := by
    refine ⟨en_mk (by simp only [ra_0, en_b, and_true]; omega) rfl, sb0, lo0_ok (r := [0]) rfl rfl rfl hlv, trivial, hw, kc (h1.kn (n := 2) (t := (n : Int)) rfl (by omega)) k0, fun _ _ _ _ h => h, fun h => by cases h⟩
  refine hsegT (st := ra_0) hx1 rfl C gm (fun x hx r' lv1 sk' ws1 hx' g' => ?_)
  obtain ⟨g1, g2, g3, g4, hw1, g6, f1, -⟩ := g'
  have r0 : r'[0]? = some 0 := hx'.at rfl
  have r2 : r'[2]? = some (n : Int) := hx'.at rfl
  have hox := List.all_eq_true.mp hx2 x hx
  unfold ra_0ok at hox
  rw [Bool.and_eq_true, Bool.and_eq_true, Bool.and_eq_true, Bool.and_eq_true, Bool.and_eq_true, Bool.and_eq_true, Bool.and_eq_true, Bool.and_eq_true, Bool.and_eq_true, Bool.and_eq_true, Bool.and_eq_true, ai_beq, decide_eq_true_eq, decide_eq_true_eq] at hox
  obtain ⟨hs, p1, q0, q1, c3, c4, c5, c28, c281, c282, c283, hox⟩ := hox
  obtain ⟨kb, hkb, hox⟩ := ai_anyE hox
  rw [Bool.and_eq_true, Bool.and_eq_true] at hox
  obtain ⟨c8, c9, c7⟩ := hox
  have hsk : sk' = [] := by
    rw [List.isEmpty_iff.mp hs] at g4
    exact g4.nil
  subst hsk
  obtain ⟨u1, u2, u3, -⟩ := sy_tk_ok (P := 0) g2 hT.1 r2 r0 hkb
  have F1 : ai_fr cl_W ws ws1 := wsub_ok (by decide) f1
  have hT1 := hT.fr hn hw1 F1 (by decide) (by decide)
  have hi1 : cl_is n ws1 (sp_tok g n 0, 0, 0, []) 0 := ⟨h1.fr F1 (by decide), vi.lk g6 (decide_eq_true_eq.mp c3) r0 (by show ((0 : Nat) : Int) = _; omega), vi.lk g6 (decide_eq_true_eq.mp c4) r0 (by omega), vi.lk g6 (decide_eq_true_eq.mp c5) r0 (by omega), vi.lk g6 (decide_eq_true_eq.mp c7) u3 (by show ((sp_tok g n 0).2.2.1 : Int) = _; omega), vi.lk g6 (decide_eq_true_eq.mp c8) r0 (by show ((sp_tok g n 0).1 : Int) = _; rw [u1]; omega), vi.lk g6 (decide_eq_true_eq.mp c9) u2 (by show ((sp_tok g n 0).2.1 : Int) = _; omega), vi.lk g6 (decide_eq_true_eq.mp c28) r0 (by show ((0 : Nat) : Int) = _; omega), vi.lk g6 (decide_eq_true_eq.mp c283) r0 (by show (([] : List Int).length : Int) = _; rfl), fun i hi => absurd hi (Nat.not_lt_zero _)⟩
  have hc0 : cev ws1 28 0 ev_0 := ⟨fun i hi => absurd hi (Nat.not_lt_zero _), vi.lk g6 (decide_eq_true_eq.mp c281) r0 (by simp [ev_0]), vi.lk g6 (decide_eq_true_eq.mp c282) r0 (by simp [ev_0])⟩
  rw [p1]
  refine hG_jv g3 r0 q0 q1 (z := 0) (t := ((0 : Nat) : Int)) r0 (by omega) (fun lv2 hlv2 => ?_)
  refine ra_loop C hn 161 0 ws1 _ ev_0 lv2 rfl hw1 hT1 hi1 sp_start hc0 hlv2 (fun ws2 lv3 hw2 f2 hlv3 hat => ?_)
  have F2 : ai_fr cl_W ws ws2 := F1.tr f2
  have htext : sp_text g n = match sp_run g n 161 0 (sp_tok g n 0, 0, 0, []) with
      | .inl x => (x.1, x.2, 0)
      | .inr (S, l) => if (S.2.1 : Int) ≤ sp_high S.2.2.2 then (6, n, 0) else (0, 0, l) := rfl
  have hcnt : sp_cnt g n = match sp_run g n 161 0 (sp_tok g n 0, 0, 0, []) with
      | .inl _ => 0
      | .inr (S, _) => S.2.1 := rfl
  have hacn : sp_acn g n = match sp_run g n 161 0 (sp_tok g n 0, 0, 0, []) with
      | .inl _ => 0
      | .inr (S, _) => S.2.2.2.length := rfl
  have hact : ev_acts g n = match sp_run g n 161 0 (sp_tok g n 0, 0, 0, []) with
      | .inl _ => []
      | .inr (S, _) => S.2.2.2 := rfl
  generalize sp_run g n 161 0 (sp_tok g n 0, 0, 0, []) = RR at hat htext hcnt hacn hact
  cases RR with
  | inl y =>
    obtain ⟨v5, v6, y1, y5⟩ := hat
    have htext : sp_text g n = (y.1, y.2, 0) := htext
    obtain ⟨ys, hy1, hy2⟩ := ai_anyE ra_r69e
    have gm2 : ai_gm tb_TY [] ws2 ad b L sx tys tb_m25.2.2.2.2.1 [0, 0, (y.1 : Int)] ra_69e lv3 [] ws2 := by
      refine ⟨en_mk (by simp only [ra_69e, en_b, and_true]; omega) rfl, sb0, lo0_ok (r := [0]) rfl rfl rfl hlv3, trivial, hw2, kc (v5.kn (n := 2) (t := (y.1 : Int)) rfl (by omega)) k0, fun _ _ _ _ h => h, fun h => by cases h⟩
    refine hseg (st := ra_69e) hy1 rfl C gm2 (fun x2 hx2' r2' lv4 sk2 ws3 hx3 g3' => ?_)
    obtain ⟨k1, k2, k3, k4, k5, k6, k7, k8⟩ := g3'
    have hox2 := List.all_eq_true.mp hy2 x2 hx2'
    rw [Bool.and_eq_true, ai_beq] at hox2
    have hsk2 : sk2 = [] := by
      rw [List.isEmpty_iff.mp hox2.1] at k4
      exact k4.nil
    subst hsk2
    rw [hox2.2]
    refine k ws3 lv4 k5 (F2.tr (wsub_ok (by decide) k7)) ?_
    unfold ra_is
    rw [htext]
    exact ⟨v5.fr k7 rfl, by show y.1 ≤ 6; omega, fun _ => v6.fr k7 rfl, fun h => absurd (show y.1 = 0 from h) (by omega)⟩
  | inr y =>
    obtain ⟨S, ln⟩ := y
    obtain ⟨hi2, hv2, hc2⟩ := hat
    have hc2 : cev ws2 28 S.2.1 (ev_text g n) := hc2
    have hact : ev_acts g n = S.2.2.2 := hact
    have htext : sp_text g n = if (S.2.1 : Int) ≤ sp_high S.2.2.2 then (6, n, 0) else (0, 0, ln) := htext
    have hcnt : sp_cnt g n = S.2.1 := hcnt
    have hacn : sp_acn g n = S.2.2.2.length := hacn
    have hi2' := hi2
    obtain ⟨i1, i3, i4, i5, i7, i8, i9, i10, i11, i12⟩ := hi2
    have i10 : vi ws2 28 0 S.2.1 := i10
    have i11 : vi ws2 28 3 S.2.2.2.length := i11
    have i12 : ∀ i, i < S.2.2.2.length → vi ws2 33 i (S.2.2.2.getD i 0) := i12
    obtain ⟨ys, hy1, hy2⟩ := ai_anyE ra_r69
    have gm2 : ai_gm tb_TY [] ws2 ad b L sx tys tb_m25.2.2.2.2.1 [0, 0] ra_69 lv3 [] ws2 := by
      refine ⟨en_mk (by simp only [ra_69, en_b, and_true]; omega) rfl, sb0, lo0_ok (r := [0]) rfl rfl rfl hlv3, trivial, hw2, kc (i5.kn (n := 0) (t := 0) rfl (by omega)) k0, fun _ _ _ _ h => h, fun h => by cases h⟩
    refine hseg (st := ra_69) hy1 rfl C gm2 (fun x2 hx2' r2' lv4 sk2 ws3 hx3 g3' => ?_)
    obtain ⟨k1, k2, k3, k4, k5, k6, k7, k8⟩ := g3'
    have y0 : r2'[0]? = some 0 := hx3.at rfl
    have hox2 := List.all_eq_true.mp hy2 x2 hx2'
    rw [Bool.and_eq_true, Bool.and_eq_true, ai_beq, decide_eq_true_eq, decide_eq_true_eq] at hox2
    obtain ⟨o1, o2, o3⟩ := hox2
    rw [o2] at k4
    obtain ⟨yv, s1, rfl, dy, k4⟩ := k4.cons
    have hs1 := k4.nil
    subst hs1
    rw [o1]
    refine hG_this k3 o3 (fun lv5 hlv5 => ?_)
    refine hcallB (q := (53, 0, 30, 0, 2)) (M' := tb_m30) (cl := 26) (rets := [46, 54]) (P := fun w z => ai_wd tb_TY ad tys w ∧ ai_fr [] ws3 w ∧ pm_P S.2.1 S.2.2.2 z) C (by decide) (tv_m25.1.1.1 (77, .invokevirtual 53, 3) (List.mem_of_getElem? (i := 39) rfl)) (tv_m25.2 _ (List.mem_of_getElem? (i := 3) rfl)) rfl rfl rfl rfl (by decide) (by decide) rfl rfl rfl rfl k5 (dv0 dy y0 rfl rfl) ?_ ?_ ?_ ?_
    · intro pcr hp
      rcases List.mem_cons.mp hp with rfl | hp
      · exact tv_m30.1.1.1 (46, .ireturn, 1) (List.mem_of_getElem? (i := 24) rfl)
      · rw [List.mem_singleton.mp hp]
        exact tv_m30.1.1.1 (54, .ireturn, 1) (List.mem_of_getElem? (i := 28) rfl)
    · rintro w z ⟨-, -, h⟩
      rcases h with h | h
      · exact Or.inr h.1
      · exact Or.inl h.1
    · intro p2 e2 R2 s2 m2 args2 below2 meth2 c2 Q2 C2 kk lv0 hlv0
      refine pm_all (t := S.2.1) (as := S.2.2.2) (mm_cx (by decide) C2) k5 (i11.fr k7 rfl) (i10.fr k7 rfl) hv2.1.2.2.1 hv2.2.1.1 (fun i hi => (i12 i hi).fr k7 rfl) hv2.2.1.2 hlv0 (fun pcr w lv2 z hpc a1 a2 a3 => kk pcr w z lv2 ?_ ⟨a1, a2, a3⟩)
      rcases hpc with rfl | rfl <;> decide
    · rintro ws4 z ⟨hw4, f4', hz⟩
      have F4 : ai_fr cl_W ws ws4 := (F2.tr (wsub_ok (by decide) k7)).tr (wsub_ok (by decide) f4')
      have i1' : vi ws4 26 1 n := (i1.fr k7 rfl).fr f4' rfl
      have i5' : vi ws4 26 5 0 := (i5.fr k7 rfl).fr f4' rfl
      have i4' : vi ws4 26 4 ln := (i4.fr k7 rfl).fr f4' rfl
      have i10' : vi ws4 28 0 S.2.1 := (i10.fr k7 rfl).fr f4' rfl
      have i11' : vi ws4 28 3 S.2.2.2.length := (i11.fr k7 rfl).fr f4' rfl
      rcases hz with ⟨rfl, hz⟩ | ⟨rfl, hz⟩
      · rw [if_pos hz] at htext
        obtain ⟨zs, hz1, hz2⟩ := ai_anyE ra_r81
        have gm4 : ai_gm tb_TY [(26, 5, 7)] ws4 ad b L sx tys tb_m25.2.2.2.2.1 [0, 0, (n : Int)] (ra_80 1) lv5 [.int 1] ws4 := by
          refine ⟨en_mk (by simp only [ra_80, en_b, and_true]; omega) rfl, sb0, lo0_ok (r := [0]) rfl rfl rfl hlv5, ⟨Or.inr (Or.inl ⟨rfl, 0, 1, rfl, rfl, rfl⟩), trivial⟩, hw4, kc (i1'.kn (n := 2) (t := (n : Int)) rfl (by omega)) k0, fun _ _ _ _ h => h, fun h => by cases h⟩
        refine hseg (st := ra_80 1) hz1 rfl C gm4 (fun x5 hx5 r5 lv6 sk5 ws5 hx5' g5' => ?_)
        obtain ⟨m1, m2, m3, m4, m5, m6, m7, m8⟩ := g5'
        have hox5 := List.all_eq_true.mp hz2 x5 hx5
        rw [Bool.and_eq_true, Bool.and_eq_true, Bool.and_eq_true, ai_beq] at hox5
        obtain ⟨v1, v2, v3, v4⟩ := hox5
        have hsk5 : sk5 = [] := by
          rw [List.isEmpty_iff.mp v1] at m4
          exact m4.nil
        subst hsk5
        rw [v2]
        refine k ws5 lv6 m5 (F4.tr (wsub_ok (by decide) m7)) ?_
        unfold ra_is
        rw [htext]
        exact ⟨vi.lk m6 (decide_eq_true_eq.mp v3) (hx5'.at (show ([0, 0, (n : Int)] : List Int)[0]? = some 0 from rfl)) (by show ((6 : Nat) : Int) = _; omega), by show 6 ≤ 6; decide, fun _ => vi.lk m6 (decide_eq_true_eq.mp v4) (hx5'.at (show ([0, 0, (n : Int)] : List Int)[2]? = some (n : Int) from rfl)) (by show (n : Int) = _; omega), fun h => absurd (show (6 : Nat) = 0 from h) (by decide)⟩
      · rw [if_neg hz] at htext
        obtain ⟨zs, hz1, hz2⟩ := ai_anyE ra_r80
        have gm4 : ai_gm tb_TY [] ws4 ad b L sx tys tb_m25.2.2.2.2.1 [0, 0, (n : Int)] (ra_80 0) lv5 [.int 0] ws4 := by
          refine ⟨en_mk (by simp only [ra_80, en_b, and_true]; omega) rfl, sb0, lo0_ok (r := [0]) rfl rfl rfl hlv5, ⟨Or.inr (Or.inl ⟨rfl, 0, 0, rfl, rfl, rfl⟩), trivial⟩, hw4, kc (i1'.kn (n := 2) (t := (n : Int)) rfl (by omega)) k0, fun _ _ _ _ h => h, fun h => by cases h⟩
        refine hseg (st := ra_80 0) hz1 rfl C gm4 (fun x5 hx5 r5 lv6 sk5 ws5 hx5' g5' => ?_)
        obtain ⟨m1, m2, m3, m4, m5, m6, m7, m8⟩ := g5'
        have hox5 := List.all_eq_true.mp hz2 x5 hx5
        rw [Bool.and_eq_true, ai_beq] at hox5
        have hsk5 : sk5 = [] := by
          rw [List.isEmpty_iff.mp hox5.1] at m4
          exact m4.nil
        subst hsk5
        rw [hox5.2]
        refine k ws5 lv6 m5 (F4.tr (wsub_ok (by decide) m7)) ?_
        unfold ra_is
        rw [htext]
        exact ⟨i5'.fr m7 rfl, by show 0 ≤ 6; decide, fun h => absurd rfl h, fun _ => ⟨i4'.fr m7 rfl, by rw [hcnt]; exact i10'.fr m7 rfl, by rw [hcnt]; exact hv2.1.2.2.1, by rw [hacn]; exact i11'.fr m7 rfl, by rw [hacn]; exact hv2.2.1.1, by rw [hcnt]; exact ((hc2.fr k7 rfl).fr f4' rfl).fr m7 rfl, fun i hi => by
          rw [hacn] at hi
          rw [hact]
          exact (((i12 i hi).fr k7 rfl).fr f4' rfl).fr m7 rfl⟩⟩
end RAE
end
section
/-! a text's answer hangs on its bytes alone -/
section CGR
variable {g g' : Nat → Int} {n : Nat}
theorem sp_stop_c (h : sp_tok g n = sp_tok g' n) : sp_stop g n = sp_stop g' n := by
  funext a b c d
  unfold sp_stop
  rw [h]
theorem sp_t3_c (h : sp_tok g n = sp_tok g' n) : sp_t3 g n = sp_t3 g' n := by
  funext a b c d
  unfold sp_t3
  rw [h, sp_stop_c h]
theorem sp_t2_c (h : sp_tok g n = sp_tok g' n) : sp_t2 g n = sp_t2 g' n := by
  funext a b c d e
  unfold sp_t2
  rw [h, sp_stop_c h, sp_t3_c h]
theorem sp_t1_c (h : sp_tok g n = sp_tok g' n) : sp_t1 g n = sp_t1 g' n := by
  funext a b c d
  unfold sp_t1
  rw [h, sp_t2_c h]
theorem sp_o1_c (h : sp_tok g n = sp_tok g' n) : sp_o1 g n = sp_o1 g' n := by
  funext a b c d e
  unfold sp_o1
  rw [h, sp_stop_c h]
theorem sp_p1_c (h : sp_tok g n = sp_tok g' n) : sp_p1 g n = sp_p1 g' n := by
  funext a b c
  unfold sp_p1
  rw [sp_stop_c h]
theorem sp_plan_c (h : sp_tok g n = sp_tok g' n) : ∀ (f : Nat) (tk : sp_T) (as : List Int), sp_plan g n f tk as = sp_plan g' n f tk as
  | 0, _, _ => rfl
  | f + 1, tk, as => by
    unfold sp_plan
    rw [h, sp_plan_c h f]
theorem sp_word1_c (h : sp_tok g n = sp_tok g' n) : sp_word1 g n = sp_word1 g' n := by
  funext w S
  unfold sp_word1
  rw [h, sp_t1_c h, sp_o1_c h, sp_p1_c h, sp_plan_c h]
theorem sp_line_c (h : sp_tok g n = sp_tok g' n) (h160 : ∀ i, i < 160 → g i = g' i) {S : sp_S} (hS : S.1.2.2.1 ≤ 160) : sp_line g n S = sp_line g' n S := by
  unfold sp_line
  rw [sp_word1_c h, sp_word_congr (g := g) (g' := g') (fun i h1 h2 => h160 i (by omega))]
theorem sp_run_c (h : sp_tok g n = sp_tok g' n) (h160 : ∀ i, i < 160 → g i = g' i) (hn : n ≤ 160) : ∀ (f l : Nat) (S : sp_S), sp_inv2 n S → sp_run g n f l S = sp_run g' n f l S
  | 0, _, _, _ => rfl
  | f + 1, l, S, hv => by
    have hgo := sp_line_go (g := g) hv
    have he : sp_line g n S = sp_line g' n S := sp_line_c h h160 (by have := hv.1.2.2.2.2.2; omega)
    unfold sp_run
    rw [← he]
    generalize sp_line g n S = RR at hgo
    cases RR with
    | inl x => rfl
    | inr S' =>
      show (if S.1.1 = 0 then _ else sp_run g n f (l + 1) S') = (if S.1.1 = 0 then _ else sp_run g' n f (l + 1) S')
      rw [sp_run_c h h160 hn f (l + 1) S' hgo.1]
theorem sp_ret_c (h160 : ∀ i, i < 160 → g i = g' i) (hn : n ≤ 160) : sp_ret g n = sp_ret g' n ∧ sp_text g n = sp_text g' n ∧ sp_cnt g n = sp_cnt g' n ∧ sp_acn g n = sp_acn g' n := by
  have h : sp_tok g n = sp_tok g' n := funext fun p => sp_tok_congr hn h160
  have e : sp_text g n = sp_text g' n := by
    unfold sp_text
    rw [sp_run_c h h160 hn 161 0 _ sp_start, h]
  refine ⟨?_, e, ?_, ?_⟩
  · unfold sp_ret
    rw [e]
  · unfold sp_cnt
    rw [sp_run_c h h160 hn 161 0 _ sp_start, h]
  · unfold sp_acn
    rw [sp_run_c h h160 hn 161 0 _ sp_start, h]
end CGR
/-! text of the class -/
def tx_We : List (Nat × Nat × Nat) := [(0, 9, 10), (26, 1, 11), (28, 0, 4), (29, 0, 4), (30, 0, 4), (31, 0, 4), (32, 0, 4), (33, 0, 8)]
def tx_W : List (Nat × Nat × Nat) := [(0, 9, 10), (1, 0, 4), (2, 0, 4), (3, 0, 4), (4, 0, 4), (5, 0, 4), (6, 0, 8), (25, 0, 2), (26, 1, 11), (28, 0, 4), (29, 0, 4), (30, 0, 4), (31, 0, 4), (32, 0, 4), (33, 0, 8), (34, 0, 1)]
def tx_lo : List (Nat × ai_v) := [(0, (0, 0, 0, 0))]
def tx_0 : ai_s := (0, tx_lo, [], [(0, 0, false, 0, 0), (0, 2555, false, 1, 0)], [], [])
theorem tx_r0 : ((ai_ex (hk []) 20 48 tb_m48 10 [4] tx_0).any fun xs => xs.all fun x => Nat.beq x.1 4 && (decide (x.2.2.1 = [(0, 26, 0, 0)]) && decide (x.2.1 = tx_lo))) = true := by decide +kernel
def tx_e : ai_s := (7, tx_lo, [], [(0, 0, false, 0, 0), (0, 2555, false, 1, 0), (1, 6, false, 2, 0), (0, 160, false, 3, 0)], [(26, 5, (1, 2, 0, 0)), (26, 6, (1, 3, 0, 0))], [])
def tx_eok (x : ai_s) : Bool := Nat.beq x.1 43 && (c6 x 1 (1, 0, 0, 0) && (decide (ai_lk x.2.2.2.2.1 0 9 = some (1, 2, 0, 0)) && match x.2.2.1 with
  | [v] => decide (v = (1, v.2.1, 0, 0)) && av_f x 0 0 3 (some v.2.1) 10
  | _ => false))
theorem tx_re : ((ai_ex (hk tx_We) 200 48 tb_m48 10 [] tx_e).any fun xs => xs.all tx_eok) = true := by decide +kernel
/-- the rows of an evening, as values -/
theorem vi_rows {ad : List Nat} {tys : ai_ty} {ws : va_W} {k n : Nat} {lo hi : Int} (h : ai_wd tb_TY ad tys ws) (hk : tb_TY[k]? = some (1, n, [(1, 0, lo, hi)])) : ∃ K : Nat → Int, ∀ i, i < n → vi ws k i (K i) ∧ lo ≤ K i ∧ K i ≤ hi := by
  obtain ⟨a, e, h1, h2, h3⟩ := h.get hk
  rcases h3 with ⟨q, -⟩ | ⟨-, cA, f, rfl, -, h4⟩ | ⟨q, -⟩ | ⟨q, -⟩
  · exact absurd (id q : (1 : Nat) = 0) (by decide)
  · refine ⟨fun i => (f i).toInt, fun i hi' => ?_⟩
    have h5 := h4 i (1, 0, lo, hi) hi' (by unfold ai_pt; show [((1 : Nat), (0 : Nat), lo, hi)][i % 1]? = _; rw [Nat.mod_one]; rfl)
    exact ⟨⟨f i, ⟨a, _, h1, Or.inr (Or.inl ⟨cA, n, f, rfl, hi', rfl⟩)⟩, rfl⟩, h5.1, h5.2⟩
  · exact absurd (id q : (1 : Nat) = 3) (by decide)
  · exact absurd (id q : (1 : Nat) = 4) (by decide)
theorem vi.fun {ws : va_W} {k i : Nat} {z y : Int} (h : vi ws k i z) (h' : vi ws k i y) : z = y := by
  obtain ⟨j, j1, j2⟩ := h
  obtain ⟨j', j1', j2'⟩ := h'
  cases j1.fun j1'
  omega
theorem vi_fd {T : List ai_c} {ad : List Nat} {tys : ai_ty} {ws : va_W} {k ci i : Nat} {F : List ai_f} {lo hi z : Int} (hw : ai_wd T ad tys ws) (h : vi ws k i z) (hT : T[k]? = some (0, ci, F)) (hF : F[i]? = some (1, 0, lo, hi)) : lo ≤ z ∧ z ≤ hi := by
  obtain ⟨y, h1, h2, h3⟩ := pl_f hw hT hF
  obtain ⟨j, j1, j2⟩ := h
  have := j1.fun h1
  cases this
  omega
def tx_o : ai_s := (7, tx_lo, [], [(0, 0, false, 0, 0), (0, 2555, false, 1, 0), (-2147483648, 2147483647, false, 2, 0), (0, 4, false, 3, 0), (0, 8, false, 4, 0), (0, 20, false, 5, 0), (-2147483648, 2147483647, false, 6, 0), (-2147483648, 2147483647, false, 7, 0), (-2147483648, 2147483647, false, 8, 0), (-2147483648, 2147483647, false, 9, 0), (-2147483648, 2147483647, false, 10, 0), (0, 99, false, 11, 0), (0, 99, false, 12, 0), (0, 99, false, 13, 0), (0, 99, false, 14, 0), (0, 99, false, 15, 0), (0, 99, false, 16, 0), (0, 99, false, 17, 0), (0, 99, false, 18, 0), (0, 99, false, 19, 0), (0, 99, false, 20, 0), (0, 99, false, 21, 0), (0, 99, false, 22, 0), (-2147483648, 2147483647, false, 23, 0), (-2147483648, 2147483647, false, 24, 0), (-2147483648, 2147483647, false, 25, 0), (-2147483648, 2147483647, false, 26, 0), (-2147483648, 2147483647, false, 27, 0), (-2147483648, 2147483647, false, 28, 0), (-2147483648, 2147483647, false, 29, 0), (-2147483648, 2147483647, false, 30, 0)], [(26, 5, (1, 0, 0, 0)), (26, 4, (1, 2, 0, 0)), (28, 0, (1, 3, 0, 0)), (28, 3, (1, 4, 0, 0)), (28, 1, (1, 5, 0, 0)), (28, 2, (1, 6, 0, 0)), (29, 0, (1, 7, 0, 0)), (29, 1, (1, 8, 0, 0)), (29, 2, (1, 9, 0, 0)), (29, 3, (1, 10, 0, 0)), (30, 0, (1, 11, 0, 0)), (30, 1, (1, 12, 0, 0)), (30, 2, (1, 13, 0, 0)), (30, 3, (1, 14, 0, 0)), (31, 0, (1, 15, 0, 0)), (31, 1, (1, 16, 0, 0)), (31, 2, (1, 17, 0, 0)), (31, 3, (1, 18, 0, 0)), (32, 0, (1, 19, 0, 0)), (32, 1, (1, 20, 0, 0)), (32, 2, (1, 21, 0, 0)), (32, 3, (1, 22, 0, 0)), (33, 0, (1, 23, 0, 0)), (33, 1, (1, 24, 0, 0)), (33, 2, (1, 25, 0, 0)), (33, 3, (1, 26, 0, 0)), (33, 4, (1, 27, 0, 0)), (33, 5, (1, 28, 0, 0)), (33, 6, (1, 29, 0, 0)), (33, 7, (1, 30, 0, 0))], [])
def tx_rows (x : ai_s) : Bool := lkq x 1 1 (1, 5, 0, 0) && (lkq x 1 2 (1, 6, 0, 0) && (((List.range 4).all fun i => lkq x 2 i (1, 7 + i, 0, 0) && (lkq x 3 i (1, 11 + i, 0, 0) && (lkq x 4 i (1, 15 + i, 0, 0) && lkq x 5 i (1, 19 + i, 0, 0)))) && (List.range 8).all fun i => lkq x 6 i (1, 23 + i, 0, 0)))
def tx_ook (x : ai_s) : Bool := Nat.beq x.1 87 && (c6 x 1 (1, 0, 0, 0) && (decide (ai_lk x.2.2.2.2.1 0 9 = some (1, 0, 0, 0)) && (decide (x.2.2.1 = [(1, 2, 0, 0)]) && (decide (ai_lk x.2.2.2.2.1 1 0 = some (1, 3, 0, 0)) && (decide (ai_lk x.2.2.2.2.1 1 3 = some (1, 4, 0, 0)) && (decide (ai_lk x.2.2.2.2.1 34 0 = some (1, 0, 0, 0)) && (decide (ai_lk x.2.2.2.2.1 25 0 = some (1, 0, 0, 0)) && (decide (ai_lk x.2.2.2.2.1 25 1 = some (1, 0, 0, 0)) && tx_rows x))))))))
theorem tx_ro : ((ai_ex (hk tx_W) 2000 48 tb_m48 10 [] tx_o).any fun xs => xs.all tx_ook) = true := by decide +kernel
end
section
/-! text of the class, and as a known method -/
theorem sp_run_le {g : Nat → Int} {n : Nat} : ∀ (f l : Nat) (S : sp_S), sp_inv2 n S → ∀ x, sp_run g n f l S = .inl x → 1 ≤ x.1 ∧ x.1 ≤ 5 ∧ x.2 ≤ n
  | 0, _, _, _, x, h => by cases h
  | f + 1, l, S, hv, x, h => by
    have hgo := sp_line_go (g := g) hv
    unfold sp_run at h
    split at h
    · cases h
    · generalize sp_line g n S = RR at hgo h
      cases RR with
      | inl y =>
        have h : (Sum.inl y : (Nat × Nat) ⊕ (sp_S × Nat)) = .inl x := h
        cases h
        exact hgo
      | inr S' =>
        have h : sp_run g n f (l + 1) S' = .inl x := h
        exact sp_run_le f (l + 1) S' hgo.1 x h
theorem sp_text_le {g : Nat → Int} {n : Nat} : (sp_text g n).1 ≤ 6 ∧ (sp_text g n).2.1 ≤ n := by
  have hr := sp_run_le (g := g) (n := n) 161 0 (sp_tok g n 0, 0, 0, []) sp_start
  have htext : sp_text g n = match sp_run g n 161 0 (sp_tok g n 0, 0, 0, []) with
      | .inl x => (x.1, x.2, 0)
      | .inr (S, l) => if (S.2.1 : Int) ≤ sp_high S.2.2.2 then (6, n, 0) else (0, 0, l) := rfl
  rw [htext]
  generalize sp_run g n 161 0 (sp_tok g n 0, 0, 0, []) = RR at hr ⊢
  cases RR with
  | inl x =>
    have := hr x rfl
    exact ⟨by show x.1 ≤ 6; omega, this.2.2⟩
  | inr y =>
    obtain ⟨S, ln⟩ := y
    show (if (S.2.1 : Int) ≤ sp_high S.2.2.2 then (6, n, 0) else (0, 0, ln)).1 ≤ 6 ∧ (if (S.2.1 : Int) ≤ sp_high S.2.2.2 then (6, n, 0) else (0, 0, ln)).2.1 ≤ n
    split
    · exact ⟨Nat.le_refl _, Nat.le_refl _⟩
    · exact ⟨Nat.zero_le _, Nat.zero_le _⟩
theorem sp_cnt_le {g : Nat → Int} {n : Nat} : sp_cnt g n ≤ 4 := by
  have key : ∀ (f l : Nat) (S : sp_S), sp_inv2 n S → ∀ S' l', sp_run g n f l S = .inr (S', l') → S'.2.1 ≤ 4 := by
    intro f
    induction f with
    | zero =>
      intro l S hv S' l' h
      cases h
      exact hv.1.2.2.1
    | succ f ih =>
      intro l S hv S' l' h
      have hgo := sp_line_go (g := g) hv
      unfold sp_run at h
      split at h
      · cases h
        exact hv.1.2.2.1
      · generalize sp_line g n S = RR at hgo h
        cases RR with
        | inl y =>
          have h : (Sum.inl y : (Nat × Nat) ⊕ (sp_S × Nat)) = .inr (S', l') := h
          cases h
        | inr S2 =>
          have h : sp_run g n f (l + 1) S2 = .inr (S', l') := h
          exact ih (l + 1) S2 hgo.1 S' l' h
  have hr := key 161 0 (sp_tok g n 0, 0, 0, []) sp_start
  have hcnt : sp_cnt g n = match sp_run g n 161 0 (sp_tok g n 0, 0, 0, []) with
      | .inl _ => 0
      | .inr (S, _) => S.2.1 := rfl
  rw [hcnt]
  generalize sp_run g n 161 0 (sp_tok g n 0, 0, 0, []) = RR at hr ⊢
  cases RR with
  | inl x => exact Nat.zero_le _
  | inr y => exact hr y.1 y.2 rfl
theorem sp_acn_le {g : Nat → Int} {n : Nat} : sp_acn g n ≤ 8 := by
  have key : ∀ (f l : Nat) (S : sp_S), sp_inv2 n S → ∀ S' l', sp_run g n f l S = .inr (S', l') → S'.2.2.2.length ≤ 8 := by
    intro f
    induction f with
    | zero =>
      intro l S hv S' l' h
      cases h
      exact hv.2.1.1
    | succ f ih =>
      intro l S hv S' l' h
      have hgo := sp_line_go (g := g) hv
      unfold sp_run at h
      split at h
      · cases h
        exact hv.2.1.1
      · generalize sp_line g n S = RR at hgo h
        cases RR with
        | inl y =>
          have h : (Sum.inl y : (Nat × Nat) ⊕ (sp_S × Nat)) = .inr (S', l') := h
          cases h
        | inr S2 =>
          have h : sp_run g n f (l + 1) S2 = .inr (S', l') := h
          exact ih (l + 1) S2 hgo.1 S' l' h
  have hr := key 161 0 (sp_tok g n 0, 0, 0, []) sp_start
  have hacn : sp_acn g n = match sp_run g n 161 0 (sp_tok g n 0, 0, 0, []) with
      | .inl _ => 0
      | .inr (S, _) => S.2.2.2.length := rfl
  rw [hacn]
  generalize sp_run g n 161 0 (sp_tok g n 0, 0, 0, []) = RR at hr ⊢
  cases RR with
  | inl x => exact Nat.zero_le _
  | inr y => exact hr y.1 y.2 rfl
theorem av_f0 {w0 : va_W} {r : List Int} {x : ai_s} {a b' v : Nat} {o za zb : Int} (g2 : ai_sb w0 r x.2.2.2.2.2) (ha : r[a]? = some za) (hb : r[b']? = some zb) (h : av_f x 0 a b' (some v) o = true) : ∃ zr, r[v]? = some zr ∧ za - zb = zr + o := by
  obtain ⟨q, hq, h1, h2, h3, h4, h5⟩ := av_mem h
  obtain ⟨ya, yb, yr, e1, e2, e3, e4, -⟩ := g2 q hq
  rw [h2, ha] at e1
  rw [h3, hb] at e2
  cases e1
  cases e2
  rw [h5 v rfl] at e3
  have := e4 h1
  exact ⟨yr, e3, by omega⟩
section TXA
variable {ad : List Nat} {p : Program} {l : Launch} {e : Env} {R : Room} {s : State} {m : MethodId} {args : Array Value} {below : List Frame} {meth : Method} {c : Code} {D : va_G} {tys : ai_ty} {A : Nat → Prop} {b L : Nat} {sx : Nat → Int32} {cells slots : Nat} {Q : State → Prop}
theorem tx_all (C : ai_cx tb_m48 10 p R s m args c D tys A b L sx cells slots) {ws : va_W} {g : Nat → Int} {n : Nat} (hn : n ≤ 160) (hw : ai_wd tb_TY ad tys ws) (hT : sp_tape g n ws) (h1 : vi ws 26 1 n) {lv : List (Nat × Value)} (hlv : ai_lo ad b [0] tx_lo lv)
    (ke : ∀ (ws' : va_W) (lv' : List (Nat × Value)) (z : Int32), (sp_text g n).1 ≠ 0 → ai_wd tb_TY ad tys ws' → ai_fr tx_We ws ws' → vi ws' 26 1 0 → vi ws' 0 9 (sp_text g n).1 → z.toInt = sp_ret g n → hG tb_m48 p l e R s m args below meth c D A cells slots Q 43 lv' [.int z] ws')
    (k : ∀ (ws' : va_W) (lv' : List (Nat × Value)) (z : Int32), (sp_text g n).1 = 0 → sp_cnt g n ≤ 4 → sp_acn g n ≤ 8 → ai_wd tb_TY ad tys ws' → ai_fr tx_W ws ws' → vi ws' 26 1 0 → vi ws' 0 9 (sp_text g n).1 → z.toInt = sp_ret g n → vi ws' 1 0 (sp_cnt g n) → vi ws' 1 3 (sp_acn g n) → vi ws' 34 0 0 → vi ws' 25 0 0 → vi ws' 25 1 0 → cev ws' 1 (sp_cnt g n) (ev_text g n) → (∀ i, i < sp_acn g n → vi ws' 6 i ((ev_acts g n).getD i 0)) → hG tb_m48 p l e R s m args below meth c D A cells slots Q 87 lv' [.int z] ws') : hG tb_m48 p l e R s m args below meth c D A cells slots Q 0 lv [] ws := by
  obtain ⟨xs, hx1, hx2⟩ := ai_anyE tx_r0
  have gm : ai_gm tb_TY [] ws ad b L sx tys tb_m48.2.2.2.2.1 [0, 0] tx_0 lv [] ws := by
    refine ⟨en_mk (by simp only [tx_0, en_b, and_true]; omega) rfl, sb0, lo0_ok (r := [0]) rfl rfl rfl hlv, trivial, hw, k0, fun _ _ _ _ h => h, fun h => by cases h⟩
  refine hseg (st := tx_0) hx1 rfl C gm (fun x hx r' lv1 sk' ws1 hx' g' => ?_)
  obtain ⟨g1, g2, g3, g4, hw1, g6, f1, -⟩ := g'
  have r0 : r'[0]? = some 0 := hx'.at rfl
  have hox := List.all_eq_true.mp hx2 x hx
  rw [Bool.and_eq_true, Bool.and_eq_true, ai_beq, decide_eq_true_eq, decide_eq_true_eq] at hox
  obtain ⟨p1, p2, p3⟩ := hox
  rw [p2] at g4
  obtain ⟨y, s1, rfl, dy, g4⟩ := g4.cons
  have hs1 := g4.nil
  subst hs1
  rw [p1]
  have hlv1 : ai_lo ad b [0] tx_lo lv1 := lo0_ok r0 rfl rfl (by rw [← p3]; exact g3)
  have hT1 := hT.fr hn hw1 f1 rfl rfl
  refine hcall (q := (69, 0, 25, 0, 2)) (M' := tb_m25) (cl := 26) (rets := [93]) (P := fun w => ai_wd tb_TY ad tys w ∧ ai_fr cl_W ws1 w ∧ ra_is g n w) C (by decide) (tv_m48.1.1.1 (4, .invokevirtual 69, 3) (List.mem_of_getElem? (i := 2) rfl)) (tv_m48.2 _ (List.mem_of_getElem? (i := 2) rfl)) rfl rfl rfl rfl (by decide) (by decide) rfl rfl rfl rfl hw1 (dv0 dy r0 rfl rfl) ?_ ?_ ?_
  · intro pcr hp
    rw [List.mem_singleton.mp hp]
    exact tv_m25.1.1.1 (93, .return_, 1) (List.mem_of_getElem? (i := 46) rfl)
  · intro p2 e2 R2 s2 m2 args2 below2 meth2 c2 Q2 C2 kk lv0 hlv0
    exact ra_all C2 hn hw1 hT1 (h1.fr f1 rfl) hlv0 (fun w lv2 a1 a2 a3 => kk 93 w lv2 (by decide) ⟨a1, a2, a3⟩)
  · rintro ws2 ⟨hw2, f2, v5, vF, vP, vL⟩
    have F2 : ai_fr tx_We ws ws2 := (wsub_ok (V := []) (by decide) f1).tr (wsub_ok (by decide) f2)
    obtain ⟨-, hP⟩ := sp_text_le (g := g) (n := n)
    by_cases hF : (sp_text g n).1 = 0
    · obtain ⟨vL, vC, hC4, vD, hD8, hEv, hAc⟩ := vL hF
      have hEv' := hEv
      obtain ⟨hEt, hE16, hE17⟩ := hEv
      have b16 : 0 ≤ ev_text g n 16 ∧ ev_text g n 16 ≤ 20 := vi_fd hw2 hE16 rfl rfl
      have b17 : -2147483648 ≤ ev_text g n 17 ∧ ev_text g n 17 ≤ 2147483647 := vi_fd hw2 hE17 rfl rfl
      obtain ⟨K, hK⟩ : ∃ K : Nat → Int, ∀ i, i < 4 → vi ws2 29 i (K i) ∧ -2147483648 ≤ K i ∧ K i ≤ 2147483647 := vi_rows hw2 rfl
      obtain ⟨Z, hZ⟩ : ∃ Z : Nat → Int, ∀ i, i < 4 → vi ws2 30 i (Z i) ∧ 0 ≤ Z i ∧ Z i ≤ 99 := vi_rows hw2 rfl
      obtain ⟨V, hV⟩ : ∃ V : Nat → Int, ∀ i, i < 4 → vi ws2 31 i (V i) ∧ 0 ≤ V i ∧ V i ≤ 99 := vi_rows hw2 rfl
      obtain ⟨U, hU⟩ : ∃ U : Nat → Int, ∀ i, i < 4 → vi ws2 32 i (U i) ∧ 0 ≤ U i ∧ U i ≤ 99 := vi_rows hw2 rfl
      obtain ⟨B, hB⟩ : ∃ B : Nat → Int, ∀ i, i < 8 → vi ws2 33 i (B i) ∧ -2147483648 ≤ B i ∧ B i ≤ 2147483647 := vi_rows hw2 rfl
      have bK0 := (hK 0 (by decide)).2
      have bK1 := (hK 1 (by decide)).2
      have bK2 := (hK 2 (by decide)).2
      have bK3 := (hK 3 (by decide)).2
      have bZ0 := (hZ 0 (by decide)).2
      have bZ1 := (hZ 1 (by decide)).2
      have bZ2 := (hZ 2 (by decide)).2
      have bZ3 := (hZ 3 (by decide)).2
      have bV0 := (hV 0 (by decide)).2
      have bV1 := (hV 1 (by decide)).2
      have bV2 := (hV 2 (by decide)).2
      have bV3 := (hV 3 (by decide)).2
      have bU0 := (hU 0 (by decide)).2
      have bU1 := (hU 1 (by decide)).2
      have bU2 := (hU 2 (by decide)).2
      have bU3 := (hU 3 (by decide)).2
      have bB0 := (hB 0 (by decide)).2
      have bB1 := (hB 1 (by decide)).2
      have bB2 := (hB 2 (by decide)).2
      have bB3 := (hB 3 (by decide)).2
      have bB4 := (hB 4 (by decide)).2
      have bB5 := (hB 5 (by decide)).2
      have bB6 := (hB 6 (by decide)).2
      have bB7 := (hB 7 (by decide)).2
      obtain ⟨zL, sL, eL⟩ := vL
      obtain ⟨ys, hy1, hy2⟩ := ai_anyE tx_ro
      have bL := ai_irg zL
      have gm2 : ai_gm tb_TY tx_W ws2 ad b L sx tys tb_m48.2.2.2.2.1 [0, 0, zL.toInt, ((sp_cnt g n : Nat) : Int), ((sp_acn g n : Nat) : Int), ev_text g n 16, ev_text g n 17, K 0, K 1, K 2, K 3, Z 0, Z 1, Z 2, Z 3, V 0, V 1, V 2, V 3, U 0, U 1, U 2, U 3, B 0, B 1, B 2, B 3, B 4, B 5, B 6, B 7] tx_o lv1 [] ws2 := by
        refine ⟨en_mk (by simp only [tx_o, en_b, and_true]; omega) rfl, sb0, lo0_ok (r := [0]) rfl rfl rfl hlv1, trivial, hw2, kc (v5.kn (n := 0) (t := 0) rfl (by rw [hF]; rfl)) (kc (kn1 sL (n := 2) (t := zL.toInt) rfl (by omega)) (kc (vC.kn (n := 3) (t := ((sp_cnt g n : Nat) : Int)) rfl (by omega)) (kc (vD.kn (n := 4) (t := ((sp_acn g n : Nat) : Int)) rfl (by omega)) (kc (hE16.kn (n := 5) (t := ev_text g n 16) rfl (by omega)) (kc (hE17.kn (n := 6) (t := ev_text g n 17) rfl (by omega)) (kc ((hK 0 (by decide)).1.kn (n := 7) (t := K 0) rfl (by omega)) (kc ((hK 1 (by decide)).1.kn (n := 8) (t := K 1) rfl (by omega)) (kc ((hK 2 (by decide)).1.kn (n := 9) (t := K 2) rfl (by omega)) (kc ((hK 3 (by decide)).1.kn (n := 10) (t := K 3) rfl (by omega)) (kc ((hZ 0 (by decide)).1.kn (n := 11) (t := Z 0) rfl (by omega)) (kc ((hZ 1 (by decide)).1.kn (n := 12) (t := Z 1) rfl (by omega)) (kc ((hZ 2 (by decide)).1.kn (n := 13) (t := Z 2) rfl (by omega)) (kc ((hZ 3 (by decide)).1.kn (n := 14) (t := Z 3) rfl (by omega)) (kc ((hV 0 (by decide)).1.kn (n := 15) (t := V 0) rfl (by omega)) (kc ((hV 1 (by decide)).1.kn (n := 16) (t := V 1) rfl (by omega)) (kc ((hV 2 (by decide)).1.kn (n := 17) (t := V 2) rfl (by omega)) (kc ((hV 3 (by decide)).1.kn (n := 18) (t := V 3) rfl (by omega)) (kc ((hU 0 (by decide)).1.kn (n := 19) (t := U 0) rfl (by omega)) (kc ((hU 1 (by decide)).1.kn (n := 20) (t := U 1) rfl (by omega)) (kc ((hU 2 (by decide)).1.kn (n := 21) (t := U 2) rfl (by omega)) (kc ((hU 3 (by decide)).1.kn (n := 22) (t := U 3) rfl (by omega)) (kc ((hB 0 (by decide)).1.kn (n := 23) (t := B 0) rfl (by omega)) (kc ((hB 1 (by decide)).1.kn (n := 24) (t := B 1) rfl (by omega)) (kc ((hB 2 (by decide)).1.kn (n := 25) (t := B 2) rfl (by omega)) (kc ((hB 3 (by decide)).1.kn (n := 26) (t := B 3) rfl (by omega)) (kc ((hB 4 (by decide)).1.kn (n := 27) (t := B 4) rfl (by omega)) (kc ((hB 5 (by decide)).1.kn (n := 28) (t := B 5) rfl (by omega)) (kc ((hB 6 (by decide)).1.kn (n := 29) (t := B 6) rfl (by omega)) (kc ((hB 7 (by decide)).1.kn (n := 30) (t := B 7) rfl (by omega)) k0))))))))))))))))))))))))))))), fun _ _ _ _ h => h, fun h => by cases h⟩
      refine hseg (st := tx_o) hy1 rfl C gm2 (fun x2 hx2' r2 lv3 sk2 ws3 hx3 g3' => ?_)
      obtain ⟨k1, k2, k3, k4, k5, k6, k7, k8⟩ := g3'
      have y0 : r2[0]? = some 0 := hx3.at rfl
      have y2 : r2[2]? = some zL.toInt := hx3.at rfl
      have y3 : r2[3]? = some ((sp_cnt g n : Nat) : Int) := hx3.at rfl
      have y4 : r2[4]? = some ((sp_acn g n : Nat) : Int) := hx3.at rfl
      have y5 : r2[5]? = some (ev_text g n 16) := hx3.at rfl
      have y6 : r2[6]? = some (ev_text g n 17) := hx3.at rfl
      have yK : ∀ i, i < 4 → r2[7 + i]? = some (K i) := fun i hi => by
        rcases (by omega : i = 0 ∨ i = 1 ∨ i = 2 ∨ i = 3) with rfl | rfl | rfl | rfl <;> exact hx3.at rfl
      have yZ : ∀ i, i < 4 → r2[11 + i]? = some (Z i) := fun i hi => by
        rcases (by omega : i = 0 ∨ i = 1 ∨ i = 2 ∨ i = 3) with rfl | rfl | rfl | rfl <;> exact hx3.at rfl
      have yV : ∀ i, i < 4 → r2[15 + i]? = some (V i) := fun i hi => by
        rcases (by omega : i = 0 ∨ i = 1 ∨ i = 2 ∨ i = 3) with rfl | rfl | rfl | rfl <;> exact hx3.at rfl
      have yU : ∀ i, i < 4 → r2[19 + i]? = some (U i) := fun i hi => by
        rcases (by omega : i = 0 ∨ i = 1 ∨ i = 2 ∨ i = 3) with rfl | rfl | rfl | rfl <;> exact hx3.at rfl
      have yB : ∀ i, i < 8 → r2[23 + i]? = some (B i) := fun i hi => by
        rcases (by omega : i = 0 ∨ i = 1 ∨ i = 2 ∨ i = 3 ∨ i = 4 ∨ i = 5 ∨ i = 6 ∨ i = 7) with rfl | rfl | rfl | rfl | rfl | rfl | rfl | rfl <;> exact hx3.at rfl
      have hox2 := List.all_eq_true.mp hy2 x2 hx2'
      unfold tx_ook at hox2
      simp only [Bool.and_eq_true, decide_eq_true_eq, ai_beq] at hox2
      obtain ⟨o1, o2, o3, o4, o5, o5', o6, o7, o8, o9⟩ := hox2
      rw [o4] at k4
      obtain ⟨yv, s1, rfl, dy, k4⟩ := k4.cons
      have hs1 := k4.nil
      subst hs1
      obtain ⟨z, rfl, hz⟩ := dvn dy y2
      rw [o1]
      refine k ws3 lv3 z hF hC4 hD8 k5 ((wsub_ok (by decide) F2).tr k7) (vi.lk k6 (decide_eq_true_eq.mp o2) y0 (by omega)) (vi.lk k6 o3 y0 (by rw [hF]; rfl)) ?_ (vi.lk k6 o5 y3 (by omega)) (vi.lk k6 o5' y4 (by omega)) (vi.lk k6 o6 y0 (by omega)) (vi.lk k6 o7 y0 (by omega)) (vi.lk k6 o8 y0 (by omega)) ?_ ?_
      rotate_left
      · unfold tx_rows at o9
        rw [Bool.and_eq_true, Bool.and_eq_true, Bool.and_eq_true] at o9
        obtain ⟨w1, w2, w3, w4⟩ := o9
        refine ⟨fun i hi => ?_, vi.lk k6 (decide_eq_true_eq.mp w1) y5 (by omega), vi.lk k6 (decide_eq_true_eq.mp w2) y6 (by omega)⟩
        obtain ⟨a1, a2, a3, a4⟩ := hEt i hi
        have hi4 : i < 4 := by omega
        have q := List.all_eq_true.mp w3 i (List.mem_range.mpr hi4)
        rw [Bool.and_eq_true, Bool.and_eq_true, Bool.and_eq_true] at q
        obtain ⟨q1, q2, q3, q4⟩ := q
        have e1 := a1.fun (hK i hi4).1
        have e2 := a2.fun (hZ i hi4).1
        have e3 := a3.fun (hV i hi4).1
        have e4 := a4.fun (hU i hi4).1
        exact ⟨vi.lk k6 (decide_eq_true_eq.mp q1) (yK i hi4) (by omega), vi.lk k6 (decide_eq_true_eq.mp q2) (yZ i hi4) (by omega), vi.lk k6 (decide_eq_true_eq.mp q3) (yV i hi4) (by omega), vi.lk k6 (decide_eq_true_eq.mp q4) (yU i hi4) (by omega)⟩
      · unfold tx_rows at o9
        rw [Bool.and_eq_true, Bool.and_eq_true, Bool.and_eq_true] at o9
        obtain ⟨w1, w2, w3, w4⟩ := o9
        intro i hi
        have hi8 : i < 8 := by omega
        have q := List.all_eq_true.mp w4 i (List.mem_range.mpr hi8)
        have e1 := (hAc i hi).fun (hB i hi8).1
        exact vi.lk k6 (decide_eq_true_eq.mp q) (yB i hi8) (by omega)
      unfold sp_ret
      rw [if_pos hF]
      omega
    · have vP := vP hF
      obtain ⟨ys, hy1, hy2⟩ := ai_anyE tx_re
      have gm2 : ai_gm tb_TY tx_We ws2 ad b L sx tys tb_m48.2.2.2.2.1 [0, 0, ((sp_text g n).1 : Int), ((sp_text g n).2.1 : Int)] tx_e lv1 [] ws2 := by
        refine ⟨en_mk (by simp only [tx_e, en_b, and_true]; omega) rfl, sb0, lo0_ok (r := [0]) rfl rfl rfl hlv1, trivial, hw2, kc (v5.kn (n := 2) (t := ((sp_text g n).1 : Int)) rfl (by omega)) (kc (vP.kn (n := 3) (t := ((sp_text g n).2.1 : Int)) rfl (by omega)) k0), fun _ _ _ _ h => h, fun h => by cases h⟩
      refine hseg (st := tx_e) hy1 rfl C gm2 (fun x2 hx2' r2 lv3 sk2 ws3 hx3 g3' => ?_)
      obtain ⟨k1, k2, k3, k4, k5, k6, k7, k8⟩ := g3'
      have y0 : r2[0]? = some 0 := hx3.at rfl
      have y2 : r2[2]? = some ((sp_text g n).1 : Int) := hx3.at rfl
      have y3 : r2[3]? = some ((sp_text g n).2.1 : Int) := hx3.at rfl
      have hox2 := List.all_eq_true.mp hy2 x2 hx2'
      unfold tx_eok at hox2
      rw [Bool.and_eq_true, Bool.and_eq_true, Bool.and_eq_true, ai_beq, decide_eq_true_eq] at hox2
      obtain ⟨o1, o2, o3, o4⟩ := hox2
      split at o4
      · rename_i v hst
        rw [Bool.and_eq_true, decide_eq_true_eq] at o4
        rw [hst] at k4
        obtain ⟨yv, s1, rfl, dy, k4⟩ := k4.cons
        have hs1 := k4.nil
        subst hs1
        obtain ⟨zr, w1, w2⟩ := av_f0 k2 y0 y3 o4.2
        rw [o4.1] at dy
        obtain ⟨z, rfl, hz⟩ := dvn dy w1
        rw [o1]
        refine ke ws3 lv3 z hF k5 (F2.tr k7) (vi.lk k6 (decide_eq_true_eq.mp o2) y0 (by omega)) (vi.lk k6 o3 y2 (by omega)) ?_
        unfold sp_ret
        rw [if_neg hF]
        omega
      · cases o4
end TXA
/-- behind a text with a fault: all else is as it was -/
def tx_k1 (st : ai_s) : List ai_k := (26, 1, (1, 0, 0, 0)) :: (0, 9, (1, st.2.2.2.1.length + 1, 0, 0)) :: st.2.2.2.2.1.filter (fun q => !(ai_wr tx_We q.1 q.2.1 q.2.1))
def tx_k2 (st : ai_s) : List ai_k := (26, 1, (1, 0, 0, 0)) :: (0, 9, (1, st.2.2.2.1.length + 1, 0, 0)) :: (1, 0, (1, st.2.2.2.1.length + 2, 0, 0)) :: (1, 3, (1, st.2.2.2.1.length + 3, 0, 0)) :: (34, 0, (1, 0, 0, 0)) :: (25, 0, (1, 0, 0, 0)) :: (25, 1, (1, 0, 0, 0)) :: st.2.2.2.2.1.filter (fun q => !(ai_wr tx_W q.1 q.2.1 q.2.1))
def tx_en (st : ai_s) (a b : Int) : List ai_e := ai_nu (ai_nu (ai_nu (ai_nu st.2.2.2.1 (-2147483648) 2147483647) a b) 0 4) 0 8
def tx_end (st : ai_s) (w : ai_v) (pc : Nat) (a b : Int) (kn : List ai_k) : ai_s := (pc, [], [(1, st.2.2.2.1.length, 0, 0)], tx_en st a b, kn, (499, w.2.1, w.2.1, st.2.2.2.1.length, 0) :: st.2.2.2.2.2)
def su_tx (WR : List (Nat × Nat × Nat)) (st : ai_s) : Option (List ai_s) :=
  (ai_lk st.2.2.2.2.1 26 1).bind fun w => if w.1 = 1 ∧ w.2.2.2 = 0 ∧ st.2.1 = tx_lo ∧ st.2.2.1 = [] ∧ wsub tx_W WR = true ∧ nowr WR 27 = true ∧ nowr WR 52 = true ∧ ai_z st.2.2.2.1 = true ∧ st_fact st.2.2.2.2.2 w.2.1 = true then some [tx_end st w 43 1 6 (tx_k1 st), tx_end st w 87 0 0 (tx_k2 st)] else none
/-- the fact of a text's answer -/
theorem f499 {w0 : va_W} {r : List Int} {n v N : Nat} {g : Nat → Int} (hn : r[n]? = some (N : Int)) (hN : N ≤ 160) (hv : r[v]? = some (sp_ret g N)) (hf : r[v + 1]? = some (((sp_text g N).1 : Nat) : Int)) (hc : r[v + 2]? = some ((sp_cnt g N : Nat) : Int)) (hd : r[v + 3]? = some ((sp_acn g N : Nat) : Int)) (hg : fx_tape w0 g) : ai_sb w0 r [(499, n, n, v, 0)] := fun q hq => by
  rw [List.mem_singleton.mp hq]
  refine ⟨N, N, _, hn, hn, hv, fun h => absurd (show (499 : Nat) = 0 from h) (by decide), fun h => absurd (show (499 : Nat) = 1 from h) (by decide), fun h => absurd (show (499 : Nat) = 2 from h) (by decide), fun h => absurd (show (499 : Nat) = 4 from h) (by decide), fun h => absurd (show (499 : Nat) = 5 from h) (by decide), fun _ => ⟨fun h => absurd (show (1000 : Nat) ≤ 499 from h) (by decide), fun h => absurd (show (499 : Nat) < 300 ∨ (500 ≤ 499 ∧ 499 < 1000) from h) (by decide), fun g' hg' => ⟨fun _ h => absurd (show (499 : Nat) < 305 from h) (by decide), fun _ h => absurd (show (499 : Nat) < 318 from h) (by decide), fun _ h => absurd (show (499 : Nat) < 323 from h) (by decide), fun _ _ => ?_, fun h => absurd (show (499 : Nat) = 330 from h) (by decide)⟩, fun h => absurd (show (499 : Nat) = 350 from h) (by decide)⟩⟩
  obtain ⟨c1, c2, c3, c4⟩ := sp_ret_c (g := g') (g' := g) (n := N) (fun i hi => tape_one hg' hg i hi) hN
  unfold fx_ps
  rw [if_pos rfl]
  exact ⟨N, _, _, _, _, hn, hv, hf, hc, hd, by omega, by rw [Int.toNat_natCast, c1], by rw [Int.toNat_natCast, c2], by rw [Int.toNat_natCast, c3], by rw [Int.toNat_natCast, c4]⟩
theorem r4_at {r : List Int} {a b c d : Int} {n : Nat} (h : r.length = n) : ((((r ++ [a]) ++ [b]) ++ [c]) ++ [d])[n]? = some a ∧ ((((r ++ [a]) ++ [b]) ++ [c]) ++ [d])[n + 1]? = some b ∧ ((((r ++ [a]) ++ [b]) ++ [c]) ++ [d])[n + 2]? = some c ∧ ((((r ++ [a]) ++ [b]) ++ [c]) ++ [d])[n + 3]? = some d := by
  subst h
  refine ⟨?_, ?_, ?_, ?_⟩ <;> simp
theorem su_tx_ok {WR : List (Nat × Nat × Nat)} {d : Nat} {st : ai_s} {xs : List ai_s} (hq : su_tx WR st = some xs) (h0 : st.1 = 0) (hd : 10 ≤ d) {w0 : va_W} {ad : List Nat} {p : Program} {l : Launch} {e : Env} {R : Room} {s : State} {m : MethodId} {args : Array Value} {below : List Frame} {meth : Method} {c : Code} {D : va_G} {tys : ai_ty} {A : Nat → Prop} {b L : Nat} {sx : Nat → Int32} {cells slots : Nat} {Q : State → Prop} {r0 : List Int}
    (C : ai_cx tb_m48 d p R s m args c D tys A b L sx cells slots) (k : ∀ x ∈ xs, ai_G tb_TY WR w0 ad tb_m48 p l e R s m args below meth c D tys A b L sx cells slots Q r0 x) : ai_G tb_TY WR w0 ad tb_m48 p l e R s m args below meth c D tys A b L sx cells slots Q r0 st := by
  unfold su_tx at hq
  obtain ⟨w, w1, hq⟩ := Option.bind_eq_some_iff.mp hq
  split at hq
  · rename_i hc
    obtain ⟨c1, c2, c3, c4, c5, c6, c7, c8, c9⟩ := hc
    injection hq with hq
    subst hq
    intro r lv sk ws H locs ls hx g hP hD hS hl
    obtain ⟨g1, g2, g3, g4, g5, g6, g7, g8⟩ := g
    have hsk : sk = [] := by rw [c4] at g4; exact g4.nil
    subst hsk
    rw [h0]
    obtain ⟨x1, s1, d1⟩ := ai_lk_ok g6 w1
    obtain ⟨zn, rfl⟩ : ∃ i : Int32, x1 = .int i := by
      rcases d1 with ⟨q, -⟩ | ⟨-, z, i, -, q2, -⟩ | ⟨q, -⟩ | ⟨q, -⟩ | ⟨q, -⟩
      · omega
      · exact ⟨i, q2⟩
      all_goals omega
    obtain ⟨zb, b1, b2⟩ := ai_dv1 d1 c1
    rw [c2] at b2
    have r00 : r[0]? = some 0 := ai_z_ok g1 c8
    obtain ⟨n0, n1⟩ := f267 (i := 1) g5 s1 rfl
    obtain ⟨N, hN⟩ : ∃ N : Nat, zb = (N : Int) := ⟨zb.toNat, by omega⟩
    subst hN
    obtain ⟨g0, t1, t2⟩ := st_factok g2 b1 c9
    rw [Int.toNat_natCast] at t2
    have hN160 : N ≤ 160 := by omega
    have hr1 : r.length = st.2.2.2.1.length := g1.1
    have hT : sp_tape g0 N ws := ⟨fun i hi => fr_fx (k := 27) g5 rfl g7 (nowr_ok c6 i i) (t1 i hi), fun i hi => fr_fx (k := 52) g5 rfl g7 (nowr_ok c7 i i) (t2 i hi)⟩
    have hle := (sp_text_le (g := g0) (n := N)).1
    have hx3 : ai_x r ((((r ++ [sp_ret g0 N]) ++ [(((sp_text g0 N).1 : Nat) : Int)]) ++ [((sp_cnt g0 N : Nat) : Int)]) ++ [((sp_acn g0 N : Nat) : Int)]) := ((ai_x.push.tr ai_x.push).tr ai_x.push).tr ai_x.push
    obtain ⟨q1, q2, q3, q4⟩ := r4_at (a := sp_ret g0 N) (b := (((sp_text g0 N).1 : Nat) : Int)) (c := ((sp_cnt g0 N : Nat) : Int)) (d := ((sp_acn g0 N : Nat) : Int)) hr1
    have keep : ∀ {V : List (Nat × Nat × Nat)} {ws' : va_W}, ai_fr V ws ws' → ∀ q ∈ st.2.2.2.2.1.filter (fun q => !(ai_wr V q.1 q.2.1 q.2.1)), ∃ x, ai_sl ws' q.1 q.2.1 x ∧ ai_dv ad b ((((r ++ [sp_ret g0 N]) ++ [(((sp_text g0 N).1 : Nat) : Int)]) ++ [((sp_cnt g0 N : Nat) : Int)]) ++ [((sp_acn g0 N : Nat) : Int)]) q.2.2 x := fun {V ws'} hf q hq => by
      obtain ⟨f1, f2⟩ := List.mem_filter.mp hq
      obtain ⟨x, e1, e2⟩ := g6 q f1
      exact ⟨x, hf _ _ _ (by rw [Bool.not_eq_true'] at f2; exact f2) e1, e2.mono hx3⟩
    refine tx_all (mm_cx hd C) hN160 g5 hT ⟨zn, s1, by omega⟩ (lo0_ok r00 rfl rfl (by rw [← c3]; exact g3)) (fun ws' lv' z hF hw' hf v1 v9 hz => ?_) (fun ws' lv' z hF hC4 hD8 hw' hf v1 v9 hz v10 v13 v34 v25 v251 _ _ => ?_) H locs ls hP hD hS hl
    · intro H' locs' ls' hP' hD' hS' hl'
      have bz := ai_irg z
      have hcnt : sp_cnt g0 N ≤ 4 := sp_cnt_le
      have hacn : sp_acn g0 N ≤ 8 := sp_acn_le
      refine k _ (List.mem_of_getElem? (i := 0) rfl) _ [] [.int z] ws' H' locs' ls' (hx.tr hx3) ⟨(((g1.nu (by omega) (by omega)).nu (by omega) (by omega)).nu (by omega) (by omega)).nu (by omega) (by omega), sbc (f499 (hx3.at b1) hN160 q1 q2 q3 q4 t1) (g2.mono hx3), trivial, ⟨Or.inr (Or.inl ⟨rfl, _, z, q1, rfl, by show z.toInt = sp_ret g0 N + 0; omega⟩), trivial⟩, hw', kc (v1.kn (n := 0) (t := 0) (hx3.at r00) (by omega)) (kc (v9.kn (n := st.2.2.2.1.length + 1) q2 (by omega)) (keep hf)), fun cc i x hwr hsl => wsub_ok c5 (wsub_ok (V := tx_We) (by decide) hf) cc i x hwr (g7 cc i x hwr hsl), fun h => by cases h⟩ hP' hD' hS' ⟨hl'.1, hl'.2.1, fun q hq => by cases hq⟩
    · intro H' locs' ls' hP' hD' hS' hl'
      have bz := ai_irg z
      refine k _ (List.mem_of_getElem? (i := 1) rfl) _ [] [.int z] ws' H' locs' ls' (hx.tr hx3) ⟨(((g1.nu (by omega) (by omega)).nu (by omega) (by omega)).nu (by omega) (by omega)).nu (by omega) (by omega), sbc (f499 (hx3.at b1) hN160 q1 q2 q3 q4 t1) (g2.mono hx3), trivial, ⟨Or.inr (Or.inl ⟨rfl, _, z, q1, rfl, by show z.toInt = sp_ret g0 N + 0; omega⟩), trivial⟩, hw', kc (v1.kn (n := 0) (t := 0) (hx3.at r00) (by omega)) (kc (v9.kn (n := st.2.2.2.1.length + 1) q2 (by omega)) (kc (v10.kn (n := st.2.2.2.1.length + 2) q3 (by omega)) (kc (v13.kn (n := st.2.2.2.1.length + 3) q4 (by omega)) (kc (v34.kn (n := 0) (t := 0) (hx3.at r00) (by omega)) (kc (v25.kn (n := 0) (t := 0) (hx3.at r00) (by omega)) (kc (v251.kn (n := 0) (t := 0) (hx3.at r00) (by omega)) (keep hf))))))), fun cc i x hwr hsl => wsub_ok c5 hf cc i x hwr (g7 cc i x hwr hsl), fun h => by cases h⟩ hP' hD' hS' ⟨hl'.1, hl'.2.1, fun q hq => by cases hq⟩
  · cases hq
end
section
/-! the reference's readPlan is sp_plan -/
def rf_tk (ws : va_W) (t : sp_T) : Prop := (t.1 = 4 → vi ws 49 9 1 ∧ vi ws 49 10 t.2.1) ∧ (t.1 ≠ 4 → vi ws 49 9 0 ∧ vi ws 49 11 t.2.2.1 ∧ vi ws 49 12 t.2.1 ∧ vi ws 49 13 t.1 ∧ vi ws 49 14 t.2.2.2)
theorem rf_tk.fr {W : List (Nat × Nat × Nat)} {ws ws' : va_W} {t : sp_T} (h : rf_tk ws t) (hf : ai_fr W ws ws') (hw : ∀ i, 9 ≤ i → i ≤ 14 → ai_wr W 49 i i = false) : rf_tk ws' t :=
  ⟨fun c => ⟨(h.1 c).1.fr hf (hw 9 (by decide) (by decide)), (h.1 c).2.fr hf (hw 10 (by decide) (by decide))⟩, fun c => ⟨(h.2 c).1.fr hf (hw 9 (by decide) (by decide)), (h.2 c).2.1.fr hf (hw 11 (by decide) (by decide)), (h.2 c).2.2.1.fr hf (hw 12 (by decide) (by decide)), (h.2 c).2.2.2.1.fr hf (hw 13 (by decide) (by decide)), (h.2 c).2.2.2.2.fr hf (hw 14 (by decide) (by decide))⟩⟩
theorem rp_tkok {ad : List Nat} {b : Nat} {r : List Int} {ws : va_W} {x : ai_s} {kb : Nat × Nat} {t : sp_T} (g6 : ai_kn ad b r ws x.2.2.2.2.1) (r0 : r[0]? = some 0) (h : sy_is r kb t) (hx : rp_tk x kb = true) : rf_tk ws t := by
  obtain ⟨h1, h2, h3, h4⟩ := h
  unfold rp_tk at hx
  split at hx
  · rename_i hk
    rw [Bool.and_eq_true] at hx
    exact ⟨fun _ => ⟨vi.lk g6 (decide_eq_true_eq.mp hx.1) r0 (by omega), vi.lk g6 (decide_eq_true_eq.mp hx.2) h2 (by omega)⟩, fun c => absurd (h1.trans hk) c⟩
  · rename_i hk
    rw [Bool.and_eq_true, Bool.and_eq_true, Bool.and_eq_true, Bool.and_eq_true] at hx
    obtain ⟨x9, x13, x12, x11, x14⟩ := hx
    exact ⟨fun c => absurd (h1.symm.trans c) hk, fun _ => ⟨vi.lk g6 (decide_eq_true_eq.mp x9) r0 (by omega), vi.lk g6 (decide_eq_true_eq.mp x11) h3 (by omega), vi.lk g6 (decide_eq_true_eq.mp x12) h2 (by omega), vi.lk g6 (decide_eq_true_eq.mp x13) r0 (by rw [h1]; omega), vi.lk g6 (decide_eq_true_eq.mp x14) h4 (by omega)⟩⟩
theorem sp_high_b : ∀ (as : List Int) (h : Int), -1 ≤ h → h ≤ 3 → -1 ≤ as.foldl (fun h a => if a < 4 ∧ h < a then a else h) h ∧ as.foldl (fun h a => if a < 4 ∧ h < a then a else h) h ≤ 3
  | [], h, h1, h2 => ⟨h1, h2⟩
  | a :: as, h, h1, h2 => by
    show -1 ≤ as.foldl _ (if a < 4 ∧ h < a then a else h) ∧ as.foldl _ (if a < 4 ∧ h < a then a else h) ≤ 3
    split
    · exact sp_high_b as a (by omega) (by omega)
    · exact sp_high_b as h h1 h2
theorem sp_high_snoc {as : List Int} {v : Int} : sp_high (as ++ [v]) = if v < 4 ∧ sp_high as < v then v else sp_high as := by
  unfold sp_high
  rw [List.foldl_append]
  rfl
/-- the acts of the page that is read -/
def pac (ws : va_W) (as : List Int) : Prop := ∀ i, i < as.length → vi ws 51 (18 + i) (as.getD i 0)
theorem pac.fr {W : List (Nat × Nat × Nat)} {ws ws' : va_W} {as : List Int} (h : pac ws as) (hf : ai_fr W ws ws') (hw : nowr W 51 = true) : pac ws' as := fun i hi => (h i hi).fr hf (nowr_ok hw _ _)
def rp_is (g : Nat → Int) (n : Nat) (ws : va_W) (t : Nat) (bs : List Int) (q : Nat) : Prop := (t = 0 → rf_tk ws (sp_tok g n q) ∧ vi ws 49 5 (sp_high bs) ∧ vi ws 51 26 bs.length ∧ pac ws bs) ∧ (t ≠ 0 → vi ws 49 9 t ∧ vi ws 49 10 (sp_tok g n q).2.1)
section RPA
variable {ad : List Nat} {p : Program} {l : Launch} {e : Env} {R : Room} {s : State} {m : MethodId} {args : Array Value} {below : List Frame} {meth : Method} {c : Code} {D : va_G} {tys : ai_ty} {A : Nat → Prop} {b L : Nat} {sx : Nat → Int32} {cells slots : Nat} {Q : State → Prop}
theorem rp_back (C : ai_cx tb_m106 7 p R s m args c D tys A b L sx cells slots) {ws : va_W} {lv : List (Nat × Value)} {pc : Nat} (hpc : pc = 32 ∨ pc = 94) (k : hG tb_m106 p l e R s m args below meth c D A cells slots Q 0 lv [] ws) : hG tb_m106 p l e R s m args below meth c D A cells slots Q pc lv [] ws := by
  intro H locs ls hP hD hS hl
  rcases hpc with rfl | rfl
  · exact lv_goto (tgt := 0) C.1 C.2.1 (tv_m106.1.1.1 (32, .goto (-32), 3) (List.mem_of_getElem? (i := 16) rfl)) (by decide) (k H locs ls hP hD hS hl)
  · exact lv_goto (tgt := 0) C.1 C.2.1 (tv_m106.1.1.1 (94, .goto (-94), 3) (List.mem_of_getElem? (i := 53) rfl)) (by decide) (k H locs ls hP hD hS hl)
theorem rp_exb (C : ai_cx tb_m106 7 p R s m args c D tys A b L sx cells slots) {ws : va_W} {cd : Nat} (hcd : cd = 1 ∨ cd = 3 ∨ cd = 5) (hw : ai_wd tb_TY ad tys ws) (h9 : vi ws 49 9 cd) {lv : List (Nat × Value)} (hlv : ai_lo ad b [0] ms_lo lv)
    (k : ∀ (ws' : va_W) (lv' : List (Nat × Value)), ai_wd tb_TY ad tys ws' → ai_fr [] ws ws' → hG tb_m106 p l e R s m args below meth c D A cells slots Q 97 lv' [] ws') : hG tb_m106 p l e R s m args below meth c D A cells slots Q 0 lv [] ws := by
  have run : rp_x (rp_xb (cd : Int)) = true := by
    rcases hcd with rfl | rfl | rfl
    · exact rp_b1
    · exact rp_b3
    · exact rp_b5
  obtain ⟨xs, hx1, hx2⟩ := ai_anyE run
  have gm : ai_gm tb_TY [] ws ad b L sx tys tb_m106.2.2.2.2.1 [0, 0] (rp_xb (cd : Int)) lv [] ws := by
    refine ⟨en_mk (by simp only [rp_xb, en_b, and_true]; omega) rfl, sb0, lo0_ok (r := [0]) rfl rfl rfl hlv, trivial, hw, kc (h9.kn (n := 0) (t := 0) rfl (by omega)) k0, fun _ _ _ _ h => h, fun h => by cases h⟩
  refine hsegT (st := rp_xb (cd : Int)) hx1 rfl C gm (fun x hx r' lv1 sk' ws1 hx' g' => ?_)
  obtain ⟨-, -, -, g4, hw1, -, f1, -⟩ := g'
  have hox := List.all_eq_true.mp hx2 x hx
  rw [Bool.and_eq_true, ai_beq] at hox
  have hsk : sk' = [] := by
    rw [List.isEmpty_iff.mp hox.1] at g4
    exact g4.nil
  subst hsk
  rw [hox.2]
  exact k ws1 lv1 hw1 f1
theorem rp_exk (C : ai_cx tb_m106 7 p R s m args c D tys A b L sx cells slots) {ws : va_W} {cd : Nat} (hcd : cd = 0 ∨ cd = 1 ∨ cd = 3) (hw : ai_wd tb_TY ad tys ws) (h9 : vi ws 49 9 0) (h13 : vi ws 49 13 cd) {lv : List (Nat × Value)} (hlv : ai_lo ad b [0] ms_lo lv)
    (k : ∀ (ws' : va_W) (lv' : List (Nat × Value)), ai_wd tb_TY ad tys ws' → ai_fr [] ws ws' → hG tb_m106 p l e R s m args below meth c D A cells slots Q 97 lv' [] ws') : hG tb_m106 p l e R s m args below meth c D A cells slots Q 0 lv [] ws := by
  have run : rp_x (rp_xk (cd : Int)) = true := by
    rcases hcd with rfl | rfl | rfl
    · exact rp_k0
    · exact rp_k1
    · exact rp_k3
  obtain ⟨xs, hx1, hx2⟩ := ai_anyE run
  have gm : ai_gm tb_TY [] ws ad b L sx tys tb_m106.2.2.2.2.1 [0, 0] (rp_xk (cd : Int)) lv [] ws := by
    refine ⟨en_mk (by simp only [rp_xk, en_b, and_true]; omega) rfl, sb0, lo0_ok (r := [0]) rfl rfl rfl hlv, trivial, hw, kc (h9.kn (n := 0) (t := 0) rfl (by omega)) (kc (h13.kn (n := 0) (t := 0) rfl (by omega)) k0), fun _ _ _ _ h => h, fun h => by cases h⟩
  refine hsegT (st := rp_xk (cd : Int)) hx1 rfl C gm (fun x hx r' lv1 sk' ws1 hx' g' => ?_)
  obtain ⟨-, -, -, g4, hw1, -, f1, -⟩ := g'
  have hox := List.all_eq_true.mp hx2 x hx
  rw [Bool.and_eq_true, ai_beq] at hox
  have hsk : sk' = [] := by
    rw [List.isEmpty_iff.mp hox.1] at g4
    exact g4.nil
  subst hsk
  rw [hox.2]
  exact k ws1 lv1 hw1 f1
set_option maxHeartbeats 1000000 in
theorem rp_loop (C : ai_cx tb_m106 7 p R s m args c D tys A b L sx cells slots) {g : Nat → Int} {n : Nat} (hn : n ≤ 160) :
    ∀ (N : Nat) (ws : va_W) (as : List Int) (pp : Nat) (lv : List (Nat × Value)), N + as.length = 9 → ai_wd tb_TY ad tys ws → sp_tape g n ws → pp ≤ n → rf_tk ws (sp_tok g n pp) → vi ws 49 7 n → vi ws 49 5 (sp_high as) → vi ws 51 26 as.length → pac ws as → sp_acts as → ai_lo ad b [0] ms_lo lv →
    (∀ (ws' : va_W) (lv' : List (Nat × Value)) (t : Nat) (bs : List Int) (q : Nat), sp_plan g n N (sp_tok g n pp) as = (t, bs, sp_tok g n q) → ai_wd tb_TY ad tys ws' → ai_fr rp_WR ws ws' → rp_is g n ws' t bs q → hG tb_m106 p l e R s m args below meth c D A cells slots Q 97 lv' [] ws') → hG tb_m106 p l e R s m args below meth c D A cells slots Q 0 lv [] ws := by
  intro N
  induction N with
  | zero =>
    intro ws as pp lv hN hw hT hp ht h7 h5 h26 hpa ha hlv k
    have := ha.1
    omega
  | succ N ih =>
    intro ws as pp lv hN hw hT hp ht h7 h5 h26 hpa ha hlv k
    have wn : ∀ (k i : Nat), ai_wr [] k i i = false := fun _ _ => rfl
    obtain ⟨q1, q2, q3, q4, -⟩ := sp_tok_le (g := g) hp
    have hplan : sp_plan g n (N + 1) (sp_tok g n pp) as = if (sp_tok g n pp).1 = 2 then (if 8 ≤ as.length then (5, as, sp_tok g n pp) else if tp_i (sp_tok g n pp).2.2.2 0 4 = true then sp_plan g n N (sp_tok g n (sp_tok g n pp).2.2.1) (as ++ [(sp_tok g n pp).2.2.2]) else (3, as, sp_tok g n pp)) else (0, as, sp_tok g n pp) := rfl
    rw [hplan] at k
    by_cases c4 : (sp_tok g n pp).1 = 4
    · rw [if_neg (by omega)] at k
      refine rp_exb C (Or.inl rfl) hw (ht.1 c4).1 hlv (fun ws1 lv1 hw1 f1 => k ws1 lv1 0 as pp rfl hw1 (wsub_ok (by decide) f1) ⟨fun _ => ⟨ht.fr f1 (fun _ _ _ => rfl), h5.fr f1 rfl, h26.fr f1 rfl, hpa.fr f1 rfl⟩, fun h => absurd rfl h⟩)
    · obtain ⟨h9, h11, h12, h13, h14⟩ := ht.2 c4
      by_cases c2 : (sp_tok g n pp).1 = 2
      · rw [if_pos c2] at k
        obtain ⟨zv, s14, e14⟩ := h14
        have bz := ai_irg zv
        have hb := sp_high_b as (-1) (by decide) (by decide)
        have hb : -1 ≤ sp_high as ∧ sp_high as ≤ 3 := hb
        have run := List.all_eq_true.mp rp_r0 as.length (List.mem_range.mpr (by have := ha.1; omega))
        obtain ⟨xs, hx1, hx2⟩ := ai_anyE run
        have hsubm : wsub (rp_Wm as.length) rp_WR = true := by
          have hl := ha.1
          rcases (by omega : as.length = 0 ∨ as.length = 1 ∨ as.length = 2 ∨ as.length = 3 ∨ as.length = 4 ∨ as.length = 5 ∨ as.length = 6 ∨ as.length = 7 ∨ as.length = 8) with h | h | h | h | h | h | h | h | h <;> rw [h] <;> decide
        have gm : ai_gm tb_TY (rp_Wm as.length) ws ad b L sx tys tb_m106.2.2.2.2.1 [0, 0, (n : Int), ((sp_tok g n pp).2.1 : Int), ((sp_tok g n pp).2.2.1 : Int), (sp_tok g n pp).2.2.2, sp_high as] (rp_st as.length) lv [] ws := by
          refine ⟨en_mk (by simp only [rp_st, en_b, and_true]; omega) rfl, f350 rfl hT.1 hT.2, lo0_ok (r := [0]) rfl rfl rfl hlv, trivial, hw, kc (h7.kn (n := 2) (t := (n : Int)) rfl (by omega)) (kc (h12.kn (n := 3) (t := ((sp_tok g n pp).2.1 : Int)) rfl (by omega)) (kc (h11.kn (n := 4) (t := ((sp_tok g n pp).2.2.1 : Int)) rfl (by omega)) (kc (kn1 s14 (n := 5) (t := (sp_tok g n pp).2.2.2) rfl (by omega)) (kc (h9.kn (n := 0) (t := 0) rfl (by omega)) (kc (h13.kn (n := 0) (t := 0) rfl (by omega)) (kc (h5.kn (n := 6) (t := sp_high as) rfl (by omega)) (kc (h26.kn (n := 0) (t := 0) rfl (by omega)) k0))))))), fun _ _ _ _ h => h, fun h => by cases h⟩
        refine hsegT (st := rp_st as.length) hx1 rfl C gm (fun x hx r' lv1 sk' ws1 hx' g' => ?_)
        obtain ⟨g1, g2, g3, g4, hw1, g6, f0, -⟩ := g'
        have f1 : ai_fr rp_WR ws ws1 := wsub_ok hsubm f0
        have r0 : r'[0]? = some 0 := hx'.at rfl
        have r2 : r'[2]? = some (n : Int) := hx'.at rfl
        have r3 : r'[3]? = some ((sp_tok g n pp).2.1 : Int) := hx'.at rfl
        have r4 : r'[4]? = some ((sp_tok g n pp).2.2.1 : Int) := hx'.at rfl
        have r5 : r'[5]? = some (sp_tok g n pp).2.2.2 := hx'.at rfl
        have r6 : r'[6]? = some (sp_high as) := hx'.at rfl
        have hox := List.all_eq_true.mp hx2 x hx
        unfold rp_ok at hox
        rw [Bool.and_eq_true, Bool.and_eq_true, decide_eq_true_eq] at hox
        obtain ⟨hs, p0, hox⟩ := hox
        have hsk : sk' = [] := by
          rw [List.isEmpty_iff.mp hs] at g4
          exact g4.nil
        subst hsk
        split at hox
        · rename_i h8
          rw [if_pos (by omega)] at k
          rw [Bool.and_eq_true, Bool.and_eq_true, ai_beq] at hox
          obtain ⟨o1, o2, o3⟩ := hox
          have w9 : vi ws1 49 9 ((5 : Nat) : Int) := vi.lk g6 (decide_eq_true_eq.mp o2) r0 (by omega)
          have w10 : vi ws1 49 10 ((sp_tok g n pp).2.1 : Int) := vi.lk g6 (decide_eq_true_eq.mp o3) r3 (by omega)
          rw [o1]
          refine hG_this g3 p0 (fun lv2 hlv2 => rp_back C (Or.inl rfl) ?_)
          exact rp_exb C (Or.inr (Or.inr rfl)) hw1 w9 hlv2 (fun ws2 lv3 hw2 f2 => k ws2 lv3 5 as pp rfl hw2 (f1.tr (wsub_ok (by decide) f2)) ⟨fun h => absurd h (by decide), fun _ => ⟨w9.fr f2 rfl, w10.fr f2 rfl⟩⟩)
        · rename_i h8
          have hlen := ha.1
          rw [if_neg (by omega)] at k
          rw [Bool.and_eq_true, Bool.and_eq_true, ai_beq, decide_eq_true_eq] at hox
          obtain ⟨o1, o2, hox⟩ := hox
          obtain ⟨o, ho, hox⟩ := ai_anyE hox
          have hbd := sy_bd_ok g1 r5 ho
          rw [o1]
          refine hG_this g3 p0 (fun lv2 hlv2 => rp_back C (Or.inr rfl) ?_)
          split at hox
          · rename_i hoo
            have hin := hbd.mp hoo
            rw [if_pos (tp_i_iff.mpr hin)] at k
            rw [Bool.and_eq_true, Bool.and_eq_true] at hox
            obtain ⟨hhi, h18, hox⟩ := hox
            have hpa' : pac ws1 (as ++ [(sp_tok g n pp).2.2.2]) := fun i hi => by
              rw [List.length_append] at hi
              have hi : i < as.length + 1 := hi
              rw [List.getD_eq_getElem?_getD]
              by_cases hia : i < as.length
              · rw [List.getElem?_append_left hia, ← List.getD_eq_getElem?_getD]
                refine (hpa i hia).fr f0 ?_
                unfold ai_wr rp_Wm
                simp
                omega
              · have hie : i = as.length := by omega
                subst hie
                rw [List.getElem?_append_right (Nat.le_refl _), Nat.sub_self]
                exact vi.lk g6 (decide_eq_true_eq.mp h18) r5 (by show (sp_tok g n pp).2.2.2 = _; omega)
            obtain ⟨kb, hkb, hox⟩ := ai_anyE hox
            have htk := rp_tkok g6 r0 (sy_tk_ok g2 hT.1 r2 r4 hkb) hox
            have h5' : vi ws1 49 5 (sp_high (as ++ [(sp_tok g n pp).2.2.2])) := by
              rw [sp_high_snoc]
              unfold rp_hi at hhi
              rw [Bool.or_eq_true] at hhi
              rcases hhi with hhi | hhi
              · rw [Bool.and_eq_true, Bool.and_eq_true] at hhi
                obtain ⟨u1, u2, u3⟩ := hhi
                obtain ⟨e0, b1, b2, b3⟩ := ai_any g1 r5 u2
                rw [decide_eq_true_eq] at b1
                unfold rp_gt at u3
                rw [Bool.or_eq_true] at u3
                have hgt : sp_high as < (sp_tok g n pp).2.2.2 := by
                  rcases u3 with u3 | u3
                  · have := av_f5 g2 r5 r6 u3
                    omega
                  · have := av_f4 g2 r6 r5 u3
                    omega
                rw [if_pos ⟨by omega, hgt⟩]
                exact vi.lk g6 (decide_eq_true_eq.mp u1) r5 (by omega)
              · rw [Bool.and_eq_true, Bool.or_eq_true] at hhi
                obtain ⟨u1, u2⟩ := hhi
                rw [if_neg]
                · exact vi.lk g6 (decide_eq_true_eq.mp u1) r6 (by omega)
                · intro hc
                  rcases u2 with u2 | u2
                  · obtain ⟨e0, b1, b2, b3⟩ := ai_any g1 r5 u2
                    rw [decide_eq_true_eq] at b1
                    omega
                  · unfold rp_le at u2
                    rw [Bool.or_eq_true] at u2
                    rcases u2 with u2 | u2
                    · have := av_f4 g2 r5 r6 u2
                      omega
                    · have := av_f5 g2 r6 r5 u2
                      omega
            refine ih ws1 (as ++ [(sp_tok g n pp).2.2.2]) (sp_tok g n pp).2.2.1 lv2 (by rw [List.length_append]; show N + (as.length + 1) = 9; omega) hw1 (hT.fr hn hw1 f1 (by decide) (by decide)) q3 htk (h7.fr f1 (by decide)) h5' (vi.lk g6 o2 r0 (by rw [List.length_append]; show ((as.length + 1 : Nat) : Int) = _; omega)) hpa' ⟨by rw [List.length_append]; show as.length + 1 ≤ 8; omega, fun a h => by
              rcases List.mem_append.mp h with h | h
              · exact ha.2 a h
              · rw [List.mem_singleton.mp h]; exact hin⟩ hlv2 (fun ws2 lv3 t bs q e1 e2 e3 e4 => k ws2 lv3 t bs q e1 e2 (f1.tr e3) e4)
          · rename_i hoo
            rw [if_neg (fun hc => hoo (hbd.mpr (tp_i_iff.mp hc)))] at k
            rw [Bool.and_eq_true] at hox
            have w9 : vi ws1 49 9 ((3 : Nat) : Int) := vi.lk g6 (decide_eq_true_eq.mp hox.1) r0 (by omega)
            have w10 : vi ws1 49 10 ((sp_tok g n pp).2.1 : Int) := vi.lk g6 (decide_eq_true_eq.mp hox.2) r3 (by omega)
            exact rp_exb C (Or.inr (Or.inl rfl)) hw1 w9 hlv2 (fun ws2 lv3 hw2 f2 => k ws2 lv3 3 as pp rfl hw2 (f1.tr (wsub_ok (by decide) f2)) ⟨fun h => absurd h (by decide), fun _ => ⟨w9.fr f2 rfl, w10.fr f2 rfl⟩⟩)
      · rw [if_neg c2] at k
        refine rp_exk C (show (sp_tok g n pp).1 = 0 ∨ (sp_tok g n pp).1 = 1 ∨ (sp_tok g n pp).1 = 3 by omega) hw h9 h13 hlv (fun ws1 lv1 hw1 f1 => k ws1 lv1 0 as pp rfl hw1 (wsub_ok (by decide) f1) ⟨fun _ => ⟨ht.fr f1 (fun _ _ _ => rfl), h5.fr f1 rfl, h26.fr f1 rfl, hpa.fr f1 rfl⟩, fun h => absurd rfl h⟩)
end RPA
end
