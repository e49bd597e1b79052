section
/-! readLine of the reference is sp_line -/
/-- the page that is read is E -/
def rev (ws : va_W) (E : Nat → Int) : Prop := (∀ j, j < 16 → vi ws 51 j (E j)) ∧ vi ws 51 16 (E 16 - 10) ∧ vi ws 51 17 (E 17)
theorem rev.fr {W : List (Nat × Nat × Nat)} {ws ws' : va_W} {E : Nat → Int} (h : rev ws E) (hf : ai_fr W ws ws') (hw : ∀ j, j < 18 → ai_wr W 51 j j = false) : rev ws' E := ⟨fun j hj => (h.1 j hj).fr hf (hw j (by omega)), h.2.1.fr hf (hw 16 (by omega)), h.2.2.fr hf (hw 17 (by omega))⟩
theorem rev_test {W : List (Nat × Nat × Nat)} {ws ws' : va_W} {t : Nat} {E : Nat → Int} (ht : t < 4) (h : rev ws E) (hf : ai_fr W ws ws') (hw : ∀ j, j < 18 → j ≠ t → j ≠ 4 + t → j ≠ 8 + t → j ≠ 12 + t → ai_wr W 51 j j = false) {k s m p : Int} (v1 : vi ws' 51 t k) (v2 : vi ws' 51 (4 + t) s) (v3 : vi ws' 51 (8 + t) m) (v4 : vi ws' 51 (12 + t) p) : rev ws' (ev_test E t k s m p) := by
  refine ⟨fun j hj => ?_, ?_, ?_⟩
  · by_cases h1 : j = t
    · rw [h1, ev_test_k]
      exact v1
    · by_cases h2 : j = 4 + t
      · rw [h2, ev_test_s]
        exact v2
      · by_cases h3 : j = 8 + t
        · rw [h3, ev_test_m]
          exact v3
        · by_cases h4 : j = 12 + t
          · rw [h4, ev_test_p]
            exact v4
          · rw [ev_test_ne h1 h2 h3 h4]
            exact (h.1 j hj).fr hf (hw j (by omega) h1 h2 h3 h4)
  · rw [ev_test_ne (by omega) (by omega) (by omega) (by omega)]
    exact h.2.1.fr hf (hw 16 (by omega) (by omega) (by omega) (by omega) (by omega))
  · rw [ev_test_ne (by omega) (by omega) (by omega) (by omega)]
    exact h.2.2.fr hf (hw 17 (by omega) (by omega) (by omega) (by omega) (by omega))
def rf_is (n : Nat) (ws : va_W) (S : sp_S) : Prop := vi ws 49 7 n ∧ rf_tk ws S.1 ∧ vi ws 49 3 S.2.1 ∧ (∃ O : Nat, vi ws 49 4 O ∧ S.2.2.1 ≤ O ∧ O ≤ S.2.2.1 + 15) ∧ vi ws 49 5 (sp_high S.2.2.2) ∧ vi ws 51 26 S.2.2.2.length ∧ pac ws S.2.2.2
def rl_W : List (Nat × Nat × Nat) := [(49, 3, 6), (49, 9, 15), (51, 0, 27)]
/-- at 171: a fault, or a stop behind which E is -/
def rl_at (g : Nat → Int) (n : Nat) (S : sp_S) (Ev : Nat → Int) (ws : va_W) : Prop :=
  (∃ c P : Nat, sp_line g n S = .inl (c, P) ∧ vi ws 49 9 c ∧ vi ws 49 10 P) ∨
  (∃ (E t' T' : Nat) (as' : List Int), sp_line g n S = .inr (sp_tok g n E, t', T', as') ∧ vi ws 49 9 0 ∧ vi ws 49 11 E ∧ vi ws 49 7 n ∧ vi ws 49 3 t' ∧ (∃ O : Nat, vi ws 49 4 O ∧ T' ≤ O ∧ O ≤ T' + 15) ∧ vi ws 49 5 (sp_high as') ∧ vi ws 51 26 as'.length ∧ pac ws as' ∧ rev ws Ev)
section RLN
variable {ad : List Nat} {p : Program} {l : Launch} {e : Env} {R : Room} {s : State} {m : MethodId} {args : Array Value} {below : List Frame} {meth : Method} {c : Code} {D : va_G} {tys : ai_ty} {A : Nat → Prop} {b L : Nat} {sx : Nat → Int32} {cells slots : Nat} {Q : State → Prop}
theorem f49v {ws : va_W} {i : Nat} {z lo hi : Int} (h : ai_wd tb_TY ad tys ws) (hs : vi ws 49 i z) (hF : (tb_TY[49]?).bind (fun t => t.2.2[i]?) = some (1, 0, lo, hi)) : lo ≤ z ∧ z ≤ hi := by
  obtain ⟨j, h1, h2⟩ := hs
  have := f49 h h1 hF
  omega
set_option maxHeartbeats 1000000 in
theorem rl_171 (C : ai_cx tb_m108 9 p R s m args c D tys A b L sx cells slots) {w00 ws : va_W} {g : Nat → Int} {n : Nat} {S : sp_S} {Ev : Nat → Int} (hn : n ≤ 160) (hw : ai_wd tb_TY ad tys ws) (hT : sp_tape g n ws) (hF : ai_fr rl_W w00 ws) (hv : sp_inv2 n S) (hat : rl_at g n S Ev ws) {lv : List (Nat × Value)} (hlv : ai_lo ad b [0] ms_lo lv)
    (k1 : ∀ (pcr : Nat) (ws' : va_W) (lv' : List (Nat × Value)) (c1 P : Nat), pcr ∈ [22, 86, 175] → ai_wd tb_TY ad tys ws' → ai_fr rl_W w00 ws' → sp_line g n S = .inl (c1, P) → vi ws' 49 9 c1 → vi ws' 49 10 P → hG tb_m108 p l e R s m args below meth c D A cells slots Q pcr lv' [] ws')
    (k2 : ∀ (ws' : va_W) (lv' : List (Nat × Value)) (S' : sp_S), ai_wd tb_TY ad tys ws' → ai_fr rl_W w00 ws' → sp_line g n S = .inr S' → rf_is n ws' S' → rev ws' Ev → hG tb_m108 p l e R s m args below meth c D A cells slots Q 175 lv' [] ws') : hG tb_m108 p l e R s m args below meth c D A cells slots Q 171 lv [] ws := by
  have hgo := sp_line_go (g := g) hv
  rcases hat with ⟨c1, P, e1, e2, e3⟩ | ⟨E, t', T', as', e1, h9, h11, h7, h3, ⟨O, h4, hO1, hO2⟩, h5, h26, hpa, hrv⟩
  · rw [e1] at hgo
    obtain ⟨o1, o2, o3⟩ := hgo
    obtain ⟨xs, hx1, hx2⟩ := ai_anyE rl_Dbr
    have gm : ai_gm tb_TY [] ws ad b L sx tys tb_m108.2.2.2.2.1 [0, 0, (c1 : Int)] rl_Db lv [] ws := by
      refine ⟨en_mk (by simp only [rl_Db, en_b, and_true]; omega) rfl, sb0, lo0_ok (r := [0]) rfl rfl rfl hlv, trivial, hw, kc (e2.kn (n := 2) (t := (c1 : Int)) rfl (by omega)) k0, fun _ _ _ _ h => h, fun h => by cases h⟩
    refine hsegT (st := rl_Db) hx1 rfl C gm (fun x hx r' lv1 sk' ws1 hx' g' => ?_)
    obtain ⟨-, -, -, g4, hw1, -, f1, -⟩ := g'
    have hox := List.all_eq_true.mp hx2 x hx
    rw [Bool.and_eq_true, ai_beq] at hox
    have hsk : sk' = [] := by
      rw [List.isEmpty_iff.mp hox.2] at g4
      exact g4.nil
    subst hsk
    rw [hox.1]
    exact k1 175 ws1 lv1 c1 P (by decide) hw1 (hF.tr (wsub_ok (by decide) f1)) e1 (e2.fr f1 rfl) (e3.fr f1 rfl)
  · obtain ⟨xs, hx1, hx2⟩ := ai_anyE rl_Dr
    obtain ⟨b0, b1⟩ := f49v (i := 11) hw h11 rfl
    have gm : ai_gm tb_TY st_WR ws ad b L sx tys tb_m108.2.2.2.2.1 [0, 0, (n : Int), (E : Int)] rl_D lv [] ws := by
      refine ⟨en_mk (by simp only [rl_D, en_b, and_true]; omega) rfl, f350 rfl hT.1 hT.2, lo0_ok (r := [0]) rfl rfl rfl hlv, trivial, hw, kc (h7.kn (n := 2) (t := (n : Int)) rfl (by omega)) (kc (h11.kn (n := 3) (t := (E : Int)) rfl (by omega)) (kc (h9.kn (n := 0) (t := 0) rfl (by omega)) k0)), fun _ _ _ _ h => h, fun h => by cases h⟩
    refine hsegT (st := rl_D) hx1 rfl C gm (fun x hx r' lv1 sk' ws1 hx' g' => ?_)
    obtain ⟨g1, g2, g3, g4, hw1, g6, f1, -⟩ := g'
    have hox := List.all_eq_true.mp hx2 x hx
    rw [Bool.and_eq_true, Bool.and_eq_true, ai_beq] at hox
    obtain ⟨o1, o2, o3⟩ := hox
    have hsk : sk' = [] := by
      rw [List.isEmpty_iff.mp o2] at g4
      exact g4.nil
    subst hsk
    obtain ⟨kb, hkb, o3⟩ := ai_anyE o3
    have htk := rp_tkok g6 (hx'.at rfl) (sy_tk_ok (N := n) (P := E) g2 hT.1 (hx'.at rfl) (hx'.at rfl) hkb) o3
    rw [o1]
    exact k2 ws1 lv1 _ hw1 (hF.tr (wsub_ok (by decide) f1)) e1 ⟨h7.fr f1 (by decide), htk, h3.fr f1 (by decide), ⟨O, h4.fr f1 (by decide), hO1, hO2⟩, h5.fr f1 (by decide), h26.fr f1 (by decide), hpa.fr f1 (by decide)⟩ (hrv.fr f1 (fun j _ => nowr_ok (by decide) j j))
theorem rl_resok {ws : va_W} {x : ai_s} {r : List Int} {g : Nat → Int} {n t' T' O : Nat} {as' : List Int} {S : sp_S} {tests : Option Int} {y : sy_r} {Ev : Nat → Int} (g6 : ai_kn ad b r ws x.2.2.2.2.1) (r0 : r[0]? = some 0) (hy : sy_ok r g n t' T' as' y (sp_line g n S)) (hres : rl_res x tests y = true) (h7 : vi ws 49 7 n) (h3 : tests = some (t' : Int) ∨ vi ws 49 3 t') (h4 : vi ws 49 4 O) (hO1 : T' ≤ O) (hO2 : O ≤ T' + 15) (h5 : vi ws 49 5 (sp_high as')) (h26 : vi ws 51 26 as'.length) (hpa : pac ws as') (hev : ∀ bb, y = .inr bb → rev ws Ev) : rl_at g n S Ev ws := by
  cases y with
  | inl y =>
    obtain ⟨P, hP1, hP2⟩ := hy
    unfold rl_res at hres
    rw [Bool.and_eq_true] at hres
    exact Or.inl ⟨y.1, P, hP2, vi.lk g6 (decide_eq_true_eq.mp hres.1) r0 (by omega), vi.lk g6 (decide_eq_true_eq.mp hres.2) hP1 (by omega)⟩
  | inr bb =>
    obtain ⟨E, hE1, hE2⟩ := hy
    unfold rl_res at hres
    rw [Bool.and_eq_true, Bool.and_eq_true] at hres
    obtain ⟨o1, o2, o3⟩ := hres
    refine Or.inr ⟨E, t', T', as', hE2, vi.lk g6 (decide_eq_true_eq.mp o1) r0 (by omega), vi.lk g6 (decide_eq_true_eq.mp o2) hE1 (by omega), h7, ?_, ⟨O, h4, hO1, hO2⟩, h5, h26, hpa, hev bb rfl⟩
    rcases h3 with h3 | h3
    · rw [h3] at o3
      exact vi.lk g6 (decide_eq_true_eq.mp o3) r0 (by omega)
    · exact h3
theorem rl_errok {ws : va_W} {x : ai_s} {r : List Int} {sk : List Value} {pcs : List Nat} {cd nm : Nat} {P : Int} (g4 : ai_sk ad b r x.2.2.1 sk) (g6 : ai_kn ad b r ws x.2.2.2.2.1) (r0 : r[0]? = some 0) (hP : r[nm]? = some P) (h : rl_err x pcs cd nm = true) : x.1 ∈ pcs ∧ sk = [] ∧ vi ws 49 9 cd ∧ vi ws 49 10 P := by
  unfold rl_err at h
  rw [Bool.and_eq_true, Bool.and_eq_true, Bool.and_eq_true] at h
  obtain ⟨h1, h2, h3, h4⟩ := h
  obtain ⟨q, hq, h1⟩ := List.any_eq_true.mp h1
  rw [ai_beq.mp h1]
  refine ⟨hq, ?_, vi.lk g6 (decide_eq_true_eq.mp h3) r0 (by omega), vi.lk g6 (decide_eq_true_eq.mp h4) hP (by omega)⟩
  rw [List.isEmpty_iff.mp h2] at g4
  exact g4.nil
theorem rl_kn {r : List Int} {ws : va_W} {n : Nat} {t : sp_T} (h7 : vi ws 49 7 n) (ht : rf_tk ws t) (h4 : t.1 ≠ 4) (q0 : r[0]? = some 0) (q2 : r[2]? = some (n : Int)) (q3 : r[3]? = some (t.2.1 : Int)) (q4 : r[4]? = some (t.2.2.1 : Int)) {kk : Int} (hk : kk = (t.1 : Int)) : ai_kn ad b r ws (rl_k kk) := by
  obtain ⟨h9, h11, h12, h13, h14⟩ := ht.2 h4
  exact kc (h7.kn q2 (by omega)) (kc (h12.kn q3 (by omega)) (kc (h11.kn q4 (by omega)) (kc (h13.kn q0 (by omega)) (kc (h9.kn q0 (by omega)) k0))))
end RLN
end
section
/-! every line of the reference -/
section RLA
variable {ad : List Nat} {p : Program} {l : Launch} {e : Env} {R : Room} {s : State} {m : MethodId} {args : Array Value} {below : List Frame} {meth : Method} {c : Code} {D : va_G} {tys : ai_ty} {A : Nat → Prop} {b L : Nat} {sx : Nat → Int32} {cells slots : Nat} {Q : State → Prop}
theorem rl_O' {ws : va_W} {r : List Int} {x : ai_s} {T : Nat} (g1 : ai_ok r x.2.2.2.1) (g6 : ai_kn ad b r ws x.2.2.2.2.1) (h : ((ai_lk x.2.2.2.2.1 49 4).any fun v => decide (v = (1, v.2.1, 0, v.2.2.2)) && (x.2.2.2.1[v.2.1]?).any fun e => decide ((T : Int) ≤ e.1 + v.2.2.2) && decide (e.2.1 + v.2.2.2 ≤ (T : Int) + 15)) = true) : ∃ O : Nat, vi ws 49 4 O ∧ T ≤ O ∧ O ≤ T + 15 := by
  obtain ⟨v, l4, h⟩ := ai_anyE h
  rw [Bool.and_eq_true, decide_eq_true_eq] at h
  obtain ⟨ev, h⟩ := h
  obtain ⟨x1, s1, d1⟩ := ai_lk_ok g6 l4
  rw [ev] at d1
  rcases d1 with ⟨q, -⟩ | ⟨-, z, i, q1, rfl, q3⟩ | ⟨q, -⟩ | ⟨q, -⟩ | ⟨q, -⟩
  · exact absurd (id q : (1 : Nat) = 0) (by decide)
  · have q1 : r[v.2.1]? = some z := q1
    have q3 : i.toInt = z + v.2.2.2 := q3
    obtain ⟨e0, b1, b2, b3⟩ := ai_any g1 q1 h
    rw [Bool.and_eq_true, decide_eq_true_eq, decide_eq_true_eq] at b1
    exact ⟨i.toInt.toNat, ⟨i, s1, by omega⟩, by omega, by omega⟩
  · exact absurd (id q : (1 : Nat) = 2) (by decide)
  · exact absurd (id q : (1 : Nat) = 3) (by decide)
  · exact absurd (id q : (1 : Nat) = 4) (by decide)
set_option maxHeartbeats 4000000 in
theorem rf_line (C : ai_cx tb_m108 9 p R s m args c D tys A b L sx cells slots) {ws : va_W} {g : Nat → Int} {n : Nat} {S : sp_S} {E : Nat → Int} (hn : n ≤ 160) (hw : ai_wd tb_TY ad tys ws) (hT : sp_tape g n ws) (hi : rf_is n ws S) (hE : rev ws E) (hz0 : S.2.1 < 4 → E (8 + S.2.1) = 0 ∧ E (12 + S.2.1) = 0) (hv : sp_inv2 n S) (h4 : S.1.1 ≠ 4) (h0 : S.1.1 ≠ 0) {lv : List (Nat × Value)} (hlv : ai_lo ad b [0] ms_lo lv)
    (k1 : ∀ (pcr : Nat) (ws' : va_W) (lv' : List (Nat × Value)) (c1 P : Nat), pcr ∈ [22, 86, 175] → ai_wd tb_TY ad tys ws' → ai_fr rl_W ws ws' → sp_line g n S = .inl (c1, P) → vi ws' 49 9 c1 → vi ws' 49 10 P → hG tb_m108 p l e R s m args below meth c D A cells slots Q pcr lv' [] ws')
    (k2 : ∀ (ws' : va_W) (lv' : List (Nat × Value)) (S' : sp_S), ai_wd tb_TY ad tys ws' → ai_fr rl_W ws ws' → sp_line g n S = .inr S' → rf_is n ws' S' → rev ws' (ev_line g n S E) → hG tb_m108 p l e R s m args below meth c D A cells slots Q 175 lv' [] ws') : hG tb_m108 p l e R s m args below meth c D A cells slots Q 0 lv [] ws := by
  have hv' := hv
  obtain ⟨⟨⟨j, hj, hj2⟩, v1, v2, v3, v4, v5⟩, a1, a2⟩ := hv
  obtain ⟨h7, htk, h3, ⟨O, hO, hO1, hO2⟩, h5, h26, hpa⟩ := hi
  obtain ⟨e1t, e2t, e3t, e4t, -⟩ := sp_tok_le (g := g) v5
  have hF0 : ai_fr rl_W ws ws := fun _ _ _ _ h => h
  -- errors told at once
  have errs : ∀ {W : List (Nat × Nat × Nat)} {st : ai_s} {r : List Int} {pcs : List Nat} {cd : Nat}, ((ai_ex (hkT W) 300 108 tb_m108 9 [87] st).any fun xs => xs.all fun x => rl_err x pcs cd 3) = true → st.1 = 0 → ai_gm tb_TY W ws ad b L sx tys tb_m108.2.2.2.2.1 r st lv [] ws → wsub W rl_W = true → (∀ q ∈ pcs, q ∈ [22, 86, 175]) → r[0]? = some 0 → r[3]? = some (S.1.2.1 : Int) → sp_line g n S = .inl (cd, S.1.2.1) → hG tb_m108 p l e R s m args below meth c D A cells slots Q 0 lv [] ws := by
    intro W st r pcs cd hrun hst gm hsub hpcs q0 q3 hline
    obtain ⟨xs, hx1, hx2⟩ := ai_anyE hrun
    rw [← hst]
    refine hsegT (st := st) hx1 rfl C gm (fun x hx r' lv' sk' ws' hx' g' => ?_)
    obtain ⟨g1, g2, g3, g4, g5, g6, g7, g8⟩ := g'
    obtain ⟨u1, rfl, u3, u4⟩ := rl_errok g4 g6 (hx'.at q0) (hx'.at q3) (List.all_eq_true.mp hx2 x hx)
    exact k1 x.1 ws' lv' cd S.1.2.1 (hpcs _ u1) g5 (wsub_ok hsub g7) hline u3 u4
  by_cases hk : S.1.1 = 1
  · have hline : sp_line g n S = sp_word1 g n (sp_word g S.1.2.1 S.1.2.2.1) S := by
      unfold sp_line
      rw [if_pos hk]
    have hw7 : sp_word g S.1.2.1 S.1.2.2.1 ≤ 7 := by rw [sp_word_P]; exact sp_P_le
    generalize hwd : sp_word g S.1.2.1 S.1.2.2.1 = w at hline hw7
    -- behind the word: at 87 with the next token, or broken by it
    have at87 : ∀ {T' : Nat} {r' : List Int} {x : ai_s} {lv' : List (Nat × Value)} {sk' : List Value} {ws' : va_W} {wv : ai_v}, rl_87 x T' wv = true → ai_ok r' x.2.2.2.1 → ai_sb ws r' x.2.2.2.2.2 → ai_lo ad b r' x.2.1 lv' → ai_sk ad b r' x.2.2.1 sk' → ai_wd tb_TY ad tys ws' → ai_kn ad b r' ws' x.2.2.2.2.1 → ai_fr rl_WA ws ws' → r'[0]? = some 0 → r'[2]? = some (n : Int) → r'[4]? = some (S.1.2.2.1 : Int) →
        ((sp_tok g n S.1.2.2.1).1 = 4 → sp_line g n S = .inl (1, (sp_tok g n S.1.2.2.1).2.1)) →
        ((sp_tok g n S.1.2.2.1).1 ≠ 4 → x.1 = 87 → sk' = [] → rf_tk ws' (sp_tok g n S.1.2.2.1) → ai_get x.2.1 0 = some (0, 49, 0, 0) → ai_get x.2.1 1 = some wv → (∃ O : Nat, vi ws' 49 4 O ∧ T' ≤ O ∧ O ≤ T' + 15) → hG tb_m108 p l e R s m args below meth c D A cells slots Q 87 lv' [] ws') → hG tb_m108 p l e R s m args below meth c D A cells slots Q x.1 lv' sk' ws' := by
      intro T' r' x lv' sk' ws' wv hx g1 g2 g3 g4 g5 g6 g7 q0 q2 q4 hb hgo
      obtain ⟨kb, hkb, hx⟩ := ai_anyE hx
      have his := sy_tk_ok (N := n) (P := S.1.2.2.1) g2 hT.1 q2 q4 hkb
      split at hx
      · rename_i hk4
        obtain ⟨u1, rfl, u3, u4⟩ := rl_errok g4 g6 q0 his.2.1 hx
        exact k1 x.1 ws' lv' 1 _ (by rw [List.mem_singleton.mp u1]; decide) g5 (wsub_ok (by decide) g7) (hb (his.1.trans hk4)) u3 u4
      · rename_i hk4
        rw [Bool.and_eq_true, Bool.and_eq_true, Bool.and_eq_true, Bool.and_eq_true, Bool.and_eq_true, ai_beq, decide_eq_true_eq] at hx
        obtain ⟨o1, o2, o3, o4, o5, o6⟩ := hx
        have hsk : sk' = [] := by
          rw [List.isEmpty_iff.mp o2] at g4
          exact g4.nil
        subst hsk
        rw [o1]
        exact hgo (fun hc => hk4 (his.1.symm.trans hc)) o1 rfl (rp_tkok g6 q0 his o3) (decide_eq_true_eq.mp o4) o5 (rl_O' g1 g6 o6)
    by_cases w7 : w = 7
    · subst w7
      refine errs (r := [0, 0, (n : Int), (S.1.2.1 : Int), (S.1.2.2.1 : Int)]) rl_7r rfl ⟨en_mk (by simp only [rl_7, rl_e, en_b, and_true]; omega) rfl, sbc (fword (w := 7) rfl rfl ⟨_, rfl⟩ hT.1 (by omega) (by decide) hwd) (cl_sb hT v5 rfl rfl), lo0_ok (r := [0]) rfl rfl rfl hlv, trivial, hw, rl_kn h7 htk h4 rfl rfl rfl rfl (by omega), fun _ _ _ _ h => h, fun h => by cases h⟩ (by decide) (by decide) rfl rfl hline
    · by_cases w4 : w < 4
      · by_cases ht4 : S.2.1 = 4
        · have run : rl_fr S.2.2.1 = true := by
            have := List.all_eq_true.mp rl_fr8 j (List.mem_range.mpr hj)
            rw [← hj2] at this
            exact this
          refine errs (st := rl_f S.2.2.1) (r := [0, 0, (n : Int), (S.1.2.1 : Int), (S.1.2.2.1 : Int), ((O - S.2.2.1 : Nat) : Int), (w : Int)]) run rfl ⟨en_mk (by simp only [rl_f, rl_e, List.cons_append, List.nil_append, en_b, and_true]; omega) rfl, sbc (fword (w := 0) rfl rfl ⟨_, rfl⟩ hT.1 (by omega) (by decide) (by rw [if_pos rfl, hwd]; exact ⟨rfl, w4⟩)) (cl_sb hT v5 rfl rfl), lo0_ok (r := [0]) rfl rfl rfl hlv, trivial, hw, kc (hO.kn (n := 5) (t := ((O - S.2.2.1 : Nat) : Int)) rfl (by omega)) (kc (h3.kn (n := 0) (t := 0) rfl (by omega)) (rl_kn h7 htk h4 rfl rfl rfl rfl (by omega))), fun _ _ _ _ h => h, fun h => by cases h⟩ (by decide) (by decide) rfl rfl ?_
          rw [hline]
          unfold sp_word1
          rw [if_neg w7, if_pos w4, if_pos (by omega)]
        · have hl2 : sp_line g n S = sp_t1 g n S.2.1 S.2.2.1 S.2.2.2 (sp_tok g n S.1.2.2.1) := by
            rw [hline]
            unfold sp_word1
            rw [if_neg w7, if_pos w4, if_neg (by omega)]
          have run : rl_Tr S.2.2.1 = true := by
            have := List.all_eq_true.mp rl_Tr8 j (List.mem_range.mpr hj)
            rw [← hj2] at this
            exact this
          obtain ⟨xs, hx1, hx2⟩ := ai_anyE run
          refine hsegT (st := rl_T S.2.2.1) (r := [0, 0, (n : Int), (S.1.2.1 : Int), (S.1.2.2.1 : Int), ((O - S.2.2.1 : Nat) : Int), (w : Int), (S.2.1 : Int)]) hx1 rfl C ⟨en_mk (by simp only [rl_T, rl_e, List.cons_append, List.nil_append, en_b, and_true]; omega) rfl, sbc (fword (w := 0) rfl rfl ⟨_, rfl⟩ hT.1 (by omega) (by decide) (by rw [if_pos rfl, hwd]; exact ⟨rfl, w4⟩)) (cl_sb hT v5 rfl rfl), lo0_ok (r := [0]) rfl rfl rfl hlv, trivial, hw, kc (hO.kn (n := 5) (t := ((O - S.2.2.1 : Nat) : Int)) rfl (by omega)) (kc (h3.kn (n := 7) (t := (S.2.1 : Int)) rfl (by omega)) (rl_kn h7 htk h4 rfl rfl rfl rfl (by omega))), fun _ _ _ _ h => h, fun h => by cases h⟩ (fun x hx r' lv' sk' ws' hx' g' => ?_)
          obtain ⟨g1, g2, g3, g4, g5, g6, g7, g8⟩ := g'
          refine at87 (List.all_eq_true.mp hx2 x hx) g1 g2 g3 g4 g5 g6 g7 (hx'.at rfl) (hx'.at rfl) (hx'.at rfl) (fun hc => ?_) (fun hc hpc hsk ht1 q0 q1 hO' => ?_)
          · rw [hl2]
            unfold sp_t1
            rw [if_neg (by omega), hc]
            rfl
          · obtain ⟨O2, hOa, hOb, hOc⟩ := hO'
            refine hG_jv g3 (hx'.at rfl) q0 q1 (z := (w : Int)) (t := (w : Int)) (hx'.at rfl) (by omega) (fun lv2 hlv2 => ?_)
            have run2 : rl_BTr S.2.1 (sp_tok g n S.1.2.2.1).1 = true := by
              have : S.2.1 = 0 ∨ S.2.1 = 1 ∨ S.2.1 = 2 ∨ S.2.1 = 3 := by omega
              have hm : (sp_tok g n S.1.2.2.1).1 ∈ List.range 4 := List.mem_range.mpr (by omega)
              rcases this with h | h | h | h <;> rw [h]
              · exact List.all_eq_true.mp rl_BT0 _ hm
              · exact List.all_eq_true.mp rl_BT1 _ hm
              · exact List.all_eq_true.mp rl_BT2 _ hm
              · exact List.all_eq_true.mp rl_BT3 _ hm
            obtain ⟨ys, hy1, hy2⟩ := ai_anyE run2
            have hT1 := hT.fr hn g5 g7 (by decide) (by decide)
            obtain ⟨t9, t11, t12, t13, zv, s14, e14⟩ := ht1.2 hc
            have bz := ai_irg zv
            have F1 : ai_fr rl_W ws ws' := wsub_ok (by decide) g7
            have ht4' : S.2.1 < 4 := by omega
            obtain ⟨z8, z12⟩ := hz0 ht4'
            have hE1 : rev ws' E := hE.fr g7 (fun j _ => nowr_ok (by decide) j j)
            have v8 := hE1.1 (8 + S.2.1) (by omega)
            have v12 := hE1.1 (12 + S.2.1) (by omega)
            rw [z8] at v8
            rw [z12] at v12
            have hsubT : wsub (rl_WT S.2.1) rl_W = true := by
              rcases (by omega : S.2.1 = 0 ∨ S.2.1 = 1 ∨ S.2.1 = 2 ∨ S.2.1 = 3) with h | h | h | h <;> rw [h] <;> decide
            refine hsegT (st := rl_BT S.2.1 (sp_tok g n S.1.2.2.1).1) (r := [0, 0, (n : Int), ((sp_tok g n S.1.2.2.1).2.1 : Int), ((sp_tok g n S.1.2.2.1).2.2.1 : Int), (sp_tok g n S.1.2.2.1).2.2.2, (w : Int)]) hy1 rfl C ⟨en_mk (by simp only [rl_BT, rl_eB, rl_e, List.cons_append, List.nil_append, en_b, and_true]; omega) rfl, f350 rfl hT1.1 hT1.2, hlv2.lo rfl rfl (by omega), trivial, g5, kc (v8.kn (n := 0) (t := 0) rfl (by omega)) (kc (v12.kn (n := 0) (t := 0) rfl (by omega)) (kc ((h3.fr g7 (by decide)).kn (n := 0) (t := 0) rfl (by omega)) (kc (kn1 s14 (n := 5) (t := (sp_tok g n S.1.2.2.1).2.2.2) rfl (by omega)) (rl_kn (h7.fr g7 (by decide)) ht1 hc rfl rfl rfl rfl rfl)))), fun _ _ _ _ h => h, fun h => by cases h⟩ (fun x2 hx2' r2 lv3 sk2 ws2 hx3 g3' => ?_)
            obtain ⟨m1, m2, m3, m4, m5, m6, m7, m8⟩ := g3'
            have hox := List.all_eq_true.mp hy2 x2 hx2'
            rw [Bool.and_eq_true, Bool.and_eq_true, Bool.and_eq_true, ai_beq] at hox
            obtain ⟨o1, o2, o3, o4⟩ := hox
            have hsk2 : sk2 = [] := by
              rw [List.isEmpty_iff.mp o2] at m4
              exact m4.nil
            subst hsk2
            obtain ⟨y, hy, hres⟩ := ai_anyE o4
            have F2 : ai_fr rl_W ws ws2 := F1.tr (wsub_ok hsubT m7)
            rw [Bool.and_eq_true, Bool.or_eq_true] at hres
            rw [o1]
            refine hG_this m3 (decide_eq_true_eq.mp o3) (fun lv4 hlv4 => rl_171 C hn m5 (hT.fr hn m5 F2 (by decide) (by decide)) F2 hv' ?_ hlv4 k1 k2)
            refine rl_resok (t' := S.2.1 + 1) (T' := S.2.2.1) (as' := S.2.2.2) m6 (hx3.at rfl) ?_ hres.1 ((h7.fr g7 (by decide)).fr m7 rfl) (Or.inl (by congr 1)) (hOa.fr m7 rfl) hOb hOc ((h5.fr g7 (by decide)).fr m7 rfl) ((h26.fr g7 (by decide)).fr m7 (by unfold ai_wr rl_WT; simp; omega)) (fun i hi => ((hpa i hi).fr g7 (nowr_ok (by decide) _ _)).fr m7 (by unfold ai_wr rl_WT; simp; omega)) (fun bb hbb => ?_)
            rotate_left
            · subst hbb
              have hs : sy_ev1 x2 2 ((sp_tok g n S.1.2.2.1).1, 3) (1, 6, 0, 0) (51, S.2.1) (51, 4 + S.2.1) (51, 8 + S.2.1) (51, 12 + S.2.1) = true := by
                rcases hres.2 with h | h
                · cases h
                · exact h
              obtain ⟨u1, u2, u3, u4⟩ := sy_ev1_ok (g := g) (N := n) (T := sp_tok g n S.1.2.2.1) (W := (w : Int)) m2 m6 hT1.1 (hx3.at rfl) (hx3.at rfl) ⟨rfl, hx3.at rfl, hx3.at rfl, hx3.at rfl⟩ (hx3.at rfl) hs
              have hel : ev_line g n S E = ev_test E S.2.1 (w : Int) (sp_tok g n S.1.2.2.1).2.2.2 (ev_m g n (sp_tok g n S.1.2.2.1)) (ev_p g n (sp_tok g n S.1.2.2.1)) := by
                unfold ev_line ev_word
                rw [hwd, if_pos w4]
              rw [hel]
              exact rev_test ht4' hE1 m7 (fun j hj j1 j2 j3 j4 => by
                unfold ai_wr rl_WT
                simp
                omega) u1 u2 u3 u4
            rw [hl2]
            exact sy_t1_ok m1 m2 hT1.1 (hx3.at rfl) ⟨rfl, hx3.at rfl, hx3.at rfl, hx3.at rfl⟩ hy
      · -- once: guest, laughs, plan
        have hmem : (sp_tok g n S.1.2.2.1).1 ≤ 4 := e4t
        have run : rl_Or w S.2.2.1 = true := by
          have hw456 : w = 4 ∨ w = 5 ∨ w = 6 := by omega
          rcases hw456 with rfl | rfl | rfl
          · have := List.all_eq_true.mp rl_O4 j (List.mem_range.mpr hj)
            rw [← hj2] at this
            exact this
          · have := List.all_eq_true.mp rl_O5 j (List.mem_range.mpr hj)
            rw [← hj2] at this
            exact this
          · have := List.all_eq_true.mp rl_O6 j (List.mem_range.mpr hj)
            rw [← hj2] at this
            exact this
        obtain ⟨xs, hx1, hx2⟩ := ai_anyE run
        refine hsegT (st := rl_O w S.2.2.1) (r := [0, 0, (n : Int), (S.1.2.1 : Int), (S.1.2.2.1 : Int), ((O - S.2.2.1 : Nat) : Int)]) hx1 rfl C ⟨en_mk (by simp only [rl_O, rl_e, List.cons_append, List.nil_append, en_b, and_true]; omega) rfl, sbc (fword (w := w) rfl rfl ⟨_, rfl⟩ hT.1 (by omega) (by omega) (by rw [if_neg (by omega)]; exact hwd)) (cl_sb hT v5 rfl rfl), lo0_ok (r := [0]) rfl rfl rfl hlv, trivial, hw, kc (hO.kn (n := 5) (t := ((O - S.2.2.1 : Nat) : Int)) rfl (by omega)) (rl_kn h7 htk h4 rfl rfl rfl rfl (by omega)), fun _ _ _ _ h => h, fun h => by cases h⟩ (fun x hx r' lv' sk' ws' hx' g' => ?_)
        obtain ⟨g1, g2, g3, g4, g5, g6, g7, g8⟩ := g'
        have hox := List.all_eq_true.mp hx2 x hx
        have F1 : ai_fr rl_W ws ws' := wsub_ok (by decide) g7
        split at hox
        · rename_i hbit
          obtain ⟨u1, rfl, u3, u4⟩ := rl_errok g4 g6 (hx'.at rfl) (P := (S.1.2.1 : Int)) (hx'.at rfl) hox
          refine k1 x.1 ws' lv' 4 S.1.2.1 (by rw [List.mem_singleton.mp u1]; decide) g5 F1 ?_ u3 u4
          rw [hline]
          unfold sp_word1
          rw [if_neg w7, if_neg w4, if_pos hbit]
        · rename_i hbit
          by_cases w6 : w = 6
          · subst w6
            have has : S.2.2.2 = [] := v1 (by omega)
            obtain ⟨t, q, bs, pe1, pe2, pe3, pe4, pe5⟩ := sp_plan_go (g := g) 9 S.1.2.2.1 [] v5 ⟨Nat.zero_le _, fun a h => by cases h⟩
            have hl2 : sp_line g n S = sp_p1 g n S.2.1 (S.2.2.1 + 2 ^ 6) (t, bs, sp_tok g n q) := by
              rw [hline]
              unfold sp_word1
              rw [if_neg w7, if_neg w4, if_neg hbit, if_pos rfl, pe1]
            refine at87 hox g1 g2 g3 g4 g5 g6 g7 (hx'.at rfl) (hx'.at rfl) (hx'.at rfl) (fun hc => ?_) (fun hc hpc hsk ht1 q0 q1 hO' => ?_)
            · have : sp_plan g n 9 (sp_tok g n S.1.2.2.1) [] = (0, [], sp_tok g n S.1.2.2.1) := by
                show (if (sp_tok g n S.1.2.2.1).1 = 2 then _ else (0, [], sp_tok g n S.1.2.2.1)) = _
                rw [if_neg (by omega)]
              rw [hl2, ← pe1, this]
              show sp_stop g n S.2.1 (S.2.2.1 + 2 ^ 6) [] (sp_tok g n S.1.2.2.1) = _
              unfold sp_stop
              rw [if_neg (by omega), hc]
              rfl
            · obtain ⟨O2, hOa, hOb, hOc⟩ := hO'
              refine hG_this2 g3 (hx'.at rfl) q0 q1 (fun lv2 hlv2 => ?_)
              obtain ⟨ys, hy1, hy2⟩ := ai_anyE rl_BPr
              refine hseg (st := rl_BP) (r := [0, 0]) hy1 rfl C ⟨en_mk (by simp only [rl_BP, en_b, and_true]; omega) rfl, sb0, lo0_ok (r := [0]) rfl rfl rfl hlv2, trivial, g5, k0, fun _ _ _ _ h => h, fun h => by cases h⟩ (fun x2 hx2' r2 lv3 sk2 ws2 hx3 g3' => ?_)
              obtain ⟨m1, m2, m3, m4, m5, m6, m7, m8⟩ := g3'
              have y0 : r2[0]? = some 0 := hx3.at rfl
              have hox2 := List.all_eq_true.mp hy2 x2 hx2'
              rw [Bool.and_eq_true, Bool.and_eq_true, ai_beq, decide_eq_true_eq] at hox2
              obtain ⟨o1, o2, o3⟩ := hox2
              rw [o2] at m4
              obtain ⟨yv, s1, rfl, dy, m4⟩ := m4.cons
              have hs1 := m4.nil
              subst hs1
              rw [o1]
              have F2 : ai_fr rl_W ws ws2 := F1.tr (wsub_ok (by decide) m7)
              have hT2 := hT.fr hn m5 F2 (by decide) (by decide)
              have h7' : vi ws2 49 7 n := (h7.fr g7 (by decide)).fr m7 rfl
              refine hG_this m3 (decide_eq_true_eq.mp o3) (fun lv4 hlv4 => ?_)
              refine hcall (q := (110, 0, 106, 0, 6)) (M' := tb_m106) (cl := 49) (rets := [97]) (P := fun w => ai_wd tb_TY ad tys w ∧ ai_fr rp_WR ws2 w ∧ rp_is g n w t bs q) C (by decide) (tv_m108.1.1.1 (148, .invokevirtual 110, 3) (List.mem_of_getElem? (i := 85) rfl)) (tv_m108.2 _ (List.mem_of_getElem? (i := 7) rfl)) rfl rfl rfl rfl (by decide) (by decide) rfl rfl rfl rfl m5 (dv0 dy y0 rfl rfl) ?_ ?_ ?_
              · intro pcr hp
                rw [List.mem_singleton.mp hp]
                exact tv_m106.1.1.1 (97, .return_, 1) (List.mem_of_getElem? (i := 54) rfl)
              · intro p2 e2 R2 s2 m2 args2 below2 meth2 c2 Q2 C2 kk lv0 hlv0
                refine rp_loop (mm_cx (by decide) C2) hn 9 ws2 [] S.1.2.2.1 lv0 rfl m5 hT2 v5 (ht1.fr m7 (fun _ _ _ => rfl)) h7' (by have := (h5.fr g7 (by decide)).fr m7 rfl; rw [has] at this; exact this) (by have := (h26.fr g7 (by decide)).fr m7 rfl; rw [has] at this; exact this) (fun i hi => absurd hi (Nat.not_lt_zero _)) ⟨Nat.zero_le _, fun a h => by cases h⟩ hlv0 (fun w lv5 t' bs' q' a1 a2 a3 a4 => ?_)
                rw [pe1] at a1
                have a5 : t = t' ∧ bs = bs' ∧ sp_tok g n q = sp_tok g n q' := by
                  injection a1 with b1 b2
                  injection b2 with b3 b4
                  exact ⟨b1, b3, b4⟩
                obtain ⟨rfl, rfl, a6⟩ := a5
                refine kk 97 w lv5 (by decide) ⟨a2, a3, ?_⟩
                unfold rp_is at a4 ⊢
                rw [a6]
                exact a4
              · rintro ws3 ⟨hw3, f3, hr⟩
                have F3 : ai_fr rl_W ws ws3 := F2.tr (wsub_ok (by decide) f3)
                have hT3 := hT.fr hn hw3 F3 (by decide) (by decide)
                have h7'' : vi ws3 49 7 n := h7'.fr f3 (by decide)
                have h3'' : vi ws3 49 3 S.2.1 := ((h3.fr g7 (by decide)).fr m7 rfl).fr f3 (by decide)
                have hO'' : vi ws3 49 4 O2 := (hOa.fr m7 rfl).fr f3 (by decide)
                obtain ⟨z1, z2, z3, z4, -⟩ := sp_tok_le (g := g) pe3
                -- broken: to 171 with the fault
                have bro : ∀ {cd : Nat}, (cd = 1 ∨ cd = 3 ∨ cd = 5) → vi ws3 49 9 cd → vi ws3 49 10 (sp_tok g n q).2.1 → sp_line g n S = .inl (cd, (sp_tok g n q).2.1) → hG tb_m108 p l e R s m args below meth c D A cells slots Q 151 lv4 [] ws3 := by
                  intro cd hcd b9 b10 hl3
                  have run3 : rl_Cbr cd = true := by
                    rcases hcd with rfl | rfl | rfl
                    · exact rl_Cb1
                    · exact rl_Cb3
                    · exact rl_Cb5
                  obtain ⟨zs, hz1, hz2⟩ := ai_anyE run3
                  refine hseg (st := rl_Cb (cd : Int)) (r := [0, 0]) hz1 rfl C ⟨en_mk (by simp only [rl_Cb, en_b, and_true]; omega) rfl, sb0, lo0_ok (r := [0]) rfl rfl rfl hlv4, trivial, hw3, kc (b9.kn (n := 0) (t := 0) rfl (by omega)) k0, fun _ _ _ _ h => h, fun h => by cases h⟩ (fun x4 hx4 r4 lv5 sk4 ws4 hx4' g4' => ?_)
                  obtain ⟨-, -, w3, w4', w5, -, w7', -⟩ := g4'
                  have hox4 := List.all_eq_true.mp hz2 x4 hx4
                  rw [Bool.and_eq_true, Bool.and_eq_true, ai_beq] at hox4
                  have hsk4 : sk4 = [] := by
                    rw [List.isEmpty_iff.mp hox4.2.1] at w4'
                    exact w4'.nil
                  subst hsk4
                  rw [hox4.1]
                  have F4 : ai_fr rl_W ws ws4 := F3.tr (wsub_ok (by decide) w7')
                  exact hG_this w3 (decide_eq_true_eq.mp hox4.2.2) (fun lv6 hlv6 => rl_171 C hn w5 (hT.fr hn w5 F4 (by decide) (by decide)) F4 hv' (Or.inl ⟨cd, _, hl3, b9.fr w7' rfl, b10.fr w7' rfl⟩) hlv6 k1 k2)
                by_cases ht0 : t = 0
                · subst ht0
                  obtain ⟨r1, r2', r3, rpa⟩ := hr.1 rfl
                  have hl3 : sp_line g n S = sp_stop g n S.2.1 (S.2.2.1 + 2 ^ 6) bs (sp_tok g n q) := hl2
                  by_cases hq4 : (sp_tok g n q).1 = 4
                  · refine bro (Or.inl rfl) (r1.1 hq4).1 (r1.1 hq4).2 ?_
                    rw [hl3]
                    unfold sp_stop
                    rw [if_neg (by omega), hq4]
                    rfl
                  · obtain ⟨b9, b11, b12, b13, -⟩ := r1.2 hq4
                    obtain ⟨zs, hz1, hz2⟩ := ai_anyE (List.all_eq_true.mp rl_Cr4 (sp_tok g n q).1 (List.mem_range.mpr (by omega)))
                    refine hseg (st := rl_C (sp_tok g n q).1) (r := [0, 0, ((sp_tok g n q).2.1 : Int)]) hz1 rfl C ⟨en_mk (by simp only [rl_C, en_b, and_true]; omega) rfl, sb0, lo0_ok (r := [0]) rfl rfl rfl hlv4, trivial, hw3, kc (b9.kn (n := 0) (t := 0) rfl (by omega)) (kc (b13.kn (n := 0) (t := 0) rfl (by omega)) (kc (b12.kn (n := 2) (t := ((sp_tok g n q).2.1 : Int)) rfl (by omega)) k0)), fun _ _ _ _ h => h, fun h => by cases h⟩ (fun x4 hx4 r4 lv5 sk4 ws4 hx4' g4' => ?_)
                    obtain ⟨-, -, w3, w4', w5, w6', w7', -⟩ := g4'
                    have hox4 := List.all_eq_true.mp hz2 x4 hx4
                    rw [Bool.and_eq_true, Bool.and_eq_true, Bool.and_eq_true, ai_beq] at hox4
                    obtain ⟨o1', o2', o3', o4'⟩ := hox4
                    have hsk4 : sk4 = [] := by
                      rw [List.isEmpty_iff.mp o2'] at w4'
                      exact w4'.nil
                    subst hsk4
                    rw [o1']
                    have F4 : ai_fr rl_W ws ws4 := F3.tr (wsub_ok (by decide) w7')
                    refine hG_this w3 (decide_eq_true_eq.mp o3') (fun lv6 hlv6 => rl_171 C hn w5 (hT.fr hn w5 F4 (by decide) (by decide)) F4 hv' ?_ hlv6 k1 k2)
                    split at o4'
                    · rename_i hk3
                      refine Or.inr ⟨(sp_tok g n q).2.2.1, S.2.1, S.2.2.1 + 2 ^ 6, bs, ?_, vi.lk w6' (decide_eq_true_eq.mp o4') (hx4'.at (show ([0, 0, ((sp_tok g n q).2.1 : Int)] : List Int)[0]? = some 0 from rfl)) (by omega), b11.fr w7' (by decide), h7''.fr w7' (by decide), h3''.fr w7' (by decide), ⟨O2, hO''.fr w7' (by decide), hOb, hOc⟩, r2'.fr w7' (by decide), r3.fr w7' (by decide), rpa.fr w7' (by decide), ?_⟩
                      · rw [hl3]
                        unfold sp_stop
                        rw [if_pos hk3]
                      · have hel : ev_line g n S E = E := by
                          unfold ev_line ev_word
                          rw [hwd, if_neg (by decide), if_neg (by decide), if_neg (by decide)]
                        rw [hel]
                        exact (((hE.fr g7 (fun j _ => nowr_ok (by decide) j j)).fr m7 (fun j _ => nowr_ok (by decide) j j)).fr f3 (fun j hj => by
                          unfold ai_wr rp_WR
                          simp
                          omega)).fr w7' (fun j _ => nowr_ok (by decide) j j)
                    · rename_i hk3
                      rw [Bool.and_eq_true] at o4'
                      refine Or.inl ⟨2, (sp_tok g n q).2.1, ?_, vi.lk w6' (decide_eq_true_eq.mp o4'.1) (hx4'.at (show ([0, 0, ((sp_tok g n q).2.1 : Int)] : List Int)[0]? = some 0 from rfl)) (by omega), vi.lk w6' (decide_eq_true_eq.mp o4'.2) (hx4'.at (show ([0, 0, ((sp_tok g n q).2.1 : Int)] : List Int)[2]? = some ((sp_tok g n q).2.1 : Int) from rfl)) (by omega)⟩
                      rw [hl3]
                      unfold sp_stop sp_ft
                      rw [if_neg hk3, if_neg hq4]
                · obtain ⟨b9, b10⟩ := hr.2 ht0
                  refine bro (by omega) b9 b10 ?_
                  rw [hl2]
                  unfold sp_p1
                  rw [if_neg (show ¬ (t, bs, sp_tok g n q).1 = 0 from ht0)]
          · have hw45 : w = 4 ∨ w = 5 := by omega
            have hl2 : sp_line g n S = sp_o1 g n S.2.1 (S.2.2.1 + 2 ^ w) S.2.2.2 (if w = 4 then 20 else 99) (sp_tok g n S.1.2.2.1) := by
              rw [hline]
              unfold sp_word1
              rw [if_neg w7, if_neg w4, if_neg hbit, if_neg w6]
            refine at87 hox g1 g2 g3 g4 g5 g6 g7 (hx'.at rfl) (hx'.at rfl) (hx'.at rfl) (fun hc => ?_) (fun hc hpc hsk ht1 q0 q1 hO' => ?_)
            · rw [hl2]
              unfold sp_o1
              rw [if_neg (by omega), hc]
              rfl
            · obtain ⟨O2, hOa, hOb, hOc⟩ := hO'
              refine hG_this2 g3 (hx'.at rfl) q0 q1 (fun lv2 hlv2 => ?_)
              have run2 : rl_BOr w (sp_tok g n S.1.2.2.1).1 = true := by
                have hm : (sp_tok g n S.1.2.2.1).1 ∈ List.range 4 := List.mem_range.mpr (by omega)
                rcases hw45 with rfl | rfl
                · exact List.all_eq_true.mp rl_BO4 _ hm
                · exact List.all_eq_true.mp rl_BO5 _ hm
              obtain ⟨ys, hy1, hy2⟩ := ai_anyE run2
              have hT1 := hT.fr hn g5 g7 (by decide) (by decide)
              obtain ⟨t9, t11, t12, t13, zv, s14, e14⟩ := ht1.2 hc
              have bz := ai_irg zv
              refine hsegT (st := rl_BO w (sp_tok g n S.1.2.2.1).1) (r := [0, 0, (n : Int), ((sp_tok g n S.1.2.2.1).2.1 : Int), ((sp_tok g n S.1.2.2.1).2.2.1 : Int), (sp_tok g n S.1.2.2.1).2.2.2, 0]) hy1 rfl C ⟨en_mk (by simp only [rl_BO, rl_eB, rl_e, List.cons_append, List.nil_append, en_b, and_true]; omega) rfl, f350 rfl hT1.1 hT1.2, lo0_ok (r := [0]) rfl rfl rfl hlv2, trivial, g5, kc (kn1 s14 (n := 5) (t := (sp_tok g n S.1.2.2.1).2.2.2) rfl (by omega)) (rl_kn (h7.fr g7 (by decide)) ht1 hc rfl rfl rfl rfl rfl), fun _ _ _ _ h => h, fun h => by cases h⟩ (fun x2 hx2' r2 lv3 sk2 ws2 hx3 g3' => ?_)
              obtain ⟨m1, m2, m3, m4, m5, m6, m7, m8⟩ := g3'
              have hox2 := List.all_eq_true.mp hy2 x2 hx2'
              rw [Bool.and_eq_true, Bool.and_eq_true, Bool.and_eq_true, ai_beq] at hox2
              obtain ⟨o1, o2, o3, o4⟩ := hox2
              have hsk2 : sk2 = [] := by
                rw [List.isEmpty_iff.mp o2] at m4
                exact m4.nil
              subst hsk2
              obtain ⟨y, hy, hres⟩ := ai_anyE o4
              have hsubO : wsub (rl_WO w) rl_W = true := by rcases hw45 with rfl | rfl <;> decide
              have F2 : ai_fr rl_W ws ws2 := F1.tr (wsub_ok hsubO m7)
              rw [Bool.and_eq_true, Bool.or_eq_true] at hres
              rw [o1]
              refine hG_this m3 (decide_eq_true_eq.mp o3) (fun lv4 hlv4 => rl_171 C hn m5 (hT.fr hn m5 F2 (by decide) (by decide)) F2 hv' ?_ hlv4 k1 k2)
              refine rl_resok (t' := S.2.1) (T' := S.2.2.1 + 2 ^ w) (as' := S.2.2.2) m6 (hx3.at rfl) ?_ hres.1 ((h7.fr g7 (by decide)).fr m7 rfl) (Or.inr ((h3.fr g7 (by decide)).fr m7 rfl)) (hOa.fr m7 rfl) hOb hOc ((h5.fr g7 (by decide)).fr m7 rfl) ((h26.fr g7 (by decide)).fr m7 (by rcases hw45 with rfl | rfl <;> decide)) (fun i hi => ((hpa i hi).fr g7 (nowr_ok (by decide) _ _)).fr m7 (by unfold ai_wr rl_WO; simp; omega)) (fun bb hbb => ?_)
              rotate_left
              · subst hbb
                have hs : lkq x2 51 (12 + w) (1, 5, 0, if w = 4 then -10 else 0) = true := by
                  rcases hres.2 with h | h
                  · cases h
                  · exact h
                have u1 : vi ws2 51 (12 + w) ((sp_tok g n S.1.2.2.1).2.2.2 + (if w = 4 then -10 else 0)) := vi.lk m6 (decide_eq_true_eq.mp hs) (hx3.at rfl) rfl
                have hE1 : rev ws' E := hE.fr g7 (fun j _ => nowr_ok (by decide) j j)
                have hel : ev_line g n S E = ev_up E (12 + w) (sp_tok g n S.1.2.2.1).2.2.2 := by
                  unfold ev_line ev_word
                  rw [hwd]
                  rcases hw45 with rfl | rfl
                  · rw [if_neg (by decide), if_pos rfl]
                  · rw [if_neg (by decide), if_neg (by decide), if_pos rfl]
                rw [hel]
                refine ⟨fun j hj => ?_, ?_, ?_⟩
                · rw [ev_up_ne (by omega)]
                  exact (hE1.1 j hj).fr m7 (by unfold ai_wr rl_WO; simp; omega)
                · rcases hw45 with rfl | rfl
                  · rw [ev_up_at]
                    exact u1
                  · rw [ev_up_ne (by decide)]
                    exact hE1.2.1.fr m7 (by decide)
                · rcases hw45 with rfl | rfl
                  · rw [ev_up_ne (by decide)]
                    exact hE1.2.2.fr m7 (by decide)
                  · rw [ev_up_at]
                    rw [if_neg (by decide), Int.add_zero] at u1
                    exact u1
              rw [hl2]
              exact sy_o1_ok m1 m2 hT1.1 (hx3.at rfl) ⟨rfl, hx3.at rfl, hx3.at rfl, hx3.at rfl⟩ hy
  · have hline : sp_line g n S = .inl (2, S.1.2.1) := by
      unfold sp_line sp_ft
      rw [if_neg hk, if_neg h4]
    have run : rl_Nr S.1.1 = true := by
      have : S.1.1 = 2 ∨ S.1.1 = 3 := by omega
      rcases this with h | h <;> rw [h]
      · exact rl_N2
      · exact rl_N3
    exact errs (st := (0, ms_lo, [], rl_e, rl_k (S.1.1 : Int), cl_f)) (r := [0, 0, (n : Int), (S.1.2.1 : Int), (S.1.2.2.1 : Int)]) run rfl ⟨en_mk (by simp only [rl_e, en_b, and_true]; omega) rfl, cl_sb hT v5 rfl rfl, lo0_ok (r := [0]) rfl rfl rfl hlv, trivial, hw, rl_kn h7 htk h4 rfl rfl rfl rfl rfl, fun _ _ _ _ h => h, fun h => by cases h⟩ (by decide) (by decide) rfl rfl hline
end RLA
end
section
/-! text of the reference: its pieces -/
def rt_0 : ai_s := (0, ms_lo, [], [(0, 0, false, 0, 0), (0, 2555, false, 1, 0), (0, 160, false, 2, 0)], [(49, 7, (1, 2, 0, 0))], [(350, 2, 2, 2, 0)])
def rt_0ok (x : ai_s) : Bool := x.2.2.1.isEmpty && (Nat.beq x.1 52 && (rl_this x && (decide (ai_get x.2.1 1 = some (1, 0, 0, 0)) && ((sy_tk x 2 0).any (rp_tk x) && (s9 x 3 (1, 0, 0, 0) && (s9 x 4 (1, 0, 0, 0) && (s9 x 5 (1, 0, 0, -1) && (decide (ai_lk x.2.2.2.2.1 51 26 = some (1, 0, 0, 0)) && (List.range 18).all fun j => lkq x 51 j (1, 0, 0, 0)))))))))
theorem rt_r0 : ((ai_ex (hkT rl_W) 3000 109 tb_m109 10 [52] rt_0).any fun xs => xs.all rt_0ok) = true := by decide +kernel
def rt_lo : List (Nat × ai_v) := [(0, (0, 49, 0, 0)), (1, (1, 2, 0, 0))]
def rt_h : ai_s := (52, rt_lo, [], [(0, 0, false, 0, 0), (0, 2555, false, 1, 0), (0, 161, false, 2, 0), (0, 3, false, 3, 0)], [(49, 9, (1, 0, 0, 0)), (49, 13, (1, 3, 0, 0))], [])
def rt_hok (x : ai_s) : Bool := rl_this x && (decide (ai_get x.2.1 1 = some (1, 2, 0, 0)) &&
  ((Nat.beq x.1 76 && (x.2.2.1.isEmpty && pm_e x 3 fun e => decide (e.2.1 ≤ 0))) ||
   (Nat.beq x.1 67 && (decide (x.2.2.1 = [(0, 49, 0, 0)]) && (x.2.2.2.1[3]?).any fun e => e.2.2.1 || decide (1 ≤ e.1)))))
theorem rt_rh : ((ai_ex (hk []) 60 109 tb_m109 10 [67, 76] rt_h).any fun xs => xs.all rt_hok) = true := by decide +kernel
def rt_b (pc : Nat) : ai_s := (pc, rt_lo, [], [(0, 0, false, 0, 0), (0, 2555, false, 1, 0), (0, 161, false, 2, 0), (1, 5, false, 3, 0)], [(49, 9, (1, 3, 0, 0))], [])
theorem rt_rb : ((ai_ex (hk []) 60 109 tb_m109 10 [76] (rt_b 52)).any fun xs => xs.all fun x => x.2.2.1.isEmpty && (Nat.beq x.1 76 && rl_this x)) = true := by decide +kernel
theorem rt_rb70 : ((ai_ex (hk []) 60 109 tb_m109 10 [76] (rt_b 70)).any fun xs => xs.all fun x => x.2.2.1.isEmpty && (Nat.beq x.1 76 && rl_this x)) = true := by decide +kernel
def rt_70 : ai_s := (70, rt_lo, [], [(0, 0, false, 0, 0), (0, 2555, false, 1, 0), (0, 161, false, 2, 0)], [], [])
theorem rt_r70 : ((ai_ex (hk []) 60 109 tb_m109 10 [73] rt_70).any fun xs => xs.all fun x => x.2.2.1.isEmpty && (Nat.beq x.1 73 && (rl_this x && decide (ai_get x.2.1 1 = some (1, 2, 0, 1))))) = true := by decide +kernel
def mt_We : List (Nat × Nat × Nat) := [(49, 3, 15), (51, 0, 27)]
def mt_W : List (Nat × Nat × Nat) := [(49, 1, 2), (49, 3, 15), (49, 19, 20), (50, 0, 27), (51, 0, 27), (56, 0, 2)]
def rt_e : ai_s := (76, ms_lo, [], [(0, 0, false, 0, 0), (0, 2555, false, 1, 0), (1, 5, false, 2, 0), (0, 160, false, 3, 0)], [(49, 9, (1, 2, 0, 0)), (49, 10, (1, 3, 0, 0))], [])
def rt_neg (x : ai_s) (nm : Nat) : Bool := match x.2.2.1 with
  | [v] => decide (v = (1, v.2.1, 0, 0)) && av_f x 0 0 nm (some v.2.1) 10
  | _ => false
theorem rt_re : ((ai_ex (hk mt_We) 200 109 tb_m109 10 [] rt_e).any fun xs => xs.all fun x => Nat.beq x.1 127 && (s9 x 7 (1, 0, 0, 0) && (s9 x 8 (1, 2, 0, 0) && rt_neg x 3))) = true := by decide +kernel
def rt_o (sb : List ai_b) : ai_s := (76, [(0, (0, 49, 0, 0)), (1, (1, 5, 0, 0))], [], [(0, 0, false, 0, 0), (0, 2555, false, 1, 0), (-1, 3, false, 2, 0), (0, 4, false, 3, 0), (0, 160, false, 4, 0), (0, 161, false, 5, 0), (0, 8, false, 6, 0)], [(49, 9, (1, 0, 0, 0)), (49, 5, (1, 2, 0, 0)), (49, 3, (1, 3, 0, 0)), (49, 12, (1, 4, 0, 0)), (51, 26, (1, 6, 0, 0))], sb)
theorem rt_r6 : ((ai_ex (hk mt_We) 3000 109 tb_m109 10 [] (rt_o [(5, 2, 3, 2, 0)])).any fun xs => xs.all fun x => s9 x 7 (1, 0, 0, 0) && (Nat.beq x.1 127 && (s9 x 8 (1, 0, 0, 6) && rt_neg x 4))) = true := by decide +kernel
def rt_o2 : ai_s := (76, [(0, (0, 49, 0, 0)), (1, (1, 5, 0, 0))], [], [(0, 0, false, 0, 0), (0, 2555, false, 1, 0), (-1, 3, false, 2, 0), (0, 4, false, 3, 0), (0, 160, false, 4, 0), (0, 161, false, 5, 0), (0, 8, false, 6, 0), (-2147483648, 2147483647, false, 7, 0), (-2147483648, 2147483647, false, 8, 0), (-2147483648, 2147483647, false, 9, 0), (-2147483648, 2147483647, false, 10, 0), (-2147483648, 2147483647, false, 11, 0), (-2147483648, 2147483647, false, 12, 0), (-2147483648, 2147483647, false, 13, 0), (-2147483648, 2147483647, false, 14, 0), (-2147483648, 2147483647, false, 15, 0), (-2147483648, 2147483647, false, 16, 0), (-2147483648, 2147483647, false, 17, 0), (-2147483648, 2147483647, false, 18, 0), (-2147483648, 2147483647, false, 19, 0), (-2147483648, 2147483647, false, 20, 0), (-2147483648, 2147483647, false, 21, 0), (-2147483648, 2147483647, false, 22, 0), (-10, 10, false, 23, 0), (-2147483648, 2147483647, false, 24, 0), (0, 4, false, 25, 0), (0, 4, false, 26, 0), (0, 4, false, 27, 0), (0, 4, false, 28, 0), (0, 4, false, 29, 0), (0, 4, false, 30, 0), (0, 4, false, 31, 0), (0, 4, false, 32, 0)], [(49, 9, (1, 0, 0, 0)), (49, 5, (1, 2, 0, 0)), (49, 3, (1, 3, 0, 0)), (49, 12, (1, 4, 0, 0)), (51, 26, (1, 6, 0, 0)), (51, 0, (1, 7, 0, 0)), (51, 1, (1, 8, 0, 0)), (51, 2, (1, 9, 0, 0)), (51, 3, (1, 10, 0, 0)), (51, 4, (1, 11, 0, 0)), (51, 5, (1, 12, 0, 0)), (51, 6, (1, 13, 0, 0)), (51, 7, (1, 14, 0, 0)), (51, 8, (1, 15, 0, 0)), (51, 9, (1, 16, 0, 0)), (51, 10, (1, 17, 0, 0)), (51, 11, (1, 18, 0, 0)), (51, 12, (1, 19, 0, 0)), (51, 13, (1, 20, 0, 0)), (51, 14, (1, 21, 0, 0)), (51, 15, (1, 22, 0, 0)), (51, 16, (1, 23, 0, 0)), (51, 17, (1, 24, 0, 0)), (51, 18, (1, 25, 0, 0)), (51, 19, (1, 26, 0, 0)), (51, 20, (1, 27, 0, 0)), (51, 21, (1, 28, 0, 0)), (51, 22, (1, 29, 0, 0)), (51, 23, (1, 30, 0, 0)), (51, 24, (1, 31, 0, 0)), (51, 25, (1, 32, 0, 0))], [(4, 2, 3, 2, 0)])
def rt_ook (x : ai_s) : Bool := s9 x 7 (1, 0, 0, 0) && (Nat.beq x.1 182 && (s9 x 8 (1, 0, 0, 0) && (decide (x.2.2.1 = [(1, 5, 0, 0)]) && (s9 x 1 (1, 3, 0, 0) && (decide (ai_lk x.2.2.2.2.1 50 26 = some (1, 6, 0, 0)) && (s9 x 19 (1, 0, 0, 0) && (decide (ai_lk x.2.2.2.2.1 56 0 = some (1, 0, 0, 0)) && (decide (ai_lk x.2.2.2.2.1 56 1 = some (1, 0, 0, 0)) && (List.range 26).all fun j => lkq x 50 j (1, 7 + j, 0, 0)))))))))
theorem rt_ro : ((ai_ex (hk mt_W) 3000 109 tb_m109 10 [] rt_o2).any fun xs => xs.all rt_ook) = true := by decide +kernel
end
section
/-! text of the reference is sp_text -/
theorem f5 {w0 : va_W} {r : List Int} {a a' : Nat} {o za zb : Int} (ha : r[a]? = some za) (hb : r[a']? = some zb) (h : zb + o ≤ za) : ai_sb w0 r [(5, a, a', a, o)] := fun q hq => by
  rw [List.mem_singleton.mp hq]
  exact ⟨za, zb, za, ha, hb, ha, fun h => absurd (show (5 : Nat) = 0 from h) (by decide), fun h => absurd (show (5 : Nat) = 1 from h) (by decide), fun h => absurd (show (5 : Nat) = 2 from h) (by decide), fun h => absurd (show (5 : Nat) = 4 from h) (by decide), fun _ => h, fun h => absurd (show (100 : Nat) ≤ 5 from h) (by decide)⟩
theorem sp_tok_end {g : Nat → Int} {n p : Nat} (hp : p ≤ n) (h : (sp_tok g n p).1 = 0) : (sp_tok g n p).2.1 = n := by
  have h1 := tp_skip_le (g := g) (n := n) (p := p) (lo := 32) (hi := 32)
  unfold sp_tok at h ⊢
  generalize tp_skip g n 32 32 p = F at h h1 ⊢
  have h2 := h1.2 hp
  by_cases c1 : n ≤ F
  · rw [if_pos c1]
    show F = n
    omega
  · rw [if_neg c1] at h
    by_cases c2 : g F = 59
    · rw [if_pos c2] at h
      exact absurd (show (3 : Nat) = 0 from h) (by decide)
    · rw [if_neg c2] at h
      by_cases c3 : tp_i (g F) 97 122 = true
      · rw [if_pos c3] at h
        exact absurd (show (1 : Nat) = 0 from h) (by decide)
      · rw [if_neg c3] at h
        by_cases c4 : tp_i (g F) 48 57 = true
        · rw [if_pos c4] at h
          by_cases c5 : 2 < tp_skip g n 48 57 F - F
          · rw [if_pos c5] at h
            exact absurd (show (4 : Nat) = 0 from h) (by decide)
          · rw [if_neg c5] at h
            exact absurd (show (2 : Nat) = 0 from h) (by decide)
        · rw [if_neg c4] at h
          exact absurd (show (4 : Nat) = 0 from h) (by decide)
/-- a line's next token is a token of the tape -/
def sp_tk (g : Nat → Int) (n : Nat) (S : sp_S) : Prop := ∃ p, p ≤ n ∧ S.1 = sp_tok g n p
theorem sp_line_tk {g : Nat → Int} {n : Nat} {S S' : sp_S} (hv : sp_inv2 n S) (h : sp_line g n S = .inr S') : sp_tk g n S' := by
  have key : ∀ {p tests told : Nat} {as : List Int} {R : sp_R}, sp_go g n p tests told as R → R = .inr S' → sp_tk g n S' := by
    intro p tests told as R h1 h2
    subst h2
    obtain ⟨e, -, e2, rfl⟩ := h1
    exact ⟨e, e2, rfl⟩
  have i6 := hv.1.2.2.2.2.2
  unfold sp_line at h
  split at h
  · unfold sp_word1 at h
    split at h
    · cases h
    · split at h
      · split at h
        · cases h
        · exact key (sp_t1_go i6) h
      · split at h
        · cases h
        · split at h
          · obtain ⟨t, q, bs, e1, e2, e3, e4, e5⟩ := sp_plan_go (g := g) 9 S.1.2.2.1 [] i6 ⟨Nat.zero_le _, fun a h => by cases h⟩
            rw [e1] at h
            unfold sp_p1 at h
            split at h
            · exact key (sp_stop_go e3) h
            · cases h
          · exact key (sp_o1_go i6) h
  · cases h
section RTL
variable {ad : List Nat} {p : Program} {l : Launch} {e : Env} {R : Room} {s : State} {m : MethodId} {args : Array Value} {below : List Frame} {meth : Method} {c : Code} {D : va_G} {tys : ai_ty} {A : Nat → Prop} {b L : Nat} {sx : Nat → Int32} {cells slots : Nat} {Q : State → Prop}
theorem rt_back (C : ai_cx tb_m109 10 p R s m args c D tys A b L sx cells slots) {ws : va_W} {lv : List (Nat × Value)} (k : hG tb_m109 p l e R s m args below meth c D A cells slots Q 52 lv [] ws) : hG tb_m109 p l e R s m args below meth c D A cells slots Q 73 lv [] ws := by
  intro H locs ls hP hD hS hl
  exact lv_goto (tgt := 52) C.1 C.2.1 (tv_m109.1.1.1 (73, .goto (-21), 3) (List.mem_of_getElem? (i := 40) rfl)) (by decide) (k H locs ls hP hD hS hl)
/-- behind the loop -/
def rt_at (g : Nat → Int) (ad : List Nat) (b n : Nat) (ws : va_W) (lv : List (Nat × Value)) (Ev : Nat → Int) : (Nat × Nat) ⊕ (sp_S × Nat) → Prop
  | .inl x => vi ws 49 9 x.1 ∧ vi ws 49 10 x.2 ∧ 1 ≤ x.1 ∧ x.1 ≤ 5 ∧ x.2 ≤ n ∧ ai_lo ad b [0] ms_lo lv
  | .inr x => rf_is n ws x.1 ∧ sp_inv2 n x.1 ∧ sp_tk g n x.1 ∧ x.1.1.1 = 0 ∧ x.2 ≤ 161 ∧ jv ad b 49 1 (x.2 : Int) lv ∧ rev ws Ev
set_option maxHeartbeats 1000000 in
theorem rt_loop (C : ai_cx tb_m109 10 p R s m args c D tys A b L sx cells slots) {g : Nat → Int} {n : Nat} (hn : n ≤ 160) :
    ∀ (f j : Nat) (ws : va_W) (S : sp_S) (E : Nat → Int) (lv : List (Nat × Value)), j + f = 161 → j ≤ S.1.2.2.1 → ai_wd tb_TY ad tys ws → sp_tape g n ws → rf_is n ws S → rev ws E → ev_ok S.2.1 E → sp_inv2 n S → sp_tk g n S → jv ad b 49 1 (j : Int) lv →
    (∀ (ws' : va_W) (lv' : List (Nat × Value)), ai_wd tb_TY ad tys ws' → ai_fr rl_W ws ws' → rt_at g ad b n ws' lv' (ev_run g n f S E) (sp_run g n f j S) → hG tb_m109 p l e R s m args below meth c D A cells slots Q 76 lv' [] ws') → hG tb_m109 p l e R s m args below meth c D A cells slots Q 52 lv [] ws := by
  intro f
  induction f with
  | zero =>
    intro j ws S E lv hj hjS hw hT hi hE hok hv htk hlv k
    have := hv.1.2.2.2.2.2
    omega
  | succ f ih =>
    intro j ws S E lv hj hjS hw hT hi hE hok hv htk hlv k
    have v3 := hv.1.2.2.2.1
    have v5 := hv.1.2.2.2.2.2
    have v4 := hv.1.2.2.2.2.1
    have hrun : sp_run g n (f + 1) j S = if S.1.1 = 0 then .inr (S, j) else match sp_line g n S with
        | .inl x => .inl x
        | .inr S' => sp_run g n f (j + 1) S' := rfl
    have herun : ev_run g n (f + 1) S E = if S.1.1 = 0 then E else match sp_line g n S with
        | .inl _ => E
        | .inr S' => ev_run g n f S' (ev_line g n S E) := rfl
    rw [hrun, herun] at k
    -- broken: to 76
    have bro : ∀ {pc cd P : Nat} {Ev : Nat → Int} {ws2 : va_W} {lv2 : List (Nat × Value)}, (pc = 52 ∨ pc = 70) → ai_wd tb_TY ad tys ws2 → ai_fr rl_W ws ws2 → vi ws2 49 9 cd → vi ws2 49 10 P → 1 ≤ cd → cd ≤ 5 → P ≤ n → jv ad b 49 1 (j : Int) lv2 → (∀ (ws' : va_W) (lv' : List (Nat × Value)), ai_wd tb_TY ad tys ws' → ai_fr rl_W ws ws' → rt_at g ad b n ws' lv' Ev (.inl (cd, P)) → hG tb_m109 p l e R s m args below meth c D A cells slots Q 76 lv' [] ws') → hG tb_m109 p l e R s m args below meth c D A cells slots Q pc lv2 [] ws2 := by
      intro pc cd P Ev ws2 lv2 hpc hw2 F2 b9 b10 c1 c5 hP hlv2 k'
      have run : ((ai_ex (hk []) 60 109 tb_m109 10 [76] (rt_b pc)).any fun xs => xs.all fun x => x.2.2.1.isEmpty && (Nat.beq x.1 76 && rl_this x)) = true := by
        rcases hpc with rfl | rfl
        · exact rt_rb
        · exact rt_rb70
      obtain ⟨xs, hx1, hx2⟩ := ai_anyE run
      refine hseg (st := rt_b pc) (r := [0, 0, (j : Int), (cd : Int)]) hx1 rfl C ⟨en_mk (by simp only [rt_b, en_b, and_true]; omega) rfl, sb0, hlv2.lo rfl rfl (by omega), trivial, hw2, kc (b9.kn (n := 3) (t := (cd : Int)) rfl (by omega)) k0, fun _ _ _ _ h => h, fun h => by cases h⟩ (fun x hx r' lv' sk' ws' hx' g' => ?_)
      obtain ⟨-, -, g3, g4, g5, -, g7, -⟩ := g'
      have hox := List.all_eq_true.mp hx2 x hx
      rw [Bool.and_eq_true, Bool.and_eq_true, ai_beq] at hox
      have hsk : sk' = [] := by
        rw [List.isEmpty_iff.mp hox.1] at g4
        exact g4.nil
      subst hsk
      rw [hox.2.1]
      exact hG_this g3 (decide_eq_true_eq.mp hox.2.2) (fun lv1 hlv1 => k' ws' lv1 g5 (F2.tr (wsub_ok (by decide) g7)) ⟨b9.fr g7 rfl, b10.fr g7 rfl, c1, c5, hP, hlv1⟩)
    obtain ⟨h7, ht, h3, hO, h5, h26, hpa⟩ := hi
    by_cases c4 : S.1.1 = 4
    · have hl : sp_line g n S = .inl (1, S.1.2.1) := by
        unfold sp_line sp_ft
        rw [if_neg (by omega), if_pos c4]
      rw [if_neg (show ¬ S.1.1 = 0 by omega), if_neg (show ¬ S.1.1 = 0 by omega), hl] at k
      exact bro (Or.inl rfl) hw (fun _ _ _ _ h => h) (ht.1 c4).1 (ht.1 c4).2 (by decide) (by decide) v4 hlv k
    · obtain ⟨h9, h11, h12, h13, h14⟩ := ht.2 c4
      obtain ⟨xs, hx1, hx2⟩ := ai_anyE rt_rh
      refine hseg (st := rt_h) (r := [0, 0, (j : Int), (S.1.1 : Int)]) hx1 rfl C ⟨en_mk (by simp only [rt_h, en_b, and_true]; omega) rfl, sb0, hlv.lo rfl rfl (by omega), trivial, hw, kc (h9.kn (n := 0) (t := 0) rfl (by omega)) (kc (h13.kn (n := 3) (t := (S.1.1 : Int)) rfl (by omega)) k0), fun _ _ _ _ h => h, fun h => by cases h⟩ (fun x hx r' lv' sk' ws' hx' g' => ?_)
      obtain ⟨g1, g2, g3, g4, g5, g6, g7, g8⟩ := g'
      have r0 : r'[0]? = some 0 := hx'.at rfl
      have r2 : r'[2]? = some (j : Int) := hx'.at rfl
      have r3 : r'[3]? = some (S.1.1 : Int) := hx'.at rfl
      have F1 : ai_fr rl_W ws ws' := wsub_ok (by decide) g7
      have hT1 := hT.fr hn g5 F1 (by decide) (by decide)
      have hi1 : rf_is n ws' S := ⟨h7.fr g7 rfl, ht.fr g7 (fun _ _ _ => rfl), h3.fr g7 rfl, (by obtain ⟨O, o1, o2⟩ := hO; exact ⟨O, o1.fr g7 rfl, o2⟩), h5.fr g7 rfl, h26.fr g7 rfl, hpa.fr g7 rfl⟩
      have hE1 : rev ws' E := hE.fr g7 (fun _ _ => rfl)
      have hox := List.all_eq_true.mp hx2 x hx
      unfold rt_hok at hox
      rw [Bool.and_eq_true, Bool.and_eq_true, decide_eq_true_eq, Bool.or_eq_true] at hox
      obtain ⟨q0, q1, hox⟩ := hox
      rcases hox with hox | hox
      · rw [Bool.and_eq_true, Bool.and_eq_true, ai_beq] at hox
        obtain ⟨p1, hs, p2⟩ := hox
        have hsk : sk' = [] := by
          rw [List.isEmpty_iff.mp hs] at g4
          exact g4.nil
        subst hsk
        obtain ⟨e0, b1, b2, b3⟩ := ai_any g1 r3 p2
        rw [decide_eq_true_eq] at b1
        have h0 : S.1.1 = 0 := by omega
        rw [if_pos h0, if_pos h0] at k
        rw [p1]
        exact hG_jv g3 r0 (decide_eq_true_eq.mp q0) q1 r2 (show (j : Int) = (j : Int) + 0 by omega) (fun lv1 hlv1 => k ws' lv1 g5 F1 ⟨hi1, hv, htk, h0, by omega, hlv1, hE1⟩)
      · rw [Bool.and_eq_true, Bool.and_eq_true, ai_beq, decide_eq_true_eq] at hox
        obtain ⟨p1, p2, p4⟩ := hox
        have h0 : ¬ S.1.1 = 0 := by
          obtain ⟨e1, d1, d2, d3, d4, -⟩ := g1.get r3
          rw [d1] at p4
          have p4 : (e1.2.2.1 || decide (1 ≤ e1.1)) = true := p4
          rw [Bool.or_eq_true, decide_eq_true_eq] at p4
          rcases p4 with p4 | p4
          · have := d4 p4
            omega
          · omega
        rw [if_neg h0, if_neg h0] at k
        rw [p2] at g4
        obtain ⟨y, s1, rfl, dy, g4⟩ := g4.cons
        have hs1 := g4.nil
        subst hs1
        rw [p1]
        refine hG_jv g3 r0 (decide_eq_true_eq.mp q0) q1 r2 (show (j : Int) = (j : Int) + 0 by omega) (fun lv1 hlv1 => ?_)
        have hgo := sp_line_go (g := g) hv
        refine hcall (q := (113, 0, 108, 0, 6)) (M' := tb_m108) (cl := 49) (rets := [22, 86, 175]) (P := fun w => ai_wd tb_TY ad tys w ∧ ai_fr rl_W ws' w ∧ ((∃ c1 P, sp_line g n S = .inl (c1, P) ∧ vi w 49 9 c1 ∧ vi w 49 10 P) ∨ ∃ S', sp_line g n S = .inr S' ∧ rf_is n w S' ∧ rev w (ev_line g n S E))) C (by decide) (tv_m109.1.1.1 (67, .invokevirtual 113, 3) (List.mem_of_getElem? (i := 38) rfl)) (tv_m109.2 _ (List.mem_of_getElem? (i := 8) rfl)) rfl rfl rfl rfl (by decide) (by decide) rfl rfl rfl rfl g5 (dv0 dy r0 rfl rfl) ?_ ?_ ?_
        · intro pcr hp
          rcases List.mem_cons.mp hp with rfl | hp
          · exact tv_m108.1.1.1 (22, .return_, 1) (List.mem_of_getElem? (i := 12) rfl)
          · rcases List.mem_cons.mp hp with rfl | hp
            · exact tv_m108.1.1.1 (86, .return_, 1) (List.mem_of_getElem? (i := 50) rfl)
            · rw [List.mem_singleton.mp hp]
              exact tv_m108.1.1.1 (175, .return_, 1) (List.mem_of_getElem? (i := 98) rfl)
        · intro p2 e2 R2 s2 m2 args2 below2 meth2 c2 Q2 C2 kk lv0 hlv0
          exact rf_line C2 hn g5 hT1 hi1 hE1 (fun h => (hok _ h).2 (Nat.le_refl _)) hv c4 h0 hlv0 (fun pcr w lv2 c1 P hpc a1 a2 a3 a4 a5 => kk pcr w lv2 hpc ⟨a1, a2, Or.inl ⟨c1, P, a3, a4, a5⟩⟩) (fun w lv2 S' a1 a2 a3 a4 a5 => kk 175 w lv2 (by decide) ⟨a1, a2, Or.inr ⟨S', a3, a4, a5⟩⟩)
        · rintro ws2 ⟨hw2, f2, hr⟩
          have F2 : ai_fr rl_W ws ws2 := F1.tr f2
          rcases hr with ⟨c1, P, e1, e2, e3⟩ | ⟨S', e1, e2, e2r⟩
          · rw [e1] at k hgo
            obtain ⟨o1, o2, o3⟩ := hgo
            exact bro (Or.inr rfl) hw2 F2 e2 e3 o1 o2 o3 hlv1 k
          · have htk' := sp_line_tk hv e1
            have hok' := ev_line_ok hv hok e1
            rw [e1] at k hgo
            obtain ⟨ys, hy1, hy2⟩ := ai_anyE rt_r70
            refine hseg (st := rt_70) (r := [0, 0, (j : Int)]) hy1 rfl C ⟨en_mk (by simp only [rt_70, en_b, and_true]; omega) rfl, sb0, hlv1.lo rfl rfl (by omega), trivial, hw2, k0, fun _ _ _ _ h => h, fun h => by cases h⟩ (fun x2 hx2' r2' lv2 sk2 ws3 hx3 g3' => ?_)
            obtain ⟨k1, k2, k3, k4, k5, k6, k7, k8⟩ := g3'
            have hox2 := List.all_eq_true.mp hy2 x2 hx2'
            rw [Bool.and_eq_true, Bool.and_eq_true, Bool.and_eq_true, ai_beq, decide_eq_true_eq] at hox2
            obtain ⟨hs2, u1, u2, u3⟩ := hox2
            have hsk2 : sk2 = [] := by
              rw [List.isEmpty_iff.mp hs2] at k4
              exact k4.nil
            subst hsk2
            rw [u1]
            have F3 : ai_fr rl_W ws ws3 := F2.tr (wsub_ok (by decide) k7)
            refine hG_jv k3 (hx3.at rfl) (decide_eq_true_eq.mp u2) u3 (z := (j : Int)) (t := ((j + 1 : Nat) : Int)) (hx3.at rfl) (by omega) (fun lv3 hlv3 => rt_back C ?_)
            obtain ⟨m7, mt, m3, ⟨O, mO, mO1⟩, m5, m26, mpa⟩ := e2
            exact ih (j + 1) ws3 S' (ev_line g n S E) lv3 (by omega) (by have := hgo.2; omega) k5 (hT.fr hn k5 F3 (by decide) (by decide)) ⟨m7.fr k7 rfl, mt.fr k7 (fun _ _ _ => rfl), m3.fr k7 rfl, ⟨O, mO.fr k7 rfl, mO1⟩, m5.fr k7 rfl, m26.fr k7 rfl, mpa.fr k7 rfl⟩ (e2r.fr k7 (fun _ _ => rfl)) hok' hgo.1 htk' hlv3 (fun ws4 lv4 a1 a2 a3 => k ws4 lv4 a1 (F3.tr a2) a3)
theorem rt_negok {w0 : va_W} {x : ai_s} {r : List Int} {sk : List Value} {nm : Nat} {P : Int} (g2 : ai_sb w0 r x.2.2.2.2.2) (g4 : ai_sk ad b r x.2.2.1 sk) (r0 : r[0]? = some 0) (hP : r[nm]? = some P) (h : rt_neg x nm = true) : ∃ z : Int32, sk = [.int z] ∧ z.toInt = -10 - P := by
  unfold rt_neg at h
  split at h
  · rename_i v hst
    rw [Bool.and_eq_true, decide_eq_true_eq] at h
    rw [hst] at g4
    obtain ⟨yv, s1, rfl, dy, g4⟩ := g4.cons
    have hs1 := g4.nil
    subst hs1
    obtain ⟨zr, w1, w2⟩ := av_f0 g2 r0 hP h.2
    rw [h.1] at dy
    obtain ⟨z, rfl, hz⟩ := dvn dy w1
    exact ⟨z, rfl, by omega⟩
  · cases h
/-- page 0 of the reference is E -/
def rpg (ws : va_W) (E : Nat → Int) : Prop := (∀ j, j < 16 → vi ws 50 j (E j)) ∧ vi ws 50 16 (E 16 - 10) ∧ vi ws 50 17 (E 17)
theorem vi_rowsP {ws : va_W} {k n : Nat} {pat : List ai_f} (h : ai_wd tb_TY ad tys ws) (hk : tb_TY[k]? = some (1, n, pat)) : ∃ K : Nat → Int, ∀ i, i < n → vi ws k i (K i) ∧ ∀ q, ai_pt pat i = some q → q.2.2.1 ≤ K i ∧ K i ≤ q.2.2.2 := by
  obtain ⟨a, e, h1, h2, h3⟩ := h.get hk
  rcases h3 with ⟨q, -⟩ | ⟨-, cA, f, rfl, -, h4⟩ | ⟨q, -⟩ | ⟨q, -⟩
  · exact absurd (id q : (1 : Nat) = 0) (by decide)
  · exact ⟨fun i => (f i).toInt, fun i hi' => ⟨⟨f i, ⟨a, _, h1, Or.inr (Or.inl ⟨cA, n, f, rfl, hi', rfl⟩)⟩, rfl⟩, fun q hq => h4 i q hi' hq⟩⟩
  · exact absurd (id q : (1 : Nat) = 3) (by decide)
  · exact absurd (id q : (1 : Nat) = 4) (by decide)
set_option maxHeartbeats 4000000 in
theorem rt_all (C : ai_cx tb_m109 10 p R s m args c D tys A b L sx cells slots) {ws : va_W} {g : Nat → Int} {n : Nat} (hn : n ≤ 160) (hw : ai_wd tb_TY ad tys ws) (hT : sp_tape g n ws) (h1 : vi ws 49 7 n) {lv : List (Nat × Value)} (hlv : ai_lo ad b [0] ms_lo lv)
    (ke : ∀ (ws' : va_W) (lv' : List (Nat × Value)) (z : Int32), (sp_text g n).1 ≠ 0 → ai_wd tb_TY ad tys ws' → ai_fr mt_We ws ws' → vi ws' 49 7 0 → vi ws' 49 8 (sp_text g n).1 → z.toInt = sp_ret g n → hG tb_m109 p l e R s m args below meth c D A cells slots Q 127 lv' [.int z] ws')
    (k : ∀ (ws' : va_W) (lv' : List (Nat × Value)) (z : Int32), (sp_text g n).1 = 0 → ai_wd tb_TY ad tys ws' → ai_fr mt_W ws ws' → vi ws' 49 7 0 → vi ws' 49 8 (sp_text g n).1 → z.toInt = sp_ret g n → vi ws' 49 1 (sp_cnt g n) → vi ws' 50 26 (sp_acn g n) → vi ws' 49 19 0 → vi ws' 56 0 0 → vi ws' 56 1 0 → rpg ws' (ev_text g n) → (∀ i, i < sp_acn g n → vi ws' 50 (18 + i) ((ev_acts g n).getD i 0)) → ev_ok (sp_cnt g n) (ev_text g n) → hG tb_m109 p l e R s m args below meth c D A cells slots Q 182 lv' [.int z] ws') : hG tb_m109 p l e R s m args below meth c D A cells slots Q 0 lv [] ws := by
  obtain ⟨xs, hx1, hx2⟩ := ai_anyE rt_r0
  refine hsegT (st := rt_0) (r := [0, 0, (n : Int)]) hx1 rfl C ⟨en_mk (by simp only [rt_0, en_b, and_true]; omega) rfl, f350 rfl hT.1 hT.2, lo0_ok (r := [0]) rfl rfl rfl hlv, trivial, hw, kc (h1.kn (n := 2) (t := (n : Int)) rfl (by omega)) k0, fun _ _ _ _ h => h, fun h => by cases h⟩ (fun x hx r' lv1 sk' ws1 hx' g' => ?_)
  obtain ⟨g1, g2, g3, g4, hw1, g6, f1, -⟩ := g'
  have r0 : r'[0]? = some 0 := hx'.at rfl
  have r2 : r'[2]? = some (n : Int) := hx'.at rfl
  have hox := List.all_eq_true.mp hx2 x hx
  unfold rt_0ok at hox
  rw [Bool.and_eq_true, Bool.and_eq_true, Bool.and_eq_true, Bool.and_eq_true, Bool.and_eq_true, Bool.and_eq_true, Bool.and_eq_true, Bool.and_eq_true, Bool.and_eq_true, ai_beq, decide_eq_true_eq, decide_eq_true_eq] at hox
  obtain ⟨hs, p1, q0, q1, o1, c3, c4, c5, c26, c51⟩ := hox
  obtain ⟨kb, hkb, o1⟩ := ai_anyE o1
  have hsk : sk' = [] := by
    rw [List.isEmpty_iff.mp hs] at g4
    exact g4.nil
  subst hsk
  have htk := rp_tkok g6 r0 (sy_tk_ok (P := 0) g2 hT.1 r2 r0 hkb) o1
  have hT1 := hT.fr hn hw1 f1 (by decide) (by decide)
  have hi1 : rf_is n ws1 (sp_tok g n 0, 0, 0, []) := ⟨h1.fr f1 (by decide), htk, vi.lk g6 (decide_eq_true_eq.mp c3) r0 (by show ((0 : Nat) : Int) = _; omega), ⟨0, vi.lk g6 (decide_eq_true_eq.mp c4) r0 (by omega), Nat.le_refl _, Nat.zero_le _⟩, vi.lk g6 (decide_eq_true_eq.mp c5) r0 (by show sp_high [] = 0 + (-1); rfl), vi.lk g6 c26 r0 (by show (([] : List Int).length : Int) = _; rfl), fun i hi => absurd hi (Nat.not_lt_zero _)⟩
  have c51' : ∀ j, j < 18 → ai_lk x.2.2.2.2.1 51 j = some (1, 0, 0, 0) := fun j hj => decide_eq_true_eq.mp (List.all_eq_true.mp c51 j (List.mem_range.mpr hj))
  have hE0 : rev ws1 ev_0 := ⟨fun j hj => vi.lk g6 (c51' j (by omega)) r0 (by unfold ev_0; rw [if_neg (by omega)]; rfl), vi.lk g6 (c51' 16 (by omega)) r0 (by simp [ev_0]), vi.lk g6 (c51' 17 (by omega)) r0 (by simp [ev_0])⟩
  rw [p1]
  refine hG_jv g3 r0 (decide_eq_true_eq.mp q0) q1 (z := 0) (t := ((0 : Nat) : Int)) r0 (by omega) (fun lv2 hlv2 => ?_)
  refine rt_loop C hn 161 0 ws1 _ ev_0 lv2 rfl (Nat.zero_le _) hw1 hT1 hi1 hE0 ev_0_ok sp_start ⟨0, Nat.zero_le _, rfl⟩ hlv2 (fun ws2 lv3 hw2 f2 hat => ?_)
  have F2 : ai_fr mt_We ws ws2 := (wsub_ok (by decide) f1).tr (wsub_ok (by decide) f2)
  have htext : sp_text g n = match sp_run g n 161 0 (sp_tok g n 0, 0, 0, []) with
      | .inl x => (x.1, x.2, 0)
      | .inr (S, l) => if (S.2.1 : Int) ≤ sp_high S.2.2.2 then (6, n, 0) else (0, 0, l) := rfl
  have hcnt : sp_cnt g n = match sp_run g n 161 0 (sp_tok g n 0, 0, 0, []) with
      | .inl _ => 0
      | .inr (S, _) => S.2.1 := rfl
  have hacn : sp_acn g n = match sp_run g n 161 0 (sp_tok g n 0, 0, 0, []) with
      | .inl _ => 0
      | .inr (S, _) => S.2.2.2.length := rfl
  have hact : ev_acts g n = match sp_run g n 161 0 (sp_tok g n 0, 0, 0, []) with
      | .inl _ => []
      | .inr (S, _) => S.2.2.2 := rfl
  have hro := ev_run_ok (g := g) 161 0 (sp_tok g n 0, 0, 0, []) ev_0 sp_start ev_0_ok
  generalize sp_run g n 161 0 (sp_tok g n 0, 0, 0, []) = RR at hat htext hcnt hacn hact hro
  cases RR with
  | inl y =>
    obtain ⟨v9, v10, y1, y5, yn, hlv3⟩ := hat
    have htext : sp_text g n = (y.1, y.2, 0) := htext
    obtain ⟨ys, hy1, hy2⟩ := ai_anyE rt_re
    refine hseg (st := rt_e) (r := [0, 0, (y.1 : Int), (y.2 : Int)]) hy1 rfl C ⟨en_mk (by simp only [rt_e, en_b, and_true]; omega) rfl, sb0, lo0_ok (r := [0]) rfl rfl rfl hlv3, trivial, hw2, kc (v9.kn (n := 2) (t := (y.1 : Int)) rfl (by omega)) (kc (v10.kn (n := 3) (t := (y.2 : Int)) rfl (by omega)) k0), fun _ _ _ _ h => h, fun h => by cases h⟩ (fun x2 hx2' r2' lv4 sk2 ws3 hx3 g3' => ?_)
    obtain ⟨k1, k2, k3, k4, k5, k6, k7, k8⟩ := g3'
    have y0 : r2'[0]? = some 0 := hx3.at rfl
    have hox2 := List.all_eq_true.mp hy2 x2 hx2'
    rw [Bool.and_eq_true, Bool.and_eq_true, Bool.and_eq_true, ai_beq] at hox2
    obtain ⟨o1, o2, o3, o4⟩ := hox2
    obtain ⟨z, rfl, hz⟩ := rt_negok (P := (y.2 : Int)) k2 k4 y0 (hx3.at rfl) o4
    rw [o1]
    refine ke ws3 lv4 z (by rw [htext]; show y.1 ≠ 0; omega) k5 (F2.tr k7) (vi.lk k6 (decide_eq_true_eq.mp o2) y0 (by omega)) (vi.lk k6 (decide_eq_true_eq.mp o3) (z := (y.1 : Int)) (hx3.at rfl) (by rw [htext]; show (y.1 : Int) = _; omega)) ?_
    unfold sp_ret
    rw [htext, if_neg (show ¬ y.1 = 0 by omega)]
    exact hz
  | inr y =>
    obtain ⟨S, ln⟩ := y
    obtain ⟨⟨h7, ht, h3, hO, h5, h26, hpa⟩, hv2, htk2, hS0, hln, hlv3, hrv⟩ := hat
    have hrv : rev ws2 (ev_text g n) := hrv
    have hro : ev_ok S.2.1 (ev_text g n) := hro S ln rfl
    have hact : ev_acts g n = S.2.2.2 := hact
    have hpa : pac ws2 S.2.2.2 := hpa
    have ht : rf_tk ws2 S.1 := ht
    have h3 : vi ws2 49 3 S.2.1 := h3
    have h5 : vi ws2 49 5 (sp_high S.2.2.2) := h5
    have hS0 : S.1.1 = 0 := hS0
    have hln : ln ≤ 161 := hln
    have hlv3 : jv ad b 49 1 (ln : Int) lv3 := hlv3
    obtain ⟨pp, hpp, hS1⟩ := htk2
    have hS1 : S.1 = sp_tok g n pp := hS1
    have hfn : S.1.2.1 = n := by rw [hS1]; exact sp_tok_end hpp (by rw [← hS1]; exact hS0)
    have htext : sp_text g n = if (S.2.1 : Int) ≤ sp_high S.2.2.2 then (6, n, 0) else (0, 0, ln) := htext
    obtain ⟨h9, h11, h12, h13, h14⟩ := ht.2 (by omega)
    have hb := sp_high_b S.2.2.2 (-1) (by decide) (by decide)
    have hb : -1 ≤ sp_high S.2.2.2 ∧ sp_high S.2.2.2 ≤ 3 := hb
    have v2 : S.2.1 ≤ 4 := hv2.1.2.2.1
    have hcnt : sp_cnt g n = S.2.1 := hcnt
    have hacn : sp_acn g n = S.2.2.2.length := hacn
    have h26 : vi ws2 51 26 S.2.2.2.length := h26
    have hl8 : S.2.2.2.length ≤ 8 := hv2.2.1.1
    by_cases hge : (S.2.1 : Int) ≤ sp_high S.2.2.2
    · rw [if_pos hge] at htext
      obtain ⟨ys, hy1, hy2⟩ := ai_anyE rt_r6
      refine hseg (st := rt_o [(5, 2, 3, 2, 0)]) (r := [0, 0, sp_high S.2.2.2, (S.2.1 : Int), (n : Int), (ln : Int), (S.2.2.2.length : Int)]) hy1 rfl C ⟨en_mk (by simp only [rt_o, en_b, and_true]; omega) rfl, f5 rfl rfl (by omega), hlv3.lo rfl rfl (by omega), trivial, hw2, kc (h9.kn (n := 0) (t := 0) rfl (by omega)) (kc (h5.kn (n := 2) (t := sp_high S.2.2.2) rfl (by omega)) (kc (h3.kn (n := 3) (t := (S.2.1 : Int)) rfl (by omega)) (kc (h12.kn (n := 4) (t := (n : Int)) rfl (by omega)) (kc (h26.kn (n := 6) (t := (S.2.2.2.length : Int)) rfl (by omega)) k0)))), fun _ _ _ _ h => h, fun h => by cases h⟩ (fun x2 hx2' r2' lv4 sk2 ws3 hx3 g3' => ?_)
      obtain ⟨k1, k2, k3, k4, k5, k6, k7, k8⟩ := g3'
      have y0 : r2'[0]? = some 0 := hx3.at rfl
      have y4 : r2'[4]? = some (n : Int) := hx3.at rfl
      have hox2 := List.all_eq_true.mp hy2 x2 hx2'
      rw [Bool.and_eq_true, Bool.and_eq_true, Bool.and_eq_true, ai_beq] at hox2
      obtain ⟨o1, o2, o3, o4⟩ := hox2
      obtain ⟨z, rfl, hz⟩ := rt_negok k2 k4 y0 y4 o4
      rw [o2]
      refine ke ws3 lv4 z (by rw [htext]; show (6 : Nat) ≠ 0; decide) k5 (F2.tr k7) (vi.lk k6 (decide_eq_true_eq.mp o1) y0 (by omega)) (vi.lk k6 (decide_eq_true_eq.mp o3) y0 (by rw [htext]; rfl)) ?_
      unfold sp_ret
      rw [htext, if_neg (show ¬ (6 : Nat) = 0 by decide)]
      exact hz
    · rw [if_neg hge] at htext
      obtain ⟨ys, hy1, hy2⟩ := ai_anyE rt_ro
      obtain ⟨K, hK⟩ := vi_rowsP (k := 51) hw2 rfl
      have bK0 : -2147483648 ≤ K 0 ∧ K 0 ≤ 2147483647 := (hK 0 (by decide)).2 (1, 0, -2147483648, 2147483647) rfl
      have bK1 : -2147483648 ≤ K 1 ∧ K 1 ≤ 2147483647 := (hK 1 (by decide)).2 (1, 0, -2147483648, 2147483647) rfl
      have bK2 : -2147483648 ≤ K 2 ∧ K 2 ≤ 2147483647 := (hK 2 (by decide)).2 (1, 0, -2147483648, 2147483647) rfl
      have bK3 : -2147483648 ≤ K 3 ∧ K 3 ≤ 2147483647 := (hK 3 (by decide)).2 (1, 0, -2147483648, 2147483647) rfl
      have bK4 : -2147483648 ≤ K 4 ∧ K 4 ≤ 2147483647 := (hK 4 (by decide)).2 (1, 0, -2147483648, 2147483647) rfl
      have bK5 : -2147483648 ≤ K 5 ∧ K 5 ≤ 2147483647 := (hK 5 (by decide)).2 (1, 0, -2147483648, 2147483647) rfl
      have bK6 : -2147483648 ≤ K 6 ∧ K 6 ≤ 2147483647 := (hK 6 (by decide)).2 (1, 0, -2147483648, 2147483647) rfl
      have bK7 : -2147483648 ≤ K 7 ∧ K 7 ≤ 2147483647 := (hK 7 (by decide)).2 (1, 0, -2147483648, 2147483647) rfl
      have bK8 : -2147483648 ≤ K 8 ∧ K 8 ≤ 2147483647 := (hK 8 (by decide)).2 (1, 0, -2147483648, 2147483647) rfl
      have bK9 : -2147483648 ≤ K 9 ∧ K 9 ≤ 2147483647 := (hK 9 (by decide)).2 (1, 0, -2147483648, 2147483647) rfl
      have bK10 : -2147483648 ≤ K 10 ∧ K 10 ≤ 2147483647 := (hK 10 (by decide)).2 (1, 0, -2147483648, 2147483647) rfl
      have bK11 : -2147483648 ≤ K 11 ∧ K 11 ≤ 2147483647 := (hK 11 (by decide)).2 (1, 0, -2147483648, 2147483647) rfl
      have bK12 : -2147483648 ≤ K 12 ∧ K 12 ≤ 2147483647 := (hK 12 (by decide)).2 (1, 0, -2147483648, 2147483647) rfl
      have bK13 : -2147483648 ≤ K 13 ∧ K 13 ≤ 2147483647 := (hK 13 (by decide)).2 (1, 0, -2147483648, 2147483647) rfl
      have bK14 : -2147483648 ≤ K 14 ∧ K 14 ≤ 2147483647 := (hK 14 (by decide)).2 (1, 0, -2147483648, 2147483647) rfl
      have bK15 : -2147483648 ≤ K 15 ∧ K 15 ≤ 2147483647 := (hK 15 (by decide)).2 (1, 0, -2147483648, 2147483647) rfl
      have bK16 : -10 ≤ K 16 ∧ K 16 ≤ 10 := (hK 16 (by decide)).2 (1, 0, -10, 10) rfl
      have bK17 : -2147483648 ≤ K 17 ∧ K 17 ≤ 2147483647 := (hK 17 (by decide)).2 (1, 0, -2147483648, 2147483647) rfl
      have bK18 : 0 ≤ K 18 ∧ K 18 ≤ 4 := (hK 18 (by decide)).2 (1, 0, 0, 4) rfl
      have bK19 : 0 ≤ K 19 ∧ K 19 ≤ 4 := (hK 19 (by decide)).2 (1, 0, 0, 4) rfl
      have bK20 : 0 ≤ K 20 ∧ K 20 ≤ 4 := (hK 20 (by decide)).2 (1, 0, 0, 4) rfl
      have bK21 : 0 ≤ K 21 ∧ K 21 ≤ 4 := (hK 21 (by decide)).2 (1, 0, 0, 4) rfl
      have bK22 : 0 ≤ K 22 ∧ K 22 ≤ 4 := (hK 22 (by decide)).2 (1, 0, 0, 4) rfl
      have bK23 : 0 ≤ K 23 ∧ K 23 ≤ 4 := (hK 23 (by decide)).2 (1, 0, 0, 4) rfl
      have bK24 : 0 ≤ K 24 ∧ K 24 ≤ 4 := (hK 24 (by decide)).2 (1, 0, 0, 4) rfl
      have bK25 : 0 ≤ K 25 ∧ K 25 ≤ 4 := (hK 25 (by decide)).2 (1, 0, 0, 4) rfl
      refine hseg (st := rt_o2) (r := [0, 0, sp_high S.2.2.2, (S.2.1 : Int), (n : Int), (ln : Int), (S.2.2.2.length : Int), K 0, K 1, K 2, K 3, K 4, K 5, K 6, K 7, K 8, K 9, K 10, K 11, K 12, K 13, K 14, K 15, K 16, K 17, K 18, K 19, K 20, K 21, K 22, K 23, K 24, K 25]) hy1 rfl C ⟨en_mk (by simp only [rt_o2, en_b, and_true]; omega) rfl, f4 rfl rfl (by omega), hlv3.lo rfl rfl (by omega), trivial, hw2, kc (h9.kn (n := 0) (t := 0) rfl (by omega)) (kc (h5.kn (n := 2) (t := sp_high S.2.2.2) rfl (by omega)) (kc (h3.kn (n := 3) (t := (S.2.1 : Int)) rfl (by omega)) (kc (h12.kn (n := 4) (t := (n : Int)) rfl (by omega)) (kc (h26.kn (n := 6) (t := (S.2.2.2.length : Int)) rfl (by omega)) (kc ((hK 0 (by decide)).1.kn (n := 7) (t := K 0) rfl (by omega)) (kc ((hK 1 (by decide)).1.kn (n := 8) (t := K 1) rfl (by omega)) (kc ((hK 2 (by decide)).1.kn (n := 9) (t := K 2) rfl (by omega)) (kc ((hK 3 (by decide)).1.kn (n := 10) (t := K 3) rfl (by omega)) (kc ((hK 4 (by decide)).1.kn (n := 11) (t := K 4) rfl (by omega)) (kc ((hK 5 (by decide)).1.kn (n := 12) (t := K 5) rfl (by omega)) (kc ((hK 6 (by decide)).1.kn (n := 13) (t := K 6) rfl (by omega)) (kc ((hK 7 (by decide)).1.kn (n := 14) (t := K 7) rfl (by omega)) (kc ((hK 8 (by decide)).1.kn (n := 15) (t := K 8) rfl (by omega)) (kc ((hK 9 (by decide)).1.kn (n := 16) (t := K 9) rfl (by omega)) (kc ((hK 10 (by decide)).1.kn (n := 17) (t := K 10) rfl (by omega)) (kc ((hK 11 (by decide)).1.kn (n := 18) (t := K 11) rfl (by omega)) (kc ((hK 12 (by decide)).1.kn (n := 19) (t := K 12) rfl (by omega)) (kc ((hK 13 (by decide)).1.kn (n := 20) (t := K 13) rfl (by omega)) (kc ((hK 14 (by decide)).1.kn (n := 21) (t := K 14) rfl (by omega)) (kc ((hK 15 (by decide)).1.kn (n := 22) (t := K 15) rfl (by omega)) (kc ((hK 16 (by decide)).1.kn (n := 23) (t := K 16) rfl (by omega)) (kc ((hK 17 (by decide)).1.kn (n := 24) (t := K 17) rfl (by omega)) (kc ((hK 18 (by decide)).1.kn (n := 25) (t := K 18) rfl (by omega)) (kc ((hK 19 (by decide)).1.kn (n := 26) (t := K 19) rfl (by omega)) (kc ((hK 20 (by decide)).1.kn (n := 27) (t := K 20) rfl (by omega)) (kc ((hK 21 (by decide)).1.kn (n := 28) (t := K 21) rfl (by omega)) (kc ((hK 22 (by decide)).1.kn (n := 29) (t := K 22) rfl (by omega)) (kc ((hK 23 (by decide)).1.kn (n := 30) (t := K 23) rfl (by omega)) (kc ((hK 24 (by decide)).1.kn (n := 31) (t := K 24) rfl (by omega)) (kc ((hK 25 (by decide)).1.kn (n := 32) (t := K 25) rfl (by omega)) k0)))))))))))))))))))))))))))))), fun _ _ _ _ h => h, fun h => by cases h⟩ (fun x2 hx2' r2' lv4 sk2 ws3 hx3 g3' => ?_)
      obtain ⟨k1, k2, k3, k4, k5, k6, k7, k8⟩ := g3'
      have y0 : r2'[0]? = some 0 := hx3.at rfl
      have y3 : r2'[3]? = some (S.2.1 : Int) := hx3.at rfl
      have y5 : r2'[5]? = some (ln : Int) := hx3.at rfl
      have y6 : r2'[6]? = some (S.2.2.2.length : Int) := hx3.at rfl
      have yK : ∀ j, j < 26 → r2'[7 + j]? = some (K j) := fun j hj => match j, hj with
        | 0, _ => hx3.at rfl
        | 1, _ => hx3.at rfl
        | 2, _ => hx3.at rfl
        | 3, _ => hx3.at rfl
        | 4, _ => hx3.at rfl
        | 5, _ => hx3.at rfl
        | 6, _ => hx3.at rfl
        | 7, _ => hx3.at rfl
        | 8, _ => hx3.at rfl
        | 9, _ => hx3.at rfl
        | 10, _ => hx3.at rfl
        | 11, _ => hx3.at rfl
        | 12, _ => hx3.at rfl
        | 13, _ => hx3.at rfl
        | 14, _ => hx3.at rfl
        | 15, _ => hx3.at rfl
        | 16, _ => hx3.at rfl
        | 17, _ => hx3.at rfl
        | 18, _ => hx3.at rfl
        | 19, _ => hx3.at rfl
        | 20, _ => hx3.at rfl
        | 21, _ => hx3.at rfl
        | 22, _ => hx3.at rfl
        | 23, _ => hx3.at rfl
        | 24, _ => hx3.at rfl
        | 25, _ => hx3.at rfl
        | q + 26, h => absurd h (by omega)
      have hox2 := List.all_eq_true.mp hy2 x2 hx2'
      unfold rt_ook at hox2
      rw [Bool.and_eq_true, Bool.and_eq_true, Bool.and_eq_true, Bool.and_eq_true, Bool.and_eq_true, Bool.and_eq_true, Bool.and_eq_true, Bool.and_eq_true, Bool.and_eq_true, ai_beq, decide_eq_true_eq, decide_eq_true_eq, decide_eq_true_eq, decide_eq_true_eq] at hox2
      obtain ⟨o1, o2, o3, o4, o5, o5', o6, o7, o8, o9⟩ := hox2
      have w50 : ∀ j, j < 26 → vi ws3 50 j (K j) := fun j hj => vi.lk k6 (decide_eq_true_eq.mp (List.all_eq_true.mp o9 j (List.mem_range.mpr hj))) (yK j hj) (by omega)
      rw [o4] at k4
      obtain ⟨yv, s1, rfl, dy, k4⟩ := k4.cons
      have hs1 := k4.nil
      subst hs1
      obtain ⟨z, rfl, hz⟩ := dvn dy y5
      rw [o2]
      refine k ws3 lv4 z (by rw [htext]) k5 ((wsub_ok (by decide) F2).tr k7) (vi.lk k6 (decide_eq_true_eq.mp o1) y0 (by omega)) (vi.lk k6 (decide_eq_true_eq.mp o3) y0 (by rw [htext]; rfl)) ?_ (vi.lk k6 (decide_eq_true_eq.mp o5) y3 (by rw [hcnt]; omega)) (vi.lk k6 o5' y6 (by rw [hacn]; omega)) (vi.lk k6 (decide_eq_true_eq.mp o6) y0 (by omega)) (vi.lk k6 o7 y0 (by omega)) (vi.lk k6 o8 y0 (by omega)) ⟨fun j hj => ?_, ?_, ?_⟩ (fun i hi => ?_) (by rw [hcnt]; exact hro)
      rotate_left
      · rw [(hrv.1 j hj).fun (hK j (by omega)).1]
        exact w50 j (by omega)
      · rw [hrv.2.1.fun (hK 16 (by omega)).1]
        exact w50 16 (by omega)
      · rw [hrv.2.2.fun (hK 17 (by omega)).1]
        exact w50 17 (by omega)
      · rw [hacn] at hi
        rw [hact, (hpa i hi).fun (hK (18 + i) (by omega)).1]
        exact w50 (18 + i) (by omega)
      unfold sp_ret
      rw [htext, if_pos rfl]
      show z.toInt = (ln : Int)
      omega
end RTL
end
section
/-! text of the reference as a known method, where the class's answer is told; the law's walk -/
def mt_f (sb : List ai_b) (n : Nat) : Option ai_b := sb.find? fun q => Nat.beq q.1 499 && Nat.beq q.2.1 n
theorem mt_fok {w0 : va_W} {r : List Int} {sb : List ai_b} {g : Nat → Int} {n N : Nat} {q : ai_b} (g2 : ai_sb w0 r sb) (hg : fx_tape w0 g) (hn : r[n]? = some (N : Int)) (h : mt_f sb n = some q) : r[q.2.2.2.1]? = some (sp_ret g N) ∧ r[q.2.2.2.1 + 1]? = some (((sp_text g N).1 : Nat) : Int) ∧ r[q.2.2.2.1 + 2]? = some ((sp_cnt g N : Nat) : Int) ∧ r[q.2.2.2.1 + 3]? = some ((sp_acn g N : Nat) : Int) := by
  have hq := List.mem_of_find?_eq_some h
  have hc := List.find?_some h
  rw [Bool.and_eq_true, ai_beq, ai_beq] at hc
  obtain ⟨-, -, -, -, -, -, -, -, -, -, -, e9⟩ := g2 q hq
  have h4 := ((e9 (by omega)).2.2.1 g hg).2.2.2.1 (by omega) (by omega)
  unfold fx_ps at h4
  rw [if_pos hc.1] at h4
  obtain ⟨zn, zr, zf, zc, zd, a1, a2, a3, a3', a3'', -, a4, a5, a6, a7⟩ := h4
  rw [hc.2, hn] at a1
  cases a1
  rw [Int.toNat_natCast] at a4 a5 a6 a7
  rw [a2, a3, a3', a3'', a4, a5, a6, a7]
  exact ⟨rfl, rfl, rfl, rfl⟩
def mt_k1 (st : ai_s) (q : ai_b) : List ai_k := (49, 7, (1, 0, 0, 0)) :: (49, 8, (1, q.2.2.2.1 + 1, 0, 0)) :: st.2.2.2.2.1.filter (fun k => !(ai_wr mt_We k.1 k.2.1 k.2.1))
def mt_k2 (st : ai_s) (q : ai_b) : List ai_k := (49, 7, (1, 0, 0, 0)) :: (49, 8, (1, q.2.2.2.1 + 1, 0, 0)) :: (49, 1, (1, q.2.2.2.1 + 2, 0, 0)) :: (50, 26, (1, q.2.2.2.1 + 3, 0, 0)) :: (49, 19, (1, 0, 0, 0)) :: (56, 0, (1, 0, 0, 0)) :: (56, 1, (1, 0, 0, 0)) :: st.2.2.2.2.1.filter (fun k => !(ai_wr mt_W k.1 k.2.1 k.2.1))
def mt_end (st : ai_s) (q : ai_b) (pc : Nat) (kn : List ai_k) : ai_s := (pc, [], [(1, q.2.2.2.1, 0, 0)], st.2.2.2.1, kn, st.2.2.2.2.2)
/-- where the class's text has told whether there is a fault -/
def su_mt (WR : List (Nat × Nat × Nat)) (st : ai_s) : Option (List ai_s) :=
  (ai_lk st.2.2.2.2.1 49 7).bind fun w => (mt_f st.2.2.2.2.2 w.2.1).bind fun q => (st.2.2.2.1[q.2.2.2.1 + 1]?).bind fun e => if w.1 = 1 ∧ w.2.2.2 = 0 ∧ st.2.1 = ms_lo ∧ st.2.2.1 = [] ∧ wsub mt_W WR = true ∧ nowr WR 27 = true ∧ nowr WR 52 = true ∧ ai_z st.2.2.2.1 = true ∧ st_fact st.2.2.2.2.2 w.2.1 = true then (if 1 ≤ e.1 then some [mt_end st q 127 (mt_k1 st q)] else if e.2.1 ≤ 0 then some [mt_end st q 182 (mt_k2 st q)] else none) else none
theorem su_mt_ok {WR : List (Nat × Nat × Nat)} {d : Nat} {st : ai_s} {xs : List ai_s} (hq : su_mt WR st = some xs) (h0 : st.1 = 0) (hd : 10 ≤ d) {w0 : va_W} {ad : List Nat} {p : Program} {l : Launch} {e : Env} {R : Room} {s : State} {m : MethodId} {args : Array Value} {below : List Frame} {meth : Method} {c : Code} {D : va_G} {tys : ai_ty} {A : Nat → Prop} {b L : Nat} {sx : Nat → Int32} {cells slots : Nat} {Q : State → Prop} {r0 : List Int}
    (C : ai_cx tb_m109 d p R s m args c D tys A b L sx cells slots) (k : ∀ x ∈ xs, ai_G tb_TY WR w0 ad tb_m109 p l e R s m args below meth c D tys A b L sx cells slots Q r0 x) : ai_G tb_TY WR w0 ad tb_m109 p l e R s m args below meth c D tys A b L sx cells slots Q r0 st := by
  unfold su_mt at hq
  obtain ⟨w, w1, hq⟩ := Option.bind_eq_some_iff.mp hq
  obtain ⟨q, q1, hq⟩ := Option.bind_eq_some_iff.mp hq
  obtain ⟨ef, qe, hq⟩ := Option.bind_eq_some_iff.mp hq
  split at hq
  · rename_i hc
    obtain ⟨c1, c2, c3, c4, c5, c6, c7, c8, c9⟩ := hc
    intro r lv sk ws H locs ls hx g hP hD hS hl
    obtain ⟨g1, g2, g3, g4, g5, g6, g7, g8⟩ := g
    have hsk : sk = [] := by rw [c4] at g4; exact g4.nil
    subst hsk
    rw [h0]
    obtain ⟨x1, s1, d1⟩ := ai_lk_ok g6 w1
    obtain ⟨zn, rfl⟩ : ∃ i : Int32, x1 = .int i := by
      rcases d1 with ⟨q, -⟩ | ⟨-, z, i, -, q2, -⟩ | ⟨q, -⟩ | ⟨q, -⟩ | ⟨q, -⟩
      · omega
      · exact ⟨i, q2⟩
      all_goals omega
    obtain ⟨zb, b1, b2⟩ := ai_dv1 d1 c1
    rw [c2] at b2
    have r00 : r[0]? = some 0 := ai_z_ok g1 c8
    obtain ⟨n0, n1⟩ := f49 (i := 7) g5 s1 rfl
    obtain ⟨N, hN⟩ : ∃ N : Nat, zb = (N : Int) := ⟨zb.toNat, by omega⟩
    subst hN
    obtain ⟨g0, t1, t2⟩ := st_factok g2 b1 c9
    rw [Int.toNat_natCast] at t2
    have hN160 : N ≤ 160 := by omega
    obtain ⟨v1', v2', v3', v4'⟩ := mt_fok g2 t1 b1 q1
    obtain ⟨be, be1, be2, be3, -⟩ := g1.get v2'
    cases Option.some.inj (qe.symm.trans be1)
    have hT : sp_tape g0 N ws := ⟨fun i hi => fr_fx (k := 27) g5 rfl g7 (nowr_ok c6 i i) (t1 i hi), fun i hi => fr_fx (k := 52) g5 rfl g7 (nowr_ok c7 i i) (t2 i hi)⟩
    have keep : ∀ {V : List (Nat × Nat × Nat)} {ws' : va_W}, ai_fr V ws ws' → ∀ q ∈ st.2.2.2.2.1.filter (fun q => !(ai_wr V q.1 q.2.1 q.2.1)), ∃ x, ai_sl ws' q.1 q.2.1 x ∧ ai_dv ad b r q.2.2 x := fun {V ws'} hf q hq => by
      obtain ⟨f1, f2⟩ := List.mem_filter.mp hq
      obtain ⟨x, e1, e2⟩ := g6 q f1
      exact ⟨x, hf _ _ _ (by rw [Bool.not_eq_true'] at f2; exact f2) e1, e2⟩
    refine rt_all (mm_cx hd C) hN160 g5 hT ⟨zn, s1, by omega⟩ (lo0_ok r00 rfl rfl (by rw [← c3]; exact g3)) (fun ws' lv' z hF hw' hf v7 v8 hz => ?_) (fun ws' lv' z hF hw' hf v7 v8 hz v4 v526 v19 v56 v561 _ _ _ => ?_) H locs ls hP hD hS hl
    · split at hq
      · injection hq with hq
        subst hq
        intro H' locs' ls' hP' hD' hS' hl'
        exact k _ (List.mem_singleton.mpr rfl) _ [] [.int z] ws' H' locs' ls' hx ⟨g1, g2, trivial, ⟨Or.inr (Or.inl ⟨rfl, _, z, v1', rfl, by show z.toInt = sp_ret g0 N + 0; omega⟩), trivial⟩, hw', kc (v7.kn (n := 0) (t := 0) r00 (by omega)) (kc (v8.kn (n := q.2.2.2.1 + 1) v2' (by omega)) (keep hf)), fun cc i x hwr hsl => wsub_ok c5 (wsub_ok (V := mt_We) (by decide) hf) cc i x hwr (g7 cc i x hwr hsl), fun h => by cases h⟩ hP' hD' hS' ⟨hl'.1, hl'.2.1, fun q hq => by cases hq⟩
      · split at hq
        · exfalso
          omega
        · cases hq
    · split at hq
      · exfalso
        omega
      · split at hq
        · injection hq with hq
          subst hq
          intro H' locs' ls' hP' hD' hS' hl'
          exact k _ (List.mem_singleton.mpr rfl) _ [] [.int z] ws' H' locs' ls' hx ⟨g1, g2, trivial, ⟨Or.inr (Or.inl ⟨rfl, _, z, v1', rfl, by show z.toInt = sp_ret g0 N + 0; omega⟩), trivial⟩, hw', kc (v7.kn (n := 0) (t := 0) r00 (by omega)) (kc (v8.kn (n := q.2.2.2.1 + 1) v2' (by omega)) (kc (v4.kn (n := q.2.2.2.1 + 2) v3' (by omega)) (kc (v526.kn (n := q.2.2.2.1 + 3) v4' (by omega)) (kc (v19.kn (n := 0) (t := 0) r00 (by omega)) (kc (v56.kn (n := 0) (t := 0) r00 (by omega)) (kc (v561.kn (n := 0) (t := 0) r00 (by omega)) (keep hf))))))), fun cc i x hwr hsl => wsub_ok c5 hf cc i x hwr (g7 cc i x hwr hsl), fun h => by cases h⟩ hP' hD' hS' ⟨hl'.1, hl'.2.1, fun q hq => by cases hq⟩
        · cases hq
  · cases hq
def tb_WR4 : List (Nat × Nat × Nat) := ((List.range 60).filter fun k => !(Nat.beq k 27 || (Nat.beq k 52 || (Nat.beq k 25 || (Nat.beq k 56 || (Nat.beq k 13 || (Nat.beq k 19 || Nat.beq k 50))))))).map (fun k => (k, 0, 200)) ++ [(13, 1, 3), (13, 4, 200), (19, 1, 3), (19, 4, 200), (50, 0, 27), (50, 81, 200)]
def tb_su4 (mid : Nat) (st : ai_s) : Option (List ai_s) := if Nat.beq mid 48 = true then su_tx tb_WR4 st else if Nat.beq mid 109 = true then su_mt tb_WR4 st else tb_su mid st
def tb_MG4 : List ai_g := tb_MG.filter fun q => !(Nat.beq q.1 48 || Nat.beq q.1 109)
def tb_K4 : ai_K := (tb_TY, tb_WR4, tb_MT, tb_SP, tb_su4, tb_MG4)
theorem su4_old {WR : List (Nat × Nat × Nat)} {mid d : Nat} {st : ai_s} {xs : List ai_s} {M : ai_m} {w0 : va_W} {ad : List Nat} {p : Program} {l : Launch} {e : Env} {R : Room} {s : State} {m : MethodId} {args : Array Value} {below : List Frame} {meth : Method} {c : Code} {D : va_G} {tys : ai_ty} {A : Nat → Prop} {b L : Nat} {sx : Nat → Int32} {cells slots : Nat} {Q : State → Prop} {r0 : List Int} (hg0 : st.1 = 0) (hg6 : ai_gd mid ≤ d) (hM : tb_MT[mid]? = some M) (C : ai_cx M d p R s m args c D tys A b L sx cells slots) (hq2 : tb_su mid st = some xs) (k : ∀ x ∈ xs, ai_G tb_TY WR w0 ad M p l e R s m args below meth c D tys A b L sx cells slots Q r0 x) : ai_G tb_TY WR w0 ad M p l e R s m args below meth c D tys A b L sx cells slots Q r0 st := by
  unfold tb_su at hq2
  split at hq2
  · rename_i hm
    subst hm
    have hM' : M = tb_m150 := (Option.some.inj hM).symm
    subst hM'
    split at hq2
    · rename_i hc
      simp only [Bool.and_eq_true] at hc
      obtain ⟨⟨⟨⟨c0, c2⟩, c4⟩, cs⟩, cn⟩ := hc
      injection hq2 with hq2
      subst hq2
      exact lo_known (M := tb_m150) C hg0 c0 c2 c4 cs cn rfl (k _ (List.mem_singleton.mpr rfl))
    · cases hq2
  · split at hq2
    · rename_i hm
      subst hm
      have hM' : M = tb_m37 := (Option.some.inj hM).symm
      subst hM'
      split at hq2
      · rename_i hc
        simp only [Bool.and_eq_true, decide_eq_true_eq] at hc
        obtain ⟨⟨c0, cs⟩, cn⟩ := hc
        injection hq2 with hq2
        subst hq2
        exact wr_known (TY := tb_TY) (M := tb_m37) C hg6 hg0 c0 cs cn (k _ List.mem_cons_self) (k _ (List.mem_cons_of_mem _ (List.mem_singleton.mpr rfl)))
      · cases hq2
    · cases hq2
theorem su4_ok : ai_SU tb_K4 := by
  intro mid d cu st xs M hq hM w0 ad p l e R s m args below meth c D tys A b L sx cells slots Q r0 C k
  dsimp only at hq
  split at hq
  · rename_i hg
    rw [Bool.and_eq_true] at hg
    have hg0 := ai_beq.mp hg.1
    have hg6 := Nat.le_of_ble_eq_true hg.2
    have hq4 : tb_su4 mid st = some xs := hq
    clear hq
    have hq2 : tb_su mid st = some xs ∨ (mid = 48 ∧ su_tx tb_WR4 st = some xs) ∨ (mid = 109 ∧ su_mt tb_WR4 st = some xs) := by
      unfold tb_su4 at hq4
      split at hq4
      · rename_i h48
        exact Or.inr (Or.inl ⟨ai_beq.mp h48, hq4⟩)
      · split at hq4
        · rename_i h109
          exact Or.inr (Or.inr ⟨ai_beq.mp h109, hq4⟩)
        · exact Or.inl hq4
    clear hq4
    rcases hq2 with hq2 | ⟨rfl, hq2⟩ | ⟨rfl, hq2⟩
    · exact su4_old hg0 hg6 hM C hq2 k
    · cases Option.some.inj (hM.symm.trans (rfl : tb_MT[48]? = some tb_m48))
      exact su_tx_ok hq2 hg0 hg6 C k
    · cases Option.some.inj (hM.symm.trans (rfl : tb_MT[109]? = some tb_m109))
      exact su_mt_ok hq2 hg0 hg6 C k
  · cases hq
/-! the walk that knows pieces of itself, over tb_K4 -/
noncomputable def m4_x (ms : List mm_e) (n : Nat) : ai_R := Nat.rec (fun _ _ _ _ _ => none) (fun _ rec => mm_b tb_K4 ms rec) n
def m4_ok (e : mm_e) : Prop := ai_SR tb_TY tb_WR4 tb_MT (fun mid _ d _ st => if (Nat.beq e.1 mid && Nat.ble e.2.1 d && mm_es e.2.2.1 st) = true then some e.2.2.2 else none)
theorem m4_x_ok {ms : List mm_e} (hms : ∀ e ∈ ms, m4_ok e) : ∀ n, ai_SR tb_TY tb_WR4 tb_MT (m4_x ms n)
  | 0 => fun mid d cu st ys M hq => by cases hq
  | n + 1 => by
    intro mid d cu st ys M hq hM w0 ad p l e R s m args below meth c D tys A b L sx cells slots Q r0 C k
    have hq : mm_b tb_K4 ms (m4_x ms n) mid M d cu st = some ys := hq
    unfold mm_b at hq
    rw [ai_norm_eq] at hq
    unfold mm_b0 at hq
    split at hq
    · rename_i xs hx
      injection hq with hq
      subst hq
      unfold mm_f at hx
      obtain ⟨e1, he, rfl⟩ := Option.map_eq_some_iff.mp hx
      have h1 := List.find?_some he
      have h2 := List.mem_of_find?_eq_some he
      simp only [Bool.and_eq_true, decide_eq_true_eq] at h1
      exact hms e1 h2 mid d cu st _ M (if_pos (by simp only [Bool.and_eq_true]; exact ⟨⟨h1.1.1.2, h1.1.2⟩, h1.2⟩)) hM C k
    · exact ai_body_ok (K := tb_K4) su4_ok (m4_x_ok hms n) tv_MT mid d cu st ys M (by unfold ai_body; rw [ai_norm_eq]; exact hq) hM C k
noncomputable def m4_c (ms : List mm_e) (cu : List Nat) (M : ai_m) (e : mm_e) : Bool := (m4_x ms 5000 e.1 M e.2.1 cu e.2.2.1).any fun xs => mm_el mm_es xs e.2.2.2
theorem m4_mk {ms : List mm_e} {cu : List Nat} {M : ai_m} {e : mm_e} (hms : ∀ e ∈ ms, m4_ok e) (hM : tb_MT[e.1]? = some M) (h : m4_c ms cu M e = true) : m4_ok e := by
  intro mid d cu' st ys M' hq hM' w0 ad p l en R s m args below meth c D tys A b L sx cells slots Q r0 C k
  dsimp only at hq
  split at hq
  · rename_i hc
    simp only [Bool.and_eq_true] at hc
    have hd := Nat.le_of_ble_eq_true hc.1.2
    have h3 := ai_beq.mp hc.1.1
    subst h3
    have h4 := mm_es_ok hc.2
    subst h4
    injection hq with hq
    subst hq
    rw [hM] at hM'
    injection hM' with hM'
    subst hM'
    unfold m4_c at h
    obtain ⟨xs, h1, h2⟩ := ai_anyE h
    have h2 := mm_el_ok mm_es_ok h2
    subst h2
    exact m4_x_ok hms 5000 e.1 e.2.1 cu e.2.2.1 _ M h1 hM (mm_cx hd C) k
  · cases hq
def lq (x : ai_s) (k i : Nat) (v : ai_v) : Bool := decide (ai_lk x.2.2.2.2.1 k i = some v)
/-- two places have the same value -/
def l2 (x : ai_s) (k i k' i' : Nat) : Bool := (ai_lk x.2.2.2.2.1 k i).any fun u => decide (u = (1, u.2.1, 0, u.2.2.2)) && (lq x k' i' u && Nat.blt u.2.1 x.2.2.2.1.length)
end
section
/-! names' values, and what a walk's end tells of them, as plain arithmetic -/
def nm (r : List Int) (k : Nat) : Int := (r[k]?).getD 0
theorem nm_of {r : List Int} {k : Nat} {z : Int} (h : r[k]? = some z) : nm r k = z := by
  unfold nm
  rw [h]
  rfl
theorem nm_x {r r' : List Int} {k : Nat} {z : Int} (e : ai_x r r') (h : r[k]? = some z) : nm r' k = z := nm_of (e.at h)
def bnd_b (r : List Int) : Nat → List ai_e → Prop
  | _, [] => True
  | k, e :: en => (e.1 ≤ nm r k ∧ nm r k ≤ e.2.1) ∧ bnd_b r (k + 1) en
theorem bnd_go {r : List Int} : ∀ {en : List ai_e} {k : Nat}, (∀ (j : Nat) (e : ai_e), en[j]? = some e → e.1 ≤ nm r (k + j) ∧ nm r (k + j) ≤ e.2.1) → bnd_b r k en
  | [], _, _ => trivial
  | e :: en, k, h => by
    refine ⟨h 0 e rfl, bnd_go (en := en) (k := k + 1) fun j e' hj => ?_⟩
    have := h (j + 1) e' hj
    rw [show k + (j + 1) = k + 1 + j by omega] at this
    exact this
theorem bnd_ok {r : List Int} {en : List ai_e} (h : ai_ok r en) : bnd_b r 0 en := bnd_go fun j e hj => by
  obtain ⟨z, h1, h2⟩ := h.name hj
  rw [Nat.zero_add, nm_of h1]
  exact ⟨h2.1, h2.2.1⟩
def lin_q (r : List Int) (q : ai_b) : Prop :=
  if q.1 = 0 then nm r q.2.1 - nm r q.2.2.1 = nm r q.2.2.2.1 + q.2.2.2.2
  else if q.1 = 1 then (nm r q.2.1 + nm r q.2.2.1 + q.2.2.2.2 - nm r q.2.2.2.1) % 4294967296 = 0
  else if q.1 = 2 then nm r q.2.1 + nm r q.2.2.1 + q.2.2.2.2 = nm r q.2.2.2.1
  else if q.1 = 4 then nm r q.2.1 < nm r q.2.2.1 + q.2.2.2.2
  else if q.1 = 5 then nm r q.2.2.1 + q.2.2.2.2 ≤ nm r q.2.1
  else if q.1 = 140 then nm r q.2.1 ≠ nm r q.2.2.1 + q.2.2.2.2
  else if q.1 = 141 then nm r q.2.2.2.1 = min (nm r q.2.1) (nm r q.2.2.1 + q.2.2.2.2)
  else if q.1 = 142 then nm r q.2.2.2.1 = max (nm r q.2.1) (nm r q.2.2.1 + q.2.2.2.2)
  else if q.1 = 152 then nm r q.2.2.2.1 = (nm r q.2.1 + q.2.2.2.2) / 2
  else if q.1 = 154 then nm r q.2.2.2.1 = (nm r q.2.1 + q.2.2.2.2) / 4
  else if q.1 = 502 then nm r q.2.2.2.1 = 2 * (nm r q.2.1 + q.2.2.2.2)
  else if q.1 = 540 then nm r q.2.2.2.1 = 40 * (nm r q.2.1 + q.2.2.2.2)
  else True
def lin_b (r : List Int) : List ai_b → Prop
  | [] => True
  | q :: sb => lin_q r q ∧ lin_b r sb
theorem lin_qok {w0 : va_W} {r : List Int} {sb : List ai_b} (h : ai_sb w0 r sb) {q : ai_b} (hq : q ∈ sb) : lin_q r q := by
  obtain ⟨za, zb, zr, h1, h2, h3, e0, e1, e2, e4, e5, e9⟩ := h q hq
  unfold lin_q
  rw [nm_of h1, nm_of h2, nm_of h3]
  by_cases c0 : q.1 = 0
  · rw [if_pos c0]; exact e0 c0
  rw [if_neg c0]
  by_cases c1 : q.1 = 1
  · rw [if_pos c1]; exact e1 c1
  rw [if_neg c1]
  by_cases c2 : q.1 = 2
  · rw [if_pos c2]; exact e2 c2
  rw [if_neg c2]
  by_cases c4 : q.1 = 4
  · rw [if_pos c4]; exact e4 c4
  rw [if_neg c4]
  by_cases c5 : q.1 = 5
  · rw [if_pos c5]; exact e5 c5
  rw [if_neg c5]
  by_cases cb : q.1 = 140 ∨ q.1 = 141 ∨ q.1 = 142 ∨ q.1 = 152 ∨ q.1 = 154 ∨ q.1 = 502 ∨ q.1 = 540
  · obtain ⟨ya, yr, f1, f2, -, -, f5, f6, f7, f8, f9⟩ := (e9 (by omega)).2.1 (by omega)
    rw [h1] at f1
    rw [h3] at f2
    cases f1
    cases f2
    by_cases d0 : q.1 = 140
    · rw [if_pos d0]
      obtain ⟨yb, b1, b2⟩ := f6 d0
      rw [h2] at b1
      cases b1
      exact b2
    rw [if_neg d0]
    by_cases d1 : q.1 = 141
    · rw [if_pos d1]
      obtain ⟨yb, b1, b2⟩ := f7 d1
      rw [h2] at b1
      cases b1
      exact b2
    rw [if_neg d1]
    by_cases d2 : q.1 = 142
    · rw [if_pos d2]
      obtain ⟨yb, b1, b2⟩ := f8 d2
      rw [h2] at b1
      cases b1
      exact b2
    rw [if_neg d2]
    by_cases d3 : q.1 = 152
    · rw [if_pos d3]
      have := f9 (by omega) (by omega)
      rw [d3] at this
      exact this
    rw [if_neg d3]
    by_cases d4 : q.1 = 154
    · rw [if_pos d4]
      have := f9 (by omega) (by omega)
      rw [d4] at this
      exact this
    rw [if_neg d4]
    by_cases d5 : q.1 = 502
    · rw [if_pos d5]
      have := f5 (by omega)
      rw [d5] at this
      exact this
    rw [if_neg d5]
    by_cases d6 : q.1 = 540
    · rw [if_pos d6]
      have := f5 (by omega)
      rw [d6] at this
      exact this
    rw [if_neg d6]
    trivial
  · rw [if_neg (by omega), if_neg (by omega), if_neg (by omega), if_neg (by omega), if_neg (by omega), if_neg (by omega), if_neg (by omega)]
    trivial
theorem lin_go {r : List Int} : ∀ {sb : List ai_b}, (∀ q ∈ sb, lin_q r q) → lin_b r sb
  | [], _ => trivial
  | q :: sb, h => ⟨h q List.mem_cons_self, lin_go fun k hk => h k (List.mem_cons_of_mem _ hk)⟩
theorem lin_ok {w0 : va_W} {r : List Int} {sb : List ai_b} (h : ai_sb w0 r sb) : lin_b r sb := lin_go fun _ hq => lin_qok h hq
/-! a walk's end told by what is wanted of it: place, locals, stack, values at places, names, facts -/
abbrev sm_t : Type := Nat × List (Nat × ai_v) × List ai_v × List ai_v × List ai_e × List ai_b
def sm_vs (x : ai_s) (n : Nat) : List (Nat × Nat) → List ai_v → Bool
  | [], [] => true
  | p :: pl, v :: vs => decide (ai_lk x.2.2.2.2.1 p.1 p.2 = some v) && (decide (v = (1, v.2.1, 0, v.2.2.2)) && (Nat.blt v.2.1 n && sm_vs x n pl vs))
  | _, _ => false
def sm_is (pl : List (Nat × Nat)) (x : ai_s) (s : sm_t) : Bool :=
  Nat.beq x.1 s.1 && ((s.2.1.all fun q => decide (ai_get x.2.1 q.1 = some q.2)) && (mm_el mm_ev x.2.2.1 s.2.2.1 && (sm_vs x x.2.2.2.1.length pl s.2.2.2.1 && (mm_el mm_ee x.2.2.2.1 s.2.2.2.2.1 && mm_el mm_eb x.2.2.2.2.2 s.2.2.2.2.2))))
/-- the values at places -/
def sm_vi (ws : va_W) (r : List Int) : List (Nat × Nat) → List ai_v → Prop
  | p :: pl, v :: vs => vi ws p.1 p.2 (nm r v.2.1 + v.2.2.2) ∧ sm_vi ws r pl vs
  | _, _ => True
theorem sm_vi_ok {ad : List Nat} {b : Nat} {r : List Int} {ws : va_W} {x : ai_s} (g1 : ai_ok r x.2.2.2.1) (g6 : ai_kn ad b r ws x.2.2.2.2.1) : ∀ {pl : List (Nat × Nat)} {vs : List ai_v}, sm_vs x x.2.2.2.1.length pl vs = true → sm_vi ws r pl vs
  | [], [], _ => trivial
  | [], _ :: _, h => by cases h
  | _ :: _, [], h => by cases h
  | p :: pl, v :: vs, h => by
    have h : (decide (ai_lk x.2.2.2.2.1 p.1 p.2 = some v) && (decide (v = (1, v.2.1, 0, v.2.2.2)) && (Nat.blt v.2.1 x.2.2.2.1.length && sm_vs x x.2.2.2.1.length pl vs))) = true := h
    rw [Bool.and_eq_true, Bool.and_eq_true, Bool.and_eq_true, decide_eq_true_eq, decide_eq_true_eq] at h
    obtain ⟨h1, h2, h3, h4⟩ := h
    have hl : v.2.1 < r.length := by rw [g1.1]; exact Nat.le_of_ble_eq_true h3
    have hz : r[v.2.1]? = some r[v.2.1] := List.getElem?_eq_getElem hl
    rw [h2] at h1
    exact ⟨vi.lk g6 h1 hz (by rw [nm_of hz]), sm_vi_ok g1 g6 h4⟩
theorem lo_pick {ad : List Nat} {b : Nat} {r : List Int} {lo : List (Nat × ai_v)} {lv : List (Nat × Value)} (h : ai_lo ad b r lo lv) : ∀ (L : List (Nat × ai_v)), (L.all fun q => decide (ai_get lo q.1 = some q.2)) = true → ∃ lv2, ai_lo ad b r L lv2 ∧ ∀ q ∈ lv2, q ∈ lv
  | [], _ => ⟨[], trivial, fun q hq => by cases hq⟩
  | q :: L, hq => by
    rw [List.all_cons, Bool.and_eq_true, decide_eq_true_eq] at hq
    obtain ⟨k, x, a1, a2⟩ := ai_get_ok h hq.1
    obtain ⟨lv2, b1, b2⟩ := lo_pick h L hq.2
    refine ⟨(q.1, x) :: lv2, ⟨rfl, a2, b1⟩, fun y hy => ?_⟩
    rcases List.mem_cons.mp hy with rfl | hy
    · exact List.mem_of_getElem? a1
    · exact b2 y hy
section HSM
variable {ad : List Nat} {M : ai_m} {d : Nat} {p : Program} {l : Launch} {e : Env} {R : Room} {s : State} {m : MethodId} {args : Array Value} {below : List Frame} {meth : Method} {c : Code} {D : va_G} {tys : ai_ty} {A : Nat → Prop} {b L : Nat} {sx : Nat → Int32} {cells slots : Nat} {Q : State → Prop}
/-- a stretch by its summary -/
theorem hsum {WR : List (Nat × Nat × Nat)} {n mid : Nat} {cu : List Nat} {st : ai_s} {pl : List (Nat × Nat)} {S : List sm_t} (h : ((ai_ex (hk WR) n mid M d cu st).any fun xs => xs.all fun x => S.any fun t => sm_is pl x t) = true) (hM : tb_MT[mid]? = some M) (C : ai_cx M d p R s m args c D tys A b L sx cells slots) {r : List Int} {lv : List (Nat × Value)} {sk : List Value} {ws : va_W} (g : ai_gm tb_TY WR ws ad b L sx tys M.2.2.2.2.1 r st lv sk ws)
    (k : ∀ t ∈ S, ∀ (r' : List Int) (lv' : List (Nat × Value)) (sk' : List Value) (ws' : va_W), ai_x r r' → bnd_b r' 0 t.2.2.2.2.1 → lin_b r' t.2.2.2.2.2 → ai_sb ws r' t.2.2.2.2.2 → ai_lo ad b r' t.2.1 lv' → ai_sk ad b r' t.2.2.1 sk' → ai_wd tb_TY ad tys ws' → sm_vi ws' r' pl t.2.2.2.1 → ai_fr WR ws ws' → (M.2.2.2.2.1 = true → ai_sx L sx r') → hG M p l e R s m args below meth c D A cells slots Q t.1 lv' sk' ws') : hG M p l e R s m args below meth c D A cells slots Q st.1 lv sk ws := by
  obtain ⟨xs, h1, h2⟩ := ai_anyE h
  refine hseg h1 hM C g (fun x hx r' lv' sk' ws' hx' g' => ?_)
  obtain ⟨g1, g2, g3, g4, g5, g6, g7, g8⟩ := g'
  obtain ⟨t, ht, hs⟩ := List.any_eq_true.mp (List.all_eq_true.mp h2 x hx)
  unfold sm_is at hs
  rw [Bool.and_eq_true, Bool.and_eq_true, Bool.and_eq_true, Bool.and_eq_true, Bool.and_eq_true] at hs
  obtain ⟨s1, s2, s3, s4, s5, s6⟩ := hs
  have e1 := ai_beq.mp s1
  have e3 := mm_el_ok mm_ev_ok s3
  have e5 := mm_el_ok mm_ee_ok s5
  have e6 := mm_el_ok mm_eb_ok s6
  obtain ⟨lv2, l1, l2⟩ := lo_pick g3 t.2.1 s2
  rw [e1]
  intro H locs ls hP hD hS hl
  exact k t ht r' lv2 sk' ws' hx' (by rw [← e5]; exact bnd_ok g1) (by rw [← e6]; exact lin_ok g2) (by rw [← e6]; exact g2) l1 (by rw [← e3]; exact g4) g5 (sm_vi_ok g1 g6 s4) g7 g8 H locs ls hP hD hS ⟨hl.1, hl.2.1, fun q hq => hl.2.2 q (l2 q hq)⟩
end HSM
/-! a call by hand: a method of an object, with ints, that answers an int -/
section HCI
variable {ad : List Nat} {M : ai_m} {d : Nat} {p : Program} {l : Launch} {e : Env} {R : Room} {s : State} {m : MethodId} {args : Array Value} {below : List Frame} {meth : Method} {c : Code} {D : va_G} {tys : ai_ty} {A : Nat → Prop} {b L : Nat} {sx : Nat → Int32} {cells slots : Nat} {Q : State → Prop}
theorem hcallI {q : ai_l5} {M' : ai_m} {pc cl a : Nat} {t : ai_c} {rets : List Nat} {P : va_W → Int32 → Prop} {ws : va_W} {As rest : List Value} {lv : List (Nat × Value)}
    (C : ai_cx M d p R s m args c D tys A b L sx cells slots) (hd1 : 1 ≤ d) (hdec : decode M.2.1 pc = .ok (.invokevirtual q.1, 3)) (hlok : ai_lok tb_MT M.1.cls q) (hq0 : q.2.1 = 0) (hq1 : q.2.2.2.1 = As.length) (hM' : tb_MT[q.2.2.1]? = some M') (hsc : M'.2.2.2.2.1 = false) (hml : M'.2.2.1 ≤ 17) (hm1 : (lg_sl (.ref a :: As)).length ≤ M'.2.2.1) (hv : M'.2.2.2.1 = some .int)
    (ht : tb_TY[cl]? = some t) (t0 : t.1 = 0) (t1 : t.2.1 = q.2.2.2.2) (hw : ai_wd tb_TY ad tys ws) (ha : ad[cl]? = some a) (hrest : (rest.map fun v => v.category).sum ≤ 8)
    (hr : ∀ pcr ∈ rets, decode M'.2.1 pcr = .ok (.ireturn, 1))
    (callee : ∀ {p : Program} {e : Env} {R : Room} {s : State} {m : MethodId} {args : Array Value} {below : List Frame} {meth : Method} {c : Code} {Q : State → Prop}, ai_cx M' (d - 1) p R s m args c D tys A b L sx 0 0 → (∀ (pcr : Nat) (ws' : va_W) (z : Int32) (lv' : List (Nat × Value)), pcr ∈ rets → P ws' z → hG M' p l e R s m args below meth c D A 0 0 Q pcr lv' [.int z] ws') → hG M' p l e R s m args below meth c D A 0 0 Q 0 (lv_args 0 (.ref a :: As)) [] ws)
    (k : ∀ ws' z, P ws' z → hG M p l e R s m args below meth c D A cells slots Q (pc + 3) lv (.int z :: rest) ws') : hG M p l e R s m args below meth c D A cells slots Q pc lv (As.reverse ++ .ref a :: rest) ws := by
  intro H locs ls hP hD hS hl
  obtain ⟨a', e1, w1, w2, w3⟩ := hw.get ht
  cases Option.some.inj (ha.symm.trans w2)
  unfold ai_lok at hlok
  rw [hq0] at hlok
  obtain ⟨M2, rr, m1, m2, m3, m4⟩ := hlok
  rw [hM'] at m1
  cases m1
  obtain ⟨hok, hpl⟩ := (tv_MT M' (List.mem_of_getElem? hM')).1
  have hA : ∀ q, H.size ≤ q → A q := fun q hq => C.2.2.2.2.2.2.2.1 q (Nat.le_trans hS.1 hq)
  have met : Met l M'.1 (ai_ws M') (ai_rm (d - 1)) (va_Pc (.ref a :: As) (fun U => U.heap = H ∧ va_K D vwCl tys U ∧ ai_nj A U)) (hb_Q P D A) 0 0 A := by
    refine Met.ofW (cc := M'.2.1) (maxL := M'.2.2.1) (ret := M'.2.2.2.1) hpl rfl ?_
    intro p e s m args below meth c s₁ B hmL hv'
    obtain ⟨rfl, hH, hK, hN⟩ := hv'
    have hts := atoms_spec (ws := ai_ws M') B.pre
    have hown : s.vm.findClass M'.1.cls = some m.cls := findClass_of_methodNamed B.named
    have C' : ai_cx M' (d - 1) p (headSpec (ai_ws M') (ai_rm (d - 1))).room s m (Value.ref a :: As : List Value).toArray c D tys A b L sx 0 0 :=
      ⟨B.exec, B.bytes, hmL, hown, fun w h => hts w (List.mem_cons_of_mem _ h), hN, hK, fun q hq => hA q (by rw [← hH]; exact hq), ⟨Nat.le_refl _, Nat.le_refl _, Nat.zero_le _, Nat.zero_le _⟩, fun h => by rw [hsc] at h; cases h⟩
    have hl' := lv_entry (Value.ref a :: As) (n := M'.2.2.1) (by exact hm1)
    rw [lg_entry_eq]
    have hh : s.heap = H := hH
    refine callee C' (fun pcr ws' z lv' hpr hPw => ?_) s.heap [] _ (by rw [hh]; exact hP) hD va_S.rf hl'
    intro H2 locs2 ls2 hP2 hD2 hS2 hl2
    exact W.iret C'.1 C'.2.1 (B.returns.trans hv) (fun t ht hW => ⟨⟨ws', z, hPw, by rw [ht]; exact hP2, hD2, rfl⟩, hS2.F ht⟩) hS2.2.2 (hr pcr hpr) B.notSynchronized
  rcases w3 with ⟨-, fs, rfl, -⟩ | ⟨q1, -⟩ | ⟨q1, -⟩ | ⟨q1, -⟩
  · rw [t1] at w1
    refine ai_callW (va_runV (C := rr.1) (As := As) (rest := rest) (Ts := ai_GT) (own := M.1.cls) ⟨C.1, C.2.1, C.2.2.1, C.2.2.2.1, C.2.2.2.2.1⟩ met (cwV q.2.2.2.1 C.2.2.2.2.1 m3 rfl rfl rfl m4 (ai_roomOK C hd1 hml)) ⟨ai_PcB, va_recv C.2.2.2.2.2.2.1 hP m2 w1, ai_PcW C hS⟩ rfl hq1.symm hl.1 rfl (lv_room hrest) hdec ⟨C.2.2.2.2.2.2.2.2.1.2.2.1, C.2.2.2.2.2.2.2.2.1.2.2.2⟩) (fun v0 st₀ t LL h0 hL hQ => ?_)
    obtain ⟨⟨ws', z, p1, p2, p3, p4⟩, hF⟩ := hQ
    injection p4 with p4
    subst p4
    exact k ws' z p1 t.heap (locs ++ LL) ls p2 p3 (ai_SF hS h0 hF hL) hl
  · omega
  · omega
  · omega
end HCI
end
