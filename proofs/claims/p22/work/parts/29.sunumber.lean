/-! takeNumber as a known method, with its facts -/
def su_tn (WR : List (Nat × Nat × Nat)) (st : ai_s) : Option (List ai_s) :=
  (ai_lk st.2.2.2.2.1 26 9).bind fun v => (ai_lk st.2.2.2.2.1 26 7).bind fun w =>
    if v.1 = 1 ∧ w.1 = 1 ∧ v.2.2.2 = 0 ∧ w.2.2.2 = 0 ∧ st.2.1 = tn_lo ∧ st.2.2.1 = [] ∧ ai_wr WR 26 8 8 = true ∧ ai_wr WR 26 10 10 = true ∧ nowr WR 27 = true ∧ ai_z st.2.2.2.1 = true then
      some [(18, [], [], st.2.2.2.1, (26, 8, (1, 0, 0, 4)) :: ai_dr (ai_dr st.2.2.2.2.1 26 8 8) 26 10 10, (5, w.2.1, v.2.1, w.2.1, 3) :: st.2.2.2.2.2),
        (69, [], [], ai_nu st.2.2.2.1 (-2147483648) 2147483647, (26, 8, (1, 0, 0, 2)) :: (26, 10, (1, st.2.2.2.1.length, 0, 0)) :: ai_dr (ai_dr st.2.2.2.2.1 26 8 8) 26 10 10, (330, v.2.1, w.2.1, st.2.2.2.1.length, 0) :: (4, w.2.1, v.2.1, w.2.1, 3) :: st.2.2.2.2.2)] else none
theorem wr2 {k j : Nat} (h1 : ¬ (k = 26 ∧ j = 8)) (h2 : ¬ (k = 26 ∧ j = 10)) : ai_wr tn_WR k j j = false := by
  unfold ai_wr tn_WR
  rw [List.any_eq_false]
  intro q hq hx
  rcases List.mem_cons.mp hq with rfl | hq
  · simp only [Bool.and_eq_true, Bool.or_eq_true, decide_eq_true_eq] at hx
    omega
  · rw [List.mem_singleton.mp hq] at hx
    simp only [Bool.and_eq_true, Bool.or_eq_true, decide_eq_true_eq] at hx
    omega
theorem su_tn_ok {WR : List (Nat × Nat × Nat)} {d : Nat} {st : ai_s} {xs : List ai_s} (hq : su_tn WR st = some xs) (h0 : st.1 = 0) (hd : 3 ≤ d) {w0 : va_W} {ad : List Nat} {p : Program} {l : Launch} {e : Env} {R : Room} {s : State} {m : MethodId} {args : Array Value} {below : List Frame} {meth : Method} {c : Code} {D : va_G} {tys : ai_ty} {A : Nat → Prop} {b L : Nat} {sx : Nat → Int32} {cells slots : Nat} {Q : State → Prop} {r0 : List Int}
    (C : ai_cx tb_m36 d p R s m args c D tys A b L sx cells slots) (k : ∀ x ∈ xs, ai_G tb_TY WR w0 ad tb_m36 p l e R s m args below meth c D tys A b L sx cells slots Q r0 x) : ai_G tb_TY WR w0 ad tb_m36 p l e R s m args below meth c D tys A b L sx cells slots Q r0 st := by
  unfold su_tn at hq
  obtain ⟨v, v1, hq⟩ := Option.bind_eq_some_iff.mp hq
  obtain ⟨w, w1, hq⟩ := Option.bind_eq_some_iff.mp hq
  split at hq
  · rename_i hc
    obtain ⟨c1, c2, c3, c4, c5, c6, c7, c8, c9, c10⟩ := hc
    injection hq with hq
    subst hq
    intro r lv sk ws H locs ls hx g hP hD hS hl
    obtain ⟨g1, g2, g3, g4, g5, g6, g7, g8⟩ := g
    have hsk : sk = [] := by rw [c6] at g4; exact g4.nil
    subst hsk
    rw [h0]
    obtain ⟨x1, s1, d1⟩ := ai_lk_ok g6 v1
    obtain ⟨x2, s2, d2⟩ := ai_lk_ok g6 w1
    obtain ⟨zf, rfl⟩ : ∃ i : Int32, x1 = .int i := by
      rcases d1 with ⟨q, -⟩ | ⟨-, z, i, -, q2, -⟩ | ⟨q, -⟩ | ⟨q, -⟩ | ⟨q, -⟩
      · omega
      · exact ⟨i, q2⟩
      all_goals omega
    obtain ⟨ze, rfl⟩ : ∃ i : Int32, x2 = .int i := by
      rcases d2 with ⟨q, -⟩ | ⟨-, z, i, -, q2, -⟩ | ⟨q, -⟩ | ⟨q, -⟩ | ⟨q, -⟩
      · omega
      · exact ⟨i, q2⟩
      all_goals omega
    obtain ⟨za, a1, a2⟩ := ai_dv1 d1 c1
    obtain ⟨zb, b1, b2⟩ := ai_dv1 d2 c2
    rw [c3] at a2
    rw [c4] at b2
    obtain ⟨f0, f1⟩ := f267 (i := 9) g5 s1 rfl
    obtain ⟨e0, e1⟩ := f267 (i := 7) g5 s2 rfl
    have r00 : r[0]? = some 0 := ai_z_ok g1 c10
    have keep : ∀ (ws' : va_W) (r' : List Int), ai_fr tn_WR ws ws' → ai_x r r' → ∀ q ∈ ai_dr (ai_dr st.2.2.2.2.1 26 8 8) 26 10 10, ∃ x, ai_sl ws' q.1 q.2.1 x ∧ ai_dv ad b r' q.2.2 x := fun ws' r' hf hx' q hq => by
      obtain ⟨q1, q2⟩ := dr_out hq
      obtain ⟨q3, q4⟩ := dr_out q1
      obtain ⟨x, k1, k2⟩ := g6 q q3
      exact ⟨x, hf _ _ _ (wr2 q4 q2) k1, k2.mono hx'⟩
    have fr : ∀ ws' : va_W, ai_fr tn_WR ws ws' → ai_fr WR w0 ws' := fun ws' hf cc i x hwr hsl => by
      refine hf cc i x (wr2 (fun h => ?_) (fun h => ?_)) (g7 cc i x hwr hsl)
      · rw [h.1, h.2, c7] at hwr
        cases hwr
      · rw [h.1, h.2, c8] at hwr
        cases hwr
    have z8 : ∀ (r' : List Int), ai_x r r' → ∀ (z : Int32) (t : Int), z.toInt = t → ai_dv ad b r' (1, 0, 0, t) (.int z) := fun r' hx' z t hz => Or.inr (Or.inl ⟨rfl, 0, z, hx'.at r00, rfl, by rw [hz]; show t = 0 + t; omega⟩)
    refine tn_all (g := fx_at ws 27) (mm_cx hd C) g5 s1 s2 f0 f1 e0 e1 (fx_g g5) (lo0_ok r00 rfl rfl (by rw [← c5]; exact g3)) (fun ws' lv' hw' hf h8 hgt => ?_) (fun ws' lv' zv hw' hf h8 h10 hle hnum => ?_) H locs ls hP hD hS hl
    · intro H' locs' ls' hP' hD' hS' hl'
      refine k _ (List.mem_of_getElem? (i := 0) rfl) r [] [] ws' H' locs' ls' hx ⟨g1, ?_, trivial, trivial, hw', ?_, fr ws' hf, fun h => by cases h⟩ hP' hD' hS' ⟨hl'.1, hl'.2.1, fun q hq => by cases hq⟩
      · intro q hq
        rcases List.mem_cons.mp hq with rfl | hq
        · exact ⟨zb, za, zb, b1, a1, b1, fun h => absurd (show (5 : Nat) = 0 from h) (by decide), fun h => absurd (show (5 : Nat) = 1 from h) (by decide), fun h => absurd (show (5 : Nat) = 2 from h) (by decide), fun h => absurd (show (5 : Nat) = 4 from h) (by decide), fun _ => (by show za + 3 ≤ zb; omega), fun h => absurd (show (100 : Nat) ≤ 5 from h) (by decide)⟩
        · exact g2 q hq
      · intro q hq
        rcases List.mem_cons.mp hq with rfl | hq
        · exact ⟨_, h8, z8 r ai_x.rf 4 4 rfl⟩
        · exact keep ws' r hf ai_x.rf q hq
    · intro H' locs' ls' hP' hD' hS' hl'
      refine k _ (List.mem_of_getElem? (i := 1) rfl) (r ++ [zv.toInt]) [] [] ws' H' locs' ls' (hx.tr ai_x.push) ⟨g1.nu (Int32.le_toInt _) (Int32.toInt_le _), ?_, trivial, trivial, hw', ?_, fr ws' hf, fun h => by cases h⟩ hP' hD' hS' ⟨hl'.1, hl'.2.1, fun q hq => by cases hq⟩
      · intro q hq
        rcases List.mem_cons.mp hq with rfl | hq
        · refine ⟨za, zb, zv.toInt, ai_x.push.at a1, ai_x.push.at b1, ai_last g1.1, fun h => absurd (show (330 : Nat) = 0 from h) (by decide), fun h => absurd (show (330 : Nat) = 1 from h) (by decide), fun h => absurd (show (330 : Nat) = 2 from h) (by decide), fun h => absurd (show (330 : Nat) = 4 from h) (by decide), fun h => absurd (show (330 : Nat) = 5 from h) (by decide), fun _ => ⟨fun h => absurd (show (1000 : Nat) ≤ 330 from h) (by decide), fun h => absurd (show (330 : Nat) < 300 ∨ (500 ≤ 330 ∧ 330 < 1000) from h) (by decide), fun g hg => ⟨fun _ h => absurd (show (330 : Nat) < 305 from h) (by decide), fun _ h => absurd (show (330 : Nat) < 318 from h) (by decide), fun _ h => absurd (show (330 : Nat) < 323 from h) (by decide), fun h => absurd (show (400 : Nat) ≤ 330 from h) (by decide), fun _ => ⟨za, zb, zv.toInt, ai_x.push.at a1, ai_x.push.at b1, ai_last g1.1, by omega, by omega, ?_⟩⟩, fun h => absurd (show (330 : Nat) = 350 from h) (by decide)⟩⟩
          rw [hnum, show zf.toInt = za by omega, show ze.toInt = zb by omega]
          unfold tp_num
          split
          · rfl
          · split
            · rw [tape_now g5 g7 c9 hg _ (by omega)]
            · rw [tape_now g5 g7 c9 hg _ (by omega), tape_now g5 g7 c9 hg _ (by omega)]
        · rcases List.mem_cons.mp hq with rfl | hq
          · exact ⟨zb, za, zb, ai_x.push.at b1, ai_x.push.at a1, ai_x.push.at b1, fun h => absurd (show (4 : Nat) = 0 from h) (by decide), fun h => absurd (show (4 : Nat) = 1 from h) (by decide), fun h => absurd (show (4 : Nat) = 2 from h) (by decide), fun _ => (by show zb < za + 3; omega), fun h => absurd (show (4 : Nat) = 5 from h) (by decide), fun h => absurd (show (100 : Nat) ≤ 4 from h) (by decide)⟩
          · exact g2.mono ai_x.push q hq
      · intro q hq
        rcases List.mem_cons.mp hq with rfl | hq
        · exact ⟨_, h8, z8 _ ai_x.push 2 2 rfl⟩
        · rcases List.mem_cons.mp hq with rfl | hq
          · exact ⟨_, h10, Or.inr (Or.inl ⟨rfl, _, _, ai_last g1.1, rfl, by show zv.toInt = zv.toInt + 0; omega⟩)⟩
          · exact keep ws' _ hf ai_x.push q hq
  · cases hq
