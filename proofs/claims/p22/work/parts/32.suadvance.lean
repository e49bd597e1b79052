/-! advance as a known method: five ends, each with its token -/
theorem tp_num_congr {g g' : Nat → Int} {n f e : Nat} (hn : n ≤ 160) (he : e ≤ n) (h2 : ¬ 2 < e - f) (h : ∀ i, i < 160 → g i = g' i) : tp_num g f e = tp_num g' f e := by
  unfold tp_num
  split
  · rfl
  · split
    · rw [h f (by omega)]
    · rw [h f (by omega), h (f + 1) (by omega)]
theorem sp_tok_congr {g g' : Nat → Int} {n p : Nat} (hn : n ≤ 160) (h : ∀ i, i < 160 → g i = g' i) : sp_tok g n p = sp_tok g' n p := by
  have e : ∀ (lo hi : Int) (q : Nat), tp_skip g n lo hi q = tp_skip g' n lo hi q := fun lo hi q => tp_skip_congr (fun i hi => h i (by omega))
  unfold sp_tok
  simp only [e]
  generalize tp_skip g' n 32 32 p = F
  by_cases hF : n ≤ F
  · rw [if_pos hF, if_pos hF]
  · rw [if_neg hF, if_neg hF, h F (by omega)]
    have hle := (tp_skip_le (g := g') (n := n) (p := F) (lo := 48) (hi := 57)).2 (by omega)
    by_cases h2 : 2 < tp_skip g' n 48 57 F - F
    · rw [if_pos h2, if_pos h2]
    · rw [if_neg h2, if_neg h2, tp_num_congr hn hle h2 h]
theorem sp_tok_ok {g : Nat → Int} {n p t f e : Nat} {v : Int} (h : sp_tok g n p = (t, f, e, v)) : t ≤ 4 ∧ (t ≠ 2 → v = 0) := by
  unfold sp_tok at h
  split at h
  · cases h; exact ⟨by decide, fun _ => rfl⟩
  · split at h
    · cases h; exact ⟨by decide, fun _ => rfl⟩
    · split at h
      · cases h; exact ⟨by decide, fun _ => rfl⟩
      · split at h
        · split at h
          · cases h; exact ⟨by decide, fun _ => rfl⟩
          · cases h; exact ⟨by decide, fun hc => absurd rfl hc⟩
        · cases h; exact ⟨by decide, fun _ => rfl⟩
def av_en (en : List ai_e) : List ai_e := ai_nu (ai_nu (ai_nu en 0 160) 0 160) (-2147483648) 2147483647
def av_end (st : ai_s) (v w : ai_v) (k : Nat) : ai_s := (141, [], [], av_en st.2.2.2.1, (26, 7, (1, st.2.2.2.1.length + 1, 0, 0)) :: (26, 8, (1, 0, 0, (k : Int))) :: (26, 9, (1, st.2.2.2.1.length, 0, 0)) :: ((if Nat.beq k 2 = true then [(26, 10, (1, st.2.2.2.1.length + 2, 0, 0))] else []) ++ ai_dr st.2.2.2.2.1 26 7 10), (300 + k, v.2.1, w.2.1, st.2.2.2.1.length, v.2.2.2) :: st.2.2.2.2.2)
def su_av (WR : List (Nat × Nat × Nat)) (st : ai_s) : Option (List ai_s) :=
  (ai_lk st.2.2.2.2.1 26 7).bind fun v => (ai_lk st.2.2.2.2.1 26 1).bind fun w =>
    if v.1 = 1 ∧ w.1 = 1 ∧ w.2.2.2 = 0 ∧ st.2.1 = tn_lo ∧ st.2.2.1 = [] ∧ (ai_wr WR 26 7 7 = true ∧ ai_wr WR 26 8 8 = true ∧ ai_wr WR 26 9 9 = true ∧ ai_wr WR 26 10 10 = true) ∧ nowr WR 27 = true ∧ ai_z st.2.2.2.1 = true then
      some ((List.range 5).map (av_end st v w)) else none
theorem dr_outR {kn : List ai_k} {c lo hi : Nat} {q : ai_k} (h : q ∈ ai_dr kn c lo hi) : q ∈ kn ∧ ¬ (q.1 = c ∧ lo ≤ q.2.1 ∧ q.2.1 ≤ hi) := by
  unfold ai_dr at h
  obtain ⟨h1, h2⟩ := List.mem_filter.mp h
  refine ⟨h1, fun hc => ?_⟩
  rw [Bool.not_eq_true', Bool.and_eq_false_iff] at h2
  rcases h2 with h2 | h2
  · rw [ai_beq.mpr hc.1] at h2
    cases h2
  · rw [Bool.and_eq_false_iff] at h2
    rcases h2 with h2 | h2
    · rw [Nat.ble_eq_true_of_le hc.2.1] at h2
      cases h2
    · rw [Nat.ble_eq_true_of_le hc.2.2] at h2
      cases h2
theorem wrv {k j : Nat} (h : ¬ (k = 26 ∧ 7 ≤ j ∧ j ≤ 10)) : ai_wr av_WR k j j = false := by
  unfold ai_wr av_WR
  rw [List.any_eq_false]
  intro q hq hx
  rw [List.mem_singleton.mp hq] at hx
  simp only [Bool.and_eq_true, Bool.or_eq_true, decide_eq_true_eq] at hx
  omega
theorem r3_at {r : List Int} {a b c : Int} {n : Nat} (h : r.length = n) : (((r ++ [a]) ++ [b]) ++ [c])[n]? = some a ∧ (((r ++ [a]) ++ [b]) ++ [c])[n + 1]? = some b ∧ (((r ++ [a]) ++ [b]) ++ [c])[n + 2]? = some c := by
  subst h
  refine ⟨?_, ?_, ?_⟩ <;> simp
theorem su_av_ok {WR : List (Nat × Nat × Nat)} {d : Nat} {st : ai_s} {xs : List ai_s} (hq : su_av WR st = some xs) (h0 : st.1 = 0) (hd : 4 ≤ d) {w0 : va_W} {ad : List Nat} {p : Program} {l : Launch} {e : Env} {R : Room} {s : State} {m : MethodId} {args : Array Value} {below : List Frame} {meth : Method} {c : Code} {D : va_G} {tys : ai_ty} {A : Nat → Prop} {b L : Nat} {sx : Nat → Int32} {cells slots : Nat} {Q : State → Prop} {r0 : List Int}
    (C : ai_cx tb_m34 d p R s m args c D tys A b L sx cells slots) (k : ∀ x ∈ xs, ai_G tb_TY WR w0 ad tb_m34 p l e R s m args below meth c D tys A b L sx cells slots Q r0 x) : ai_G tb_TY WR w0 ad tb_m34 p l e R s m args below meth c D tys A b L sx cells slots Q r0 st := by
  unfold su_av at hq
  obtain ⟨v, v1, hq⟩ := Option.bind_eq_some_iff.mp hq
  obtain ⟨w, w1, hq⟩ := Option.bind_eq_some_iff.mp hq
  split at hq
  · rename_i hc
    obtain ⟨c1, c2, c3, c4, c5, ⟨c6, c7, c8, c9⟩, c10, c11⟩ := hc
    injection hq with hq
    subst hq
    intro r lv sk ws H locs ls hx g hP hD hS hl
    obtain ⟨g1, g2, g3, g4, g5, g6, g7, g8⟩ := g
    have hsk : sk = [] := by rw [c5] at g4; exact g4.nil
    subst hsk
    rw [h0]
    obtain ⟨x1, s1, d1⟩ := ai_lk_ok g6 v1
    obtain ⟨x2, s2, d2⟩ := ai_lk_ok g6 w1
    obtain ⟨zp, rfl⟩ : ∃ i : Int32, x1 = .int i := by
      rcases d1 with ⟨q, -⟩ | ⟨-, z, i, -, q2, -⟩ | ⟨q, -⟩ | ⟨q, -⟩ | ⟨q, -⟩
      · omega
      · exact ⟨i, q2⟩
      all_goals omega
    obtain ⟨zn, rfl⟩ : ∃ i : Int32, x2 = .int i := by
      rcases d2 with ⟨q, -⟩ | ⟨-, z, i, -, q2, -⟩ | ⟨q, -⟩ | ⟨q, -⟩ | ⟨q, -⟩
      · omega
      · exact ⟨i, q2⟩
      all_goals omega
    obtain ⟨za, a1, a2⟩ := ai_dv1 d1 c1
    obtain ⟨zb, b1, b2⟩ := ai_dv1 d2 c2
    rw [c3] at b2
    obtain ⟨p0, p1⟩ := f267 (i := 7) g5 s1 rfl
    obtain ⟨n0, n1⟩ := f267 (i := 1) g5 s2 rfl
    have r00 : r[0]? = some 0 := ai_z_ok g1 c11
    refine av_all (g := fx_at ws 27) (mm_cx hd C) g5 s2 s1 (fx_g g5) (lo0_ok r00 rfl rfl (by rw [← c4]; exact g3)) (fun ws' lv' zt zf ze zv hw' hf h8 h9 h7 t0 f0 e0 htok hnum => ?_) H locs ls hP hD hS hl
    intro H' locs' ls' hP' hD' hS' hl'
    obtain ⟨t4, tv⟩ := sp_tok_ok htok
    obtain ⟨-, f1⟩ := f267 (i := 9) hw' h9 rfl
    obtain ⟨-, e1⟩ := f267 (i := 7) hw' h7 rfl
    have zvr : -2147483648 ≤ zv ∧ zv ≤ 2147483647 := by
      by_cases ht2 : zt.toInt = 2
      · obtain ⟨z10, -, h10⟩ := hnum ht2
        rw [← h10]
        exact ⟨Int32.le_toInt _, Int32.toInt_le _⟩
      · rw [tv (by omega)]
        omega
    have hr1 : r.length = st.2.2.2.1.length := g1.1
    have hx3 : ai_x r (((r ++ [zf.toInt]) ++ [ze.toInt]) ++ [zv]) := (ai_x.push.tr ai_x.push).tr ai_x.push
    obtain ⟨q1, q2, q3⟩ := r3_at (a := zf.toInt) (b := ze.toInt) (c := zv) hr1
    refine k _ (List.mem_map.mpr ⟨zt.toInt.toNat, List.mem_range.mpr (by omega), rfl⟩) (((r ++ [zf.toInt]) ++ [ze.toInt]) ++ [zv]) [] [] ws' H' locs' ls' (hx.tr hx3) ⟨((g1.nu f0 f1).nu e0 e1).nu zvr.1 zvr.2, ?_, trivial, trivial, hw', ?_, ?_, fun h => by cases h⟩ hP' hD' hS' ⟨hl'.1, hl'.2.1, fun q hq => by cases hq⟩
    · intro q hq
      rcases List.mem_cons.mp hq with rfl | hq
      · refine ⟨za, zb, zf.toInt, hx3.at a1, hx3.at b1, q1, fun h => absurd (show 300 + zt.toInt.toNat = 0 from h) (by omega), fun h => absurd (show 300 + zt.toInt.toNat = 1 from h) (by omega), fun h => absurd (show 300 + zt.toInt.toNat = 2 from h) (by omega), fun h => absurd (show 300 + zt.toInt.toNat = 4 from h) (by omega), fun h => absurd (show 300 + zt.toInt.toNat = 5 from h) (by omega), fun _ => ⟨fun h => absurd (show 1000 ≤ 300 + zt.toInt.toNat from h) (by omega), fun h => absurd (show 300 + zt.toInt.toNat < 300 ∨ (500 ≤ 300 + zt.toInt.toNat ∧ 300 + zt.toInt.toNat < 1000) from h) (by omega), fun g hg => ⟨fun _ _ => ⟨za, zb, zf.toInt, ze.toInt, zv, hx3.at a1, hx3.at b1, q1, q2, q3, by show 0 ≤ za + v.2.2.2; omega, f0, e0, ?_⟩, fun h => absurd (show 310 ≤ 300 + zt.toInt.toNat from h) (by omega), fun h => absurd (show 320 ≤ 300 + zt.toInt.toNat from h) (by omega), fun h => absurd (show 400 ≤ 300 + zt.toInt.toNat from h) (by omega), fun h => absurd (show 300 + zt.toInt.toNat = 330 from h) (by omega)⟩, fun h => absurd (show 300 + zt.toInt.toNat = 350 from h) (by omega)⟩⟩
        show sp_tok g zb.toNat (za + v.2.2.2).toNat = (300 + zt.toInt.toNat - 300, zf.toInt.toNat, ze.toInt.toNat, zv)
        rw [Nat.add_sub_cancel_left, ← htok, ← a2, show zb = zn.toInt by omega]
        exact (sp_tok_congr (by omega) (tape_now g5 g7 c10 hg)).symm
      · exact g2.mono hx3 q hq
    · intro q hq
      rcases List.mem_cons.mp hq with rfl | hq
      · exact kn1 h7 (n := st.2.2.2.1.length + 1) q2 (by omega)
      · rcases List.mem_cons.mp hq with rfl | hq
        · exact kn1 h8 (n := 0) (hx3.at r00) (by omega)
        · rcases List.mem_cons.mp hq with rfl | hq
          · exact kn1 h9 (n := st.2.2.2.1.length) q1 (by omega)
          · rcases List.mem_append.mp hq with hq | hq
            · split at hq
              · rename_i hk2
                have ht2 := ai_beq.mp hk2
                obtain ⟨z10, s10, h10⟩ := hnum (by omega)
                rw [List.mem_singleton.mp hq]
                exact kn1 s10 (n := st.2.2.2.1.length + 2) q3 (by omega)
              · cases hq
            · obtain ⟨k1, k2⟩ := dr_outR hq
              obtain ⟨x, k3, k4⟩ := g6 q k1
              exact ⟨x, hf _ _ _ (wrv k2) k3, k4.mono hx3⟩
    · intro cc i x hwr hsl
      refine hf cc i x (wrv (fun h => ?_)) (g7 cc i x hwr hsl)
      obtain ⟨i1, i2, i3⟩ := h
      have i4 : i = 7 ∨ i = 8 ∨ i = 9 ∨ i = 10 := by omega
      rw [i1] at hwr
      rcases i4 with rfl | rfl | rfl | rfl
      · rw [c6] at hwr; cases hwr
      · rw [c7] at hwr; cases hwr
      · rw [c8] at hwr; cases hwr
      · rw [c9] at hwr; cases hwr
  · cases hq
