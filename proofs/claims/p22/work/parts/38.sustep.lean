/-! step as a known method: five ends, each with its token over w0's tape, where the two tapes are alike -/
theorem tp_num_congrN {g g' : Nat → Int} {n f e : Nat} (he : e ≤ n) (h2 : ¬ 2 < e - f) (h : ∀ i, i < n → g i = g' i) : tp_num g f e = tp_num g' f e := by
  unfold tp_num
  split
  · rfl
  · split
    · rw [h f (by omega)]
    · rw [h f (by omega), h (f + 1) (by omega)]
theorem sp_tok_congrN {g g' : Nat → Int} {n p : Nat} (h : ∀ i, i < n → g i = g' i) : sp_tok g n p = sp_tok g' n p := by
  have e : ∀ (lo hi : Int) (q : Nat), tp_skip g n lo hi q = tp_skip g' n lo hi q := fun lo hi q => tp_skip_congr h
  unfold sp_tok
  simp only [e]
  generalize tp_skip g' n 32 32 p = F
  by_cases hF : n ≤ F
  · rw [if_pos hF, if_pos hF]
  · rw [if_neg hF, if_neg hF, h F (by omega)]
    have hle := (tp_skip_le (g := g') (n := n) (p := F) (lo := 48) (hi := 57)).2 (by omega)
    by_cases h2 : 2 < tp_skip g' n 48 57 F - F
    · rw [if_pos h2, if_pos h2]
    · rw [if_neg h2, if_neg h2, tp_num_congrN hle h2 h]
theorem tape_one {w0 : va_W} {g g' : Nat → Int} (h : fx_tape w0 g) (h' : fx_tape w0 g') (i : Nat) (hi : i < 160) : g i = g' i := by
  have := (h i hi).symm.trans (h' i hi)
  exact Option.some.inj this
def st_fact (sb : List ai_b) (n : Nat) : Bool := sb.any fun q => Nat.beq q.1 350 && Nat.beq q.2.1 n
theorem st_factok {w0 : va_W} {r : List Int} {sb : List ai_b} {n : Nat} {zn : Int} (g2 : ai_sb w0 r sb) (hn : r[n]? = some zn) (h : st_fact sb n = true) : ∃ g : Nat → Int, fx_tape w0 g ∧ ∀ i, i < zn.toNat → fx_o w0 52 i = some (g i) := by
  obtain ⟨q, hq, h⟩ := List.any_eq_true.mp h
  rw [Bool.and_eq_true, ai_beq, ai_beq] at h
  obtain ⟨-, -, -, -, -, -, -, -, -, -, -, e9⟩ := g2 q hq
  obtain ⟨z, g, a1, a2, a3⟩ := (e9 (by omega)).2.2.2 h.1
  rw [h.2, hn] at a1
  cases a1
  exact ⟨g, a2, a3⟩
def st_kn (st : ai_s) (t : Nat) : List ai_k := (if Nat.beq t 4 = true then [(49, 9, (1, 0, 0, 1)), (49, 10, (1, st.2.2.2.1.length, 0, 0))] else [(49, 9, (1, 0, 0, 0)), (49, 11, (1, st.2.2.2.1.length + 1, 0, 0)), (49, 12, (1, st.2.2.2.1.length, 0, 0)), (49, 13, (1, 0, 0, (t : Int))), (49, 14, (1, st.2.2.2.1.length + 2, 0, 0))]) ++ ai_dr st.2.2.2.2.1 49 9 14
def st_end (st : ai_s) (v w : ai_v) (t : Nat) : ai_s := (269, [], [], av_en st.2.2.2.1, st_kn st t, (300 + t, v.2.1, w.2.1, st.2.2.2.1.length, v.2.2.2) :: st.2.2.2.2.2)
def su_st (WR : List (Nat × Nat × Nat)) (st : ai_s) : Option (List ai_s) :=
  (ai_lk st.2.2.2.2.1 49 11).bind fun v => (ai_lk st.2.2.2.2.1 49 7).bind fun w => (ai_lk st.2.2.2.2.1 49 9).bind fun u =>
    if v.1 = 1 ∧ w.1 = 1 ∧ w.2.2.2 = 0 ∧ u = (1, 0, 0, 0) ∧ st.2.1 = ms_lo ∧ st.2.2.1 = [] ∧ ((List.range 6).all fun i => ai_wr WR 49 (9 + i) (9 + i)) = true ∧ nowr WR 52 = true ∧ ai_z st.2.2.2.1 = true ∧ st_fact st.2.2.2.2.2 w.2.1 = true then
      some ((List.range 5).map (st_end st v w)) else none
theorem wrS {k j : Nat} (h : ¬ (k = 49 ∧ 9 ≤ j ∧ j ≤ 14)) : ai_wr st_WR k j j = false := by
  unfold ai_wr st_WR
  rw [List.any_eq_false]
  intro q hq hx
  rw [List.mem_singleton.mp hq] at hx
  simp only [Bool.and_eq_true, Bool.or_eq_true, decide_eq_true_eq] at hx
  omega
theorem fx_g52 {ad : List Nat} {tys : ai_ty} {ws : va_W} (h : ai_wd tb_TY ad tys ws) (i : Nat) (hi : i < 160) : fx_o ws 52 i = some (fx_at ws 52 i) := by
  obtain ⟨t, ht⟩ := fx_has (k := 52) h rfl hi
  unfold fx_at
  rw [ht]
  rfl
theorem su_st_ok {WR : List (Nat × Nat × Nat)} {d : Nat} {st : ai_s} {xs : List ai_s} (hq : su_st WR st = some xs) (h0 : st.1 = 0) (hd : 5 ≤ d) {w0 : va_W} {ad : List Nat} {p : Program} {l : Launch} {e : Env} {R : Room} {s : State} {m : MethodId} {args : Array Value} {below : List Frame} {meth : Method} {c : Code} {D : va_G} {tys : ai_ty} {A : Nat → Prop} {b L : Nat} {sx : Nat → Int32} {cells slots : Nat} {Q : State → Prop} {r0 : List Int}
    (C : ai_cx tb_m104 d p R s m args c D tys A b L sx cells slots) (k : ∀ x ∈ xs, ai_G tb_TY WR w0 ad tb_m104 p l e R s m args below meth c D tys A b L sx cells slots Q r0 x) : ai_G tb_TY WR w0 ad tb_m104 p l e R s m args below meth c D tys A b L sx cells slots Q r0 st := by
  unfold su_st at hq
  obtain ⟨v, v1, hq⟩ := Option.bind_eq_some_iff.mp hq
  obtain ⟨w, w1, hq⟩ := Option.bind_eq_some_iff.mp hq
  obtain ⟨u, u1, hq⟩ := Option.bind_eq_some_iff.mp hq
  split at hq
  · rename_i hc
    obtain ⟨c1, c2, c3, c4, c5, c6, c7, c8, c9, c10⟩ := hc
    injection hq with hq
    subst hq
    intro r lv sk ws H locs ls hx g hP hD hS hl
    obtain ⟨g1, g2, g3, g4, g5, g6, g7, g8⟩ := g
    have hsk : sk = [] := by rw [c6] at g4; exact g4.nil
    subst hsk
    rw [h0]
    obtain ⟨x1, s1, d1⟩ := ai_lk_ok g6 v1
    obtain ⟨x2, s2, d2⟩ := ai_lk_ok g6 w1
    obtain ⟨zp, rfl⟩ : ∃ i : Int32, x1 = .int i := by
      rcases d1 with ⟨q, -⟩ | ⟨-, z, i, -, q2, -⟩ | ⟨q, -⟩ | ⟨q, -⟩ | ⟨q, -⟩
      · omega
      · exact ⟨i, q2⟩
      all_goals omega
    obtain ⟨zn, rfl⟩ : ∃ i : Int32, x2 = .int i := by
      rcases d2 with ⟨q, -⟩ | ⟨-, z, i, -, q2, -⟩ | ⟨q, -⟩ | ⟨q, -⟩ | ⟨q, -⟩
      · omega
      · exact ⟨i, q2⟩
      all_goals omega
    obtain ⟨za, a1, a2⟩ := ai_dv1 d1 c1
    obtain ⟨zb, b1, b2⟩ := ai_dv1 d2 c2
    rw [c3] at b2
    have r00 : r[0]? = some 0 := ai_z_ok g1 c9
    obtain ⟨zo, s3, o3⟩ := lkv g6 (by rw [u1, c4]) r00
    obtain ⟨n0, n1⟩ := f49 (i := 7) g5 s2 rfl
    obtain ⟨i0, i1⟩ := f49 (i := 11) g5 s1 rfl
    obtain ⟨g0, t1, t2⟩ := st_factok g2 b1 c10
    have hr1 : r.length = st.2.2.2.1.length := g1.1
    refine st_all (g := fx_at ws 52) (mm_cx hd C) g5 s2 s1 s3 (by omega) (fx_g52 g5) (lo0_ok r00 rfl rfl (by rw [← c5]; exact g3)) (fun ws' lv' t f en vv hw' hf htok f1 e1 v0 v1 his => ?_) H locs ls hP hD hS hl
    intro H' locs' ls' hP' hD' hS' hl'
    obtain ⟨t4, -⟩ := sp_tok_ok htok
    have hx3 : ai_x r (((r ++ [(f : Int)]) ++ [(en : Int)]) ++ [vv]) := (ai_x.push.tr ai_x.push).tr ai_x.push
    obtain ⟨q1, q2, q3⟩ := r3_at (a := (f : Int)) (b := (en : Int)) (c := vv) hr1
    refine k _ (List.mem_map.mpr ⟨t, List.mem_range.mpr (by omega), rfl⟩) (((r ++ [(f : Int)]) ++ [(en : Int)]) ++ [vv]) [] [] ws' H' locs' ls' (hx.tr hx3) ⟨((g1.nu (by omega) (by omega)).nu (by omega) (by omega)).nu v0 v1, ?_, trivial, trivial, hw', ?_, ?_, fun h => by cases h⟩ hP' hD' hS' ⟨hl'.1, hl'.2.1, fun q hq => by cases hq⟩
    · intro q hq
      rcases List.mem_cons.mp hq with rfl | hq
      · refine ⟨za, zb, (f : Int), hx3.at a1, hx3.at b1, q1, fun h => absurd (show 300 + t = 0 from h) (by omega), fun h => absurd (show 300 + t = 1 from h) (by omega), fun h => absurd (show 300 + t = 2 from h) (by omega), fun h => absurd (show 300 + t = 4 from h) (by omega), fun h => absurd (show 300 + t = 5 from h) (by omega), fun _ => ⟨fun h => absurd (show 1000 ≤ 300 + t from h) (by omega), fun h => absurd (show 300 + t < 300 ∨ (500 ≤ 300 + t ∧ 300 + t < 1000) from h) (by omega), fun g hg => ⟨fun _ _ => ⟨za, zb, (f : Int), (en : Int), vv, hx3.at a1, hx3.at b1, q1, q2, q3, by show 0 ≤ za + v.2.2.2; omega, by omega, by omega, ?_⟩, fun h => absurd (show 310 ≤ 300 + t from h) (by omega), fun h => absurd (show 320 ≤ 300 + t from h) (by omega), fun h => absurd (show 400 ≤ 300 + t from h) (by omega), fun h => absurd (show 300 + t = 330 from h) (by omega)⟩, fun h => absurd (show 300 + t = 350 from h) (by omega)⟩⟩
        show sp_tok g zb.toNat (za + v.2.2.2).toNat = (300 + t - 300, ((f : Int)).toNat, ((en : Int)).toNat, vv)
        rw [Nat.add_sub_cancel_left, Int.toNat_natCast, Int.toNat_natCast, ← htok, ← a2, show zb = zn.toInt by omega]
        refine sp_tok_congrN (fun i hi => ?_)
        have k1 := t2 i (by omega)
        have k2 := fr_fx (k := 52) g5 rfl g7 (nowr_ok c8 i i) k1
        rw [tape_one hg t1 i (by omega)]
        unfold fx_at
        rw [k2]
        rfl
      · exact g2.mono hx3 q hq
    · intro q hq
      have hq : q ∈ st_kn st t := hq
      unfold st_kn at hq
      rcases List.mem_append.mp hq with hq | hq
      · split at hq
        · rename_i ht
          obtain ⟨zb', za', k1, k2, k3, k4⟩ := his.1 (ai_beq.mp ht)
          rcases List.mem_cons.mp hq with rfl | hq
          · exact kn1 k1 (n := 0) (hx3.at r00) (by omega)
          · rw [List.mem_singleton.mp hq]
            exact kn1 k3 (n := st.2.2.2.1.length) q1 (by omega)
        · rename_i ht
          obtain ⟨zb', zs, zh, zt, zv, k1, k2, k3, k4, k5, k6, k7, k8, k9, k10⟩ := his.2 (fun h => ht (ai_beq.mpr h))
          rcases List.mem_cons.mp hq with rfl | hq
          · exact kn1 k1 (n := 0) (hx3.at r00) (by omega)
          · rcases List.mem_cons.mp hq with rfl | hq
            · exact kn1 k3 (n := st.2.2.2.1.length + 1) q2 (by omega)
            · rcases List.mem_cons.mp hq with rfl | hq
              · exact kn1 k5 (n := st.2.2.2.1.length) q1 (by omega)
              · rcases List.mem_cons.mp hq with rfl | hq
                · exact kn1 k7 (n := 0) (hx3.at r00) (by omega)
                · rw [List.mem_singleton.mp hq]
                  exact kn1 k9 (n := st.2.2.2.1.length + 2) q3 (by omega)
      · obtain ⟨k1, k2⟩ := dr_outR hq
        obtain ⟨x, k3, k4⟩ := g6 q k1
        exact ⟨x, hf _ _ _ (wrS k2) k3, k4.mono hx3⟩
    · intro cc i x hwr hsl
      refine hf cc i x (wrS (fun h => ?_)) (g7 cc i x hwr hsl)
      obtain ⟨i1, i2, i3⟩ := h
      have c7 := List.all_eq_true.mp c7 (i - 9) (List.mem_range.mpr (by omega))
      rw [show 9 + (i - 9) = i by omega, ← i1, hwr] at c7
      cases c7
  · cases hq
