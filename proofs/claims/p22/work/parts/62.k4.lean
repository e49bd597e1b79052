/-! text of the reference as a known method, where the class's answer is told; the law's walk -/
def mt_f (sb : List ai_b) (n : Nat) : Option ai_b := sb.find? fun q => Nat.beq q.1 499 && Nat.beq q.2.1 n
theorem mt_fok {w0 : va_W} {r : List Int} {sb : List ai_b} {g : Nat → Int} {n N : Nat} {q : ai_b} (g2 : ai_sb w0 r sb) (hg : fx_tape w0 g) (hn : r[n]? = some (N : Int)) (h : mt_f sb n = some q) : r[q.2.2.2.1]? = some (sp_ret g N) ∧ r[q.2.2.2.1 + 1]? = some (((sp_text g N).1 : Nat) : Int) ∧ r[q.2.2.2.1 + 2]? = some ((sp_cnt g N : Nat) : Int) ∧ r[q.2.2.2.1 + 3]? = some ((sp_acn g N : Nat) : Int) := by
  have hq := List.mem_of_find?_eq_some h
  have hc := List.find?_some h
  rw [Bool.and_eq_true, ai_beq, ai_beq] at hc
  obtain ⟨-, -, -, -, -, -, -, -, -, -, -, e9⟩ := g2 q hq
  have h4 := ((e9 (by omega)).2.2.1 g hg).2.2.2.1 (by omega) (by omega)
  unfold fx_ps at h4
  rw [if_pos hc.1] at h4
  obtain ⟨zn, zr, zf, zc, zd, a1, a2, a3, a3', a3'', -, a4, a5, a6, a7⟩ := h4
  rw [hc.2, hn] at a1
  cases a1
  rw [Int.toNat_natCast] at a4 a5 a6 a7
  rw [a2, a3, a3', a3'', a4, a5, a6, a7]
  exact ⟨rfl, rfl, rfl, rfl⟩
def mt_k1 (st : ai_s) (q : ai_b) : List ai_k := (49, 7, (1, 0, 0, 0)) :: (49, 8, (1, q.2.2.2.1 + 1, 0, 0)) :: st.2.2.2.2.1.filter (fun k => !(ai_wr mt_We k.1 k.2.1 k.2.1))
def mt_k2 (st : ai_s) (q : ai_b) : List ai_k := (49, 7, (1, 0, 0, 0)) :: (49, 8, (1, q.2.2.2.1 + 1, 0, 0)) :: (49, 1, (1, q.2.2.2.1 + 2, 0, 0)) :: (50, 26, (1, q.2.2.2.1 + 3, 0, 0)) :: (49, 19, (1, 0, 0, 0)) :: (56, 0, (1, 0, 0, 0)) :: (56, 1, (1, 0, 0, 0)) :: st.2.2.2.2.1.filter (fun k => !(ai_wr mt_W k.1 k.2.1 k.2.1))
def mt_end (st : ai_s) (q : ai_b) (pc : Nat) (kn : List ai_k) : ai_s := (pc, [], [(1, q.2.2.2.1, 0, 0)], st.2.2.2.1, kn, st.2.2.2.2.2)
/-- where the class's text has told whether there is a fault -/
def su_mt (WR : List (Nat × Nat × Nat)) (st : ai_s) : Option (List ai_s) :=
  (ai_lk st.2.2.2.2.1 49 7).bind fun w => (mt_f st.2.2.2.2.2 w.2.1).bind fun q => (st.2.2.2.1[q.2.2.2.1 + 1]?).bind fun e => if w.1 = 1 ∧ w.2.2.2 = 0 ∧ st.2.1 = ms_lo ∧ st.2.2.1 = [] ∧ wsub mt_W WR = true ∧ nowr WR 27 = true ∧ nowr WR 52 = true ∧ ai_z st.2.2.2.1 = true ∧ st_fact st.2.2.2.2.2 w.2.1 = true then (if 1 ≤ e.1 then some [mt_end st q 127 (mt_k1 st q)] else if e.2.1 ≤ 0 then some [mt_end st q 182 (mt_k2 st q)] else none) else none
theorem su_mt_ok {WR : List (Nat × Nat × Nat)} {d : Nat} {st : ai_s} {xs : List ai_s} (hq : su_mt WR st = some xs) (h0 : st.1 = 0) (hd : 10 ≤ d) {w0 : va_W} {ad : List Nat} {p : Program} {l : Launch} {e : Env} {R : Room} {s : State} {m : MethodId} {args : Array Value} {below : List Frame} {meth : Method} {c : Code} {D : va_G} {tys : ai_ty} {A : Nat → Prop} {b L : Nat} {sx : Nat → Int32} {cells slots : Nat} {Q : State → Prop} {r0 : List Int}
    (C : ai_cx tb_m109 d p R s m args c D tys A b L sx cells slots) (k : ∀ x ∈ xs, ai_G tb_TY WR w0 ad tb_m109 p l e R s m args below meth c D tys A b L sx cells slots Q r0 x) : ai_G tb_TY WR w0 ad tb_m109 p l e R s m args below meth c D tys A b L sx cells slots Q r0 st := by
  unfold su_mt at hq
  obtain ⟨w, w1, hq⟩ := Option.bind_eq_some_iff.mp hq
  obtain ⟨q, q1, hq⟩ := Option.bind_eq_some_iff.mp hq
  obtain ⟨ef, qe, hq⟩ := Option.bind_eq_some_iff.mp hq
  split at hq
  · rename_i hc
    obtain ⟨c1, c2, c3, c4, c5, c6, c7, c8, c9⟩ := hc
    intro r lv sk ws H locs ls hx g hP hD hS hl
    obtain ⟨g1, g2, g3, g4, g5, g6, g7, g8⟩ := g
    have hsk : sk = [] := by rw [c4] at g4; exact g4.nil
    subst hsk
    rw [h0]
    obtain ⟨x1, s1, d1⟩ := ai_lk_ok g6 w1
    obtain ⟨zn, rfl⟩ : ∃ i : Int32, x1 = .int i := by
      rcases d1 with ⟨q, -⟩ | ⟨-, z, i, -, q2, -⟩ | ⟨q, -⟩ | ⟨q, -⟩ | ⟨q, -⟩
      · omega
      · exact ⟨i, q2⟩
      all_goals omega
    obtain ⟨zb, b1, b2⟩ := ai_dv1 d1 c1
    rw [c2] at b2
    have r00 : r[0]? = some 0 := ai_z_ok g1 c8
    obtain ⟨n0, n1⟩ := f49 (i := 7) g5 s1 rfl
    obtain ⟨N, hN⟩ : ∃ N : Nat, zb = (N : Int) := ⟨zb.toNat, by omega⟩
    subst hN
    obtain ⟨g0, t1, t2⟩ := st_factok g2 b1 c9
    rw [Int.toNat_natCast] at t2
    have hN160 : N ≤ 160 := by omega
    obtain ⟨v1', v2', v3', v4'⟩ := mt_fok g2 t1 b1 q1
    obtain ⟨be, be1, be2, be3, -⟩ := g1.get v2'
    cases Option.some.inj (qe.symm.trans be1)
    have hT : sp_tape g0 N ws := ⟨fun i hi => fr_fx (k := 27) g5 rfl g7 (nowr_ok c6 i i) (t1 i hi), fun i hi => fr_fx (k := 52) g5 rfl g7 (nowr_ok c7 i i) (t2 i hi)⟩
    have keep : ∀ {V : List (Nat × Nat × Nat)} {ws' : va_W}, ai_fr V ws ws' → ∀ q ∈ st.2.2.2.2.1.filter (fun q => !(ai_wr V q.1 q.2.1 q.2.1)), ∃ x, ai_sl ws' q.1 q.2.1 x ∧ ai_dv ad b r q.2.2 x := fun {V ws'} hf q hq => by
      obtain ⟨f1, f2⟩ := List.mem_filter.mp hq
      obtain ⟨x, e1, e2⟩ := g6 q f1
      exact ⟨x, hf _ _ _ (by rw [Bool.not_eq_true'] at f2; exact f2) e1, e2⟩
    refine rt_all (mm_cx hd C) hN160 g5 hT ⟨zn, s1, by omega⟩ (lo0_ok r00 rfl rfl (by rw [← c3]; exact g3)) (fun ws' lv' z hF hw' hf v7 v8 hz => ?_) (fun ws' lv' z hF hw' hf v7 v8 hz v4 v526 v19 v56 v561 _ _ _ => ?_) H locs ls hP hD hS hl
    · split at hq
      · injection hq with hq
        subst hq
        intro H' locs' ls' hP' hD' hS' hl'
        exact k _ (List.mem_singleton.mpr rfl) _ [] [.int z] ws' H' locs' ls' hx ⟨g1, g2, trivial, ⟨Or.inr (Or.inl ⟨rfl, _, z, v1', rfl, by show z.toInt = sp_ret g0 N + 0; omega⟩), trivial⟩, hw', kc (v7.kn (n := 0) (t := 0) r00 (by omega)) (kc (v8.kn (n := q.2.2.2.1 + 1) v2' (by omega)) (keep hf)), fun cc i x hwr hsl => wsub_ok c5 (wsub_ok (V := mt_We) (by decide) hf) cc i x hwr (g7 cc i x hwr hsl), fun h => by cases h⟩ hP' hD' hS' ⟨hl'.1, hl'.2.1, fun q hq => by cases hq⟩
      · split at hq
        · exfalso
          omega
        · cases hq
    · split at hq
      · exfalso
        omega
      · split at hq
        · injection hq with hq
          subst hq
          intro H' locs' ls' hP' hD' hS' hl'
          exact k _ (List.mem_singleton.mpr rfl) _ [] [.int z] ws' H' locs' ls' hx ⟨g1, g2, trivial, ⟨Or.inr (Or.inl ⟨rfl, _, z, v1', rfl, by show z.toInt = sp_ret g0 N + 0; omega⟩), trivial⟩, hw', kc (v7.kn (n := 0) (t := 0) r00 (by omega)) (kc (v8.kn (n := q.2.2.2.1 + 1) v2' (by omega)) (kc (v4.kn (n := q.2.2.2.1 + 2) v3' (by omega)) (kc (v526.kn (n := q.2.2.2.1 + 3) v4' (by omega)) (kc (v19.kn (n := 0) (t := 0) r00 (by omega)) (kc (v56.kn (n := 0) (t := 0) r00 (by omega)) (kc (v561.kn (n := 0) (t := 0) r00 (by omega)) (keep hf))))))), fun cc i x hwr hsl => wsub_ok c5 hf cc i x hwr (g7 cc i x hwr hsl), fun h => by cases h⟩ hP' hD' hS' ⟨hl'.1, hl'.2.1, fun q hq => by cases hq⟩
        · cases hq
  · cases hq
def tb_WR4 : List (Nat × Nat × Nat) := ((List.range 60).filter fun k => !(Nat.beq k 27 || (Nat.beq k 52 || (Nat.beq k 25 || (Nat.beq k 56 || (Nat.beq k 13 || (Nat.beq k 19 || Nat.beq k 50))))))).map (fun k => (k, 0, 200)) ++ [(13, 1, 3), (13, 4, 200), (19, 1, 3), (19, 4, 200), (50, 0, 27), (50, 81, 200)]
def tb_su4 (mid : Nat) (st : ai_s) : Option (List ai_s) := if Nat.beq mid 48 = true then su_tx tb_WR4 st else if Nat.beq mid 109 = true then su_mt tb_WR4 st else tb_su mid st
def tb_MG4 : List ai_g := tb_MG.filter fun q => !(Nat.beq q.1 48 || Nat.beq q.1 109)
def tb_K4 : ai_K := (tb_TY, tb_WR4, tb_MT, tb_SP, tb_su4, tb_MG4)
theorem su4_old {WR : List (Nat × Nat × Nat)} {mid d : Nat} {st : ai_s} {xs : List ai_s} {M : ai_m} {w0 : va_W} {ad : List Nat} {p : Program} {l : Launch} {e : Env} {R : Room} {s : State} {m : MethodId} {args : Array Value} {below : List Frame} {meth : Method} {c : Code} {D : va_G} {tys : ai_ty} {A : Nat → Prop} {b L : Nat} {sx : Nat → Int32} {cells slots : Nat} {Q : State → Prop} {r0 : List Int} (hg0 : st.1 = 0) (hg6 : ai_gd mid ≤ d) (hM : tb_MT[mid]? = some M) (C : ai_cx M d p R s m args c D tys A b L sx cells slots) (hq2 : tb_su mid st = some xs) (k : ∀ x ∈ xs, ai_G tb_TY WR w0 ad M p l e R s m args below meth c D tys A b L sx cells slots Q r0 x) : ai_G tb_TY WR w0 ad M p l e R s m args below meth c D tys A b L sx cells slots Q r0 st := by
  unfold tb_su at hq2
  split at hq2
  · rename_i hm
    subst hm
    have hM' : M = tb_m150 := (Option.some.inj hM).symm
    subst hM'
    split at hq2
    · rename_i hc
      simp only [Bool.and_eq_true] at hc
      obtain ⟨⟨⟨⟨c0, c2⟩, c4⟩, cs⟩, cn⟩ := hc
      injection hq2 with hq2
      subst hq2
      exact lo_known (M := tb_m150) C hg0 c0 c2 c4 cs cn rfl (k _ (List.mem_singleton.mpr rfl))
    · cases hq2
  · split at hq2
    · rename_i hm
      subst hm
      have hM' : M = tb_m37 := (Option.some.inj hM).symm
      subst hM'
      split at hq2
      · rename_i hc
        simp only [Bool.and_eq_true, decide_eq_true_eq] at hc
        obtain ⟨⟨c0, cs⟩, cn⟩ := hc
        injection hq2 with hq2
        subst hq2
        exact wr_known (TY := tb_TY) (M := tb_m37) C hg6 hg0 c0 cs cn (k _ List.mem_cons_self) (k _ (List.mem_cons_of_mem _ (List.mem_singleton.mpr rfl)))
      · cases hq2
    · cases hq2
theorem su4_ok : ai_SU tb_K4 := by
  intro mid d cu st xs M hq hM w0 ad p l e R s m args below meth c D tys A b L sx cells slots Q r0 C k
  dsimp only at hq
  split at hq
  · rename_i hg
    rw [Bool.and_eq_true] at hg
    have hg0 := ai_beq.mp hg.1
    have hg6 := Nat.le_of_ble_eq_true hg.2
    have hq4 : tb_su4 mid st = some xs := hq
    clear hq
    have hq2 : tb_su mid st = some xs ∨ (mid = 48 ∧ su_tx tb_WR4 st = some xs) ∨ (mid = 109 ∧ su_mt tb_WR4 st = some xs) := by
      unfold tb_su4 at hq4
      split at hq4
      · rename_i h48
        exact Or.inr (Or.inl ⟨ai_beq.mp h48, hq4⟩)
      · split at hq4
        · rename_i h109
          exact Or.inr (Or.inr ⟨ai_beq.mp h109, hq4⟩)
        · exact Or.inl hq4
    clear hq4
    rcases hq2 with hq2 | ⟨rfl, hq2⟩ | ⟨rfl, hq2⟩
    · exact su4_old hg0 hg6 hM C hq2 k
    · cases Option.some.inj (hM.symm.trans (rfl : tb_MT[48]? = some tb_m48))
      exact su_tx_ok hq2 hg0 hg6 C k
    · cases Option.some.inj (hM.symm.trans (rfl : tb_MT[109]? = some tb_m109))
      exact su_mt_ok hq2 hg0 hg6 C k
  · cases hq
/-! the walk that knows pieces of itself, over tb_K4 -/
noncomputable def m4_x (ms : List mm_e) (n : Nat) : ai_R := Nat.rec (fun _ _ _ _ _ => none) (fun _ rec => mm_b tb_K4 ms rec) n
def m4_ok (e : mm_e) : Prop := ai_SR tb_TY tb_WR4 tb_MT (fun mid _ d _ st => if (Nat.beq e.1 mid && Nat.ble e.2.1 d && mm_es e.2.2.1 st) = true then some e.2.2.2 else none)
theorem m4_x_ok {ms : List mm_e} (hms : ∀ e ∈ ms, m4_ok e) : ∀ n, ai_SR tb_TY tb_WR4 tb_MT (m4_x ms n)
  | 0 => fun mid d cu st ys M hq => by cases hq
  | n + 1 => by
    intro mid d cu st ys M hq hM w0 ad p l e R s m args below meth c D tys A b L sx cells slots Q r0 C k
    have hq : mm_b tb_K4 ms (m4_x ms n) mid M d cu st = some ys := hq
    unfold mm_b at hq
    rw [ai_norm_eq] at hq
    unfold mm_b0 at hq
    split at hq
    · rename_i xs hx
      injection hq with hq
      subst hq
      unfold mm_f at hx
      obtain ⟨e1, he, rfl⟩ := Option.map_eq_some_iff.mp hx
      have h1 := List.find?_some he
      have h2 := List.mem_of_find?_eq_some he
      simp only [Bool.and_eq_true, decide_eq_true_eq] at h1
      exact hms e1 h2 mid d cu st _ M (if_pos (by simp only [Bool.and_eq_true]; exact ⟨⟨h1.1.1.2, h1.1.2⟩, h1.2⟩)) hM C k
    · exact ai_body_ok (K := tb_K4) su4_ok (m4_x_ok hms n) tv_MT mid d cu st ys M (by unfold ai_body; rw [ai_norm_eq]; exact hq) hM C k
noncomputable def m4_c (ms : List mm_e) (cu : List Nat) (M : ai_m) (e : mm_e) : Bool := (m4_x ms 5000 e.1 M e.2.1 cu e.2.2.1).any fun xs => mm_el mm_es xs e.2.2.2
theorem m4_mk {ms : List mm_e} {cu : List Nat} {M : ai_m} {e : mm_e} (hms : ∀ e ∈ ms, m4_ok e) (hM : tb_MT[e.1]? = some M) (h : m4_c ms cu M e = true) : m4_ok e := by
  intro mid d cu' st ys M' hq hM' w0 ad p l en R s m args below meth c D tys A b L sx cells slots Q r0 C k
  dsimp only at hq
  split at hq
  · rename_i hc
    simp only [Bool.and_eq_true] at hc
    have hd := Nat.le_of_ble_eq_true hc.1.2
    have h3 := ai_beq.mp hc.1.1
    subst h3
    have h4 := mm_es_ok hc.2
    subst h4
    injection hq with hq
    subst hq
    rw [hM] at hM'
    injection hM' with hM'
    subst hM'
    unfold m4_c at h
    obtain ⟨xs, h1, h2⟩ := ai_anyE h
    have h2 := mm_el_ok mm_es_ok h2
    subst h2
    exact m4_x_ok hms 5000 e.1 e.2.1 cu e.2.2.1 _ M h1 hM (mm_cx hd C) k
  · cases hq
def lq (x : ai_s) (k i : Nat) (v : ai_v) : Bool := decide (ai_lk x.2.2.2.2.1 k i = some v)
/-- two places have the same value -/
def l2 (x : ai_s) (k i k' i' : Nat) : Bool := (ai_lk x.2.2.2.2.1 k i).any fun u => decide (u = (1, u.2.1, 0, u.2.2.2)) && (lq x k' i' u && Nat.blt u.2.1 x.2.2.2.1.length)
