section
/-! .. and nameHere as a known method, where the word is told -/
section NHS
variable {ad : List Nat} {M : ai_m} {p : Program} {l : Launch} {e : Env} {R : Room} {s : State} {m : MethodId} {args : Array Value} {below : List Frame} {meth : Method} {c : Code} {D : va_G} {tys : ai_ty} {A : Nat → Prop} {b L : Nat} {sx : Nat → Int32} {cells slots : Nat} {Q : State → Prop}
theorem hG_this2 {r : List Int} {lo : List (Nat × ai_v)} {lv : List (Nat × Value)} {cl pc : Nat} {o : Int} {sk : List Value} {ws : va_W} (h : ai_lo ad b r lo lv) (h0 : r[0]? = some 0) (hg : ai_get lo 0 = some (0, cl, 0, 0)) (hg1 : ai_get lo 1 = some (1, 0, 0, o)) (k : ∀ lv1, ai_lo ad b [0] [(0, (0, cl, 0, 0)), (1, (1, 0, 0, o))] lv1 → hG M p l e R s m args below meth c D A cells slots Q pc lv1 sk ws) : hG M p l e R s m args below meth c D A cells slots Q pc lv sk ws := by
  obtain ⟨n, x, h1, h2⟩ := ai_get_ok h hg
  obtain ⟨n', x', h1', h2'⟩ := ai_get_ok h hg1
  intro H locs ls hP hD hS hl
  refine k [(0, x), (1, x')] ⟨rfl, ?_, rfl, ?_, trivial⟩ H locs ls hP hD hS ⟨hl.1, hl.2.1, fun q hq => ?_⟩
  · exact dv0 h2 h0 rfl rfl
  · exact dv0 h2' h0 rfl rfl
  · rcases List.mem_cons.mp hq with rfl | hq
    · exact lv_at hl n h1
    · rw [List.mem_singleton.mp hq]
      exact lv_at hl n' h1'
theorem nh_back (C : ai_cx tb_m103 5 p R s m args c D tys A b L sx cells slots) {ws : va_W} {lv : List (Nat × Value)} (k : hG tb_m103 p l e R s m args below meth c D A cells slots Q 2 lv [] ws) : hG tb_m103 p l e R s m args below meth c D A cells slots Q 115 lv [] ws := by
  intro H locs ls hP hD hS hl
  exact lv_goto (tgt := 2) C.1 C.2.1 (tv_m103.1.1.1 (115, .goto (-113), 3) (List.mem_of_getElem? (i := 68) rfl)) (by decide) (k H locs ls hP hD hS hl)
theorem nh_len {j : Nat} (hj : j < 7) : 3 ≤ (nh_w j).length := by
  obtain ⟨h1, -⟩ := jw j hj
  have := jw3 j hj
  unfold nh_w
  omega
theorem nh_step {j : Nat} (hj : j < 7) (C : ai_cx tb_m103 5 p R s m args c D tys A b L sx cells slots) {ws : va_W} {zn zf ze zt : Int32} {g : Nat → Int} (hw : ai_wd tb_TY ad tys ws) (hn : ai_sl ws 49 7 (.int zn)) (hf : ai_sl ws 49 12 (.int zf)) (he : ai_sl ws 49 11 (.int ze)) (ht : ai_sl ws 49 13 (.int zt)) (t1 : zt.toInt = 1) (hle : ze.toInt ≤ zn.toInt) (hg : ∀ i, i < zn.toInt.toNat → fx_o ws 52 i = some (g i)) {lv : List (Nat × Value)} (hlv : ai_lo ad b [0] (nh_lo j) lv)
    (k1 : ∀ (ws' : va_W) (lv' : List (Nat × Value)), ai_wd tb_TY ad tys ws' → ai_fr [] ws ws' → sp_is g zf.toInt.toNat ze.toInt.toNat (nh_w j) = false → ai_lo ad b [0] (nh_lo (j + 1)) lv' → hG tb_m103 p l e R s m args below meth c D A cells slots Q 115 lv' [] ws')
    (k2 : ∀ (ws' : va_W) (lv' : List (Nat × Value)) (z : Int32), ai_wd tb_TY ad tys ws' → ai_fr [] ws ws' → sp_is g zf.toInt.toNat ze.toInt.toNat (nh_w j) = true → z.toInt = (j : Int) → hG tb_m103 p l e R s m args below meth c D A cells slots Q 111 lv' [.int z] ws') : hG tb_m103 p l e R s m args below meth c D A cells slots Q 2 lv [] ws := by
  obtain ⟨n0, n1⟩ := f49 (i := 7) hw hn rfl
  obtain ⟨c0, c1⟩ := f49 (i := 11) hw he rfl
  obtain ⟨i0, i1⟩ := f49 (i := 12) hw hf rfl
  have hL := nh_len hj
  obtain ⟨xs, h1, h3⟩ := ai_anyE (nh_r j hj)
  have gm : ai_gm tb_TY [] ws ad b L sx tys tb_m103.2.2.2.2.1 [0, 0, zn.toInt, zf.toInt, ze.toInt] (nh_st j) lv [] ws := by
    refine ⟨en_mk (by simp only [nh_st, mf_e, List.cons_append, List.nil_append, en_b, and_true]; omega) rfl, (fun q hq => by cases hq), lo0_ok (r := [0]) rfl rfl rfl hlv, trivial, hw, kc (kn1 hn (n := 2) (t := zn.toInt) rfl (by omega)) (kc (kn1 hf (n := 3) (t := zf.toInt) rfl (by omega)) (kc (kn1 he (n := 4) (t := ze.toInt) rfl (by omega)) (kc (kn1 ht (n := 0) (t := 0) rfl (by omega)) k0))), fun _ _ _ _ h => h, fun h => by cases h⟩
  refine hseg (st := nh_st j) h1 rfl C gm (fun x hx r' lv' sk' ws' hx' g' => ?_)
  obtain ⟨g1, g2, g3, g4, g5, g6, g7, g8⟩ := g'
  have r0 : r'[0]? = some 0 := hx'.at rfl
  have r2 : r'[2]? = some zn.toInt := hx'.at rfl
  have r3 : r'[3]? = some zf.toInt := hx'.at rfl
  have r4 : r'[4]? = some ze.toInt := hx'.at rfl
  have hox := List.all_eq_true.mp h3 x hx
  unfold nh_ok at hox
  rw [Bool.or_eq_true] at hox
  rcases hox with hox | hox
  · rw [Bool.and_eq_true, Bool.and_eq_true, Bool.and_eq_true, Bool.and_eq_true, ai_beq, decide_eq_true_eq, decide_eq_true_eq, Bool.or_eq_true] at hox
    obtain ⟨p1, hs, p2, p3, p4⟩ := hox
    have hsk : sk' = [] := by
      rw [List.isEmpty_iff.mp hs] at g4
      exact g4.nil
    subst hsk
    rw [p1]
    refine hG_this2 g3 r0 p2 p3 (fun lv1 hlv1 => k1 ws' lv1 g5 g7 ?_ hlv1)
    rw [Bool.eq_false_iff]
    intro hc
    obtain ⟨u1, u2⟩ := sp_is_iff.mp hc
    rcases p4 with p4 | p4
    · obtain ⟨v, e0, b1, b2, b3, b4⟩ := nh_dok g1 g2 r3 r4 p4
      rw [Bool.or_eq_true, Bool.or_eq_true, decide_eq_true_eq, decide_eq_true_eq] at b1
      rcases b1 with b1 | b1 | b1
      · omega
      · omega
      · have := av_140ok g1 g2 b2 b1
        omega
    · obtain ⟨k, hk, p4⟩ := List.any_eq_true.mp p4
      have hk := List.mem_range.mp hk
      have u3 := u2 k hk
      rw [Bool.or_eq_true] at p4
      rcases p4 with p4 | p4
      · rw [Bool.and_eq_true] at p4
        obtain ⟨v, e0, b1, b2, b3, b4⟩ := nh_dok g1 g2 r3 r4 p4.1
        rw [Bool.and_eq_true, decide_eq_true_eq, decide_eq_true_eq] at b1
        have := av_f5 g2 r3 r2 p4.2
        omega
      · unfold nh_cn at p4
        rw [Bool.and_eq_true] at p4
        have h4 := av_f4 g2 r3 r2 p4.1
        have hb : fx_o ws 52 (zf.toInt + (k : Int)).toNat = some (g (zf.toInt.toNat + k)) := by
          rw [show (zf.toInt + (k : Int)).toNat = zf.toInt.toNat + k by omega]
          exact hg _ (by omega)
        obtain ⟨v, e0, b1, b2, b3, b4⟩ := mg_ok g1 g2 r3 hb p4.2
        have u4 : (nh_w j).getD k 0 = g (zf.toInt.toNat + k) := by
          rw [List.getD_eq_getElem?_getD, u3]
          rfl
        rw [u4, Bool.or_eq_true, Bool.or_eq_true, decide_eq_true_eq, decide_eq_true_eq] at b1
        rcases b1 with b1 | b1 | b1
        · omega
        · omega
        · exact av_140ok g1 g2 b2 b1 rfl
  · rw [Bool.and_eq_true, Bool.and_eq_true, Bool.and_eq_true, ai_beq, decide_eq_true_eq] at hox
    obtain ⟨p1, p2, p3, p4⟩ := hox
    rw [p2] at g4
    obtain ⟨y, s1, rfl, dy, g4⟩ := g4.cons
    have hs1 := g4.nil
    subst hs1
    obtain ⟨z, rfl, hz⟩ := dvn dy r0
    rw [p1]
    refine k2 ws' lv' z g5 g7 (sp_is_iff.mpr ?_) (by omega)
    obtain ⟨v, e0, b1, b2, b3, b4⟩ := nh_dok g1 g2 r3 r4 p3
    rw [Bool.and_eq_true, decide_eq_true_eq, decide_eq_true_eq] at b1
    refine ⟨by omega, fun k hk => ?_⟩
    have p5 := List.all_eq_true.mp p4 k (List.mem_range.mpr hk)
    unfold nh_ce at p5
    rw [Bool.and_eq_true] at p5
    have h4 := av_f4 g2 r3 r2 p5.1
    have hb : fx_o ws 52 (zf.toInt + (k : Int)).toNat = some (g (zf.toInt.toNat + k)) := by
      rw [show (zf.toInt + (k : Int)).toNat = zf.toInt.toNat + k by omega]
      exact hg _ (by omega)
    obtain ⟨v', e1, d1, d2, d3, d4⟩ := mg_ok g1 g2 r3 hb p5.2
    rw [Bool.and_eq_true, decide_eq_true_eq, decide_eq_true_eq] at d1
    rw [List.getElem?_eq_getElem hk]
    rw [List.getD_eq_getElem?_getD, List.getElem?_eq_getElem hk] at d1
    have d1 : e1.1 = (nh_w j)[k] ∧ e1.2.1 = (nh_w j)[k] := d1
    rw [show (nh_w j)[k] = g (zf.toInt.toNat + k) by omega]
theorem nh_all (C : ai_cx tb_m103 5 p R s m args c D tys A b L sx cells slots) {ws : va_W} {zn zf ze zt : Int32} {g : Nat → Int} (hw : ai_wd tb_TY ad tys ws) (hn : ai_sl ws 49 7 (.int zn)) (hf : ai_sl ws 49 12 (.int zf)) (he : ai_sl ws 49 11 (.int ze)) (ht : ai_sl ws 49 13 (.int zt)) (t1 : zt.toInt = 1) (hle : ze.toInt ≤ zn.toInt) (hg : ∀ i, i < zn.toInt.toNat → fx_o ws 52 i = some (g i)) {lv : List (Nat × Value)} (hlv : ai_lo ad b [0] ms_lo lv)
    (k1 : ∀ (ws' : va_W) (lv' : List (Nat × Value)) (z : Int32), ai_wd tb_TY ad tys ws' → ai_fr [] ws ws' → sp_word g zf.toInt.toNat ze.toInt.toNat = 7 → z.toInt = -4 → hG tb_m103 p l e R s m args below meth c D A cells slots Q 120 lv' [.int z] ws')
    (k2 : ∀ (ws' : va_W) (lv' : List (Nat × Value)) (z : Int32) (j : Nat), ai_wd tb_TY ad tys ws' → ai_fr [] ws ws' → j < 7 → sp_word g zf.toInt.toNat ze.toInt.toNat = j → z.toInt = (j : Int) → hG tb_m103 p l e R s m args below meth c D A cells slots Q 111 lv' [.int z] ws') : hG tb_m103 p l e R s m args below meth c D A cells slots Q 0 lv [] ws := by
  have wn : ∀ (k i : Nat), ai_wr [] k i i = false := fun _ _ => rfl
  have loop : ∀ (n j : Nat), j + n = 7 → (∀ i, i < j → sp_is g zf.toInt.toNat ze.toInt.toNat (sp_W.getD i []) = false) → ∀ (ws' : va_W) (lv' : List (Nat × Value)), ai_wd tb_TY ad tys ws' → ai_fr [] ws ws' → ai_lo ad b [0] (nh_lo j) lv' → hG tb_m103 p l e R s m args below meth c D A cells slots Q 2 lv' [] ws' := by
    intro n
    induction n with
    | zero =>
      intro j hj hpre ws' lv' hw' hf' hlv'
      have e7 : j = 7 := by omega
      subst e7
      obtain ⟨xs, h1, h3⟩ := ai_anyE nh_r7
      have gm : ai_gm tb_TY [] ws' ad b L sx tys tb_m103.2.2.2.2.1 [0, 0] nh_7 lv' [] ws' := by
        refine ⟨en_mk (by simp only [nh_7, en_b, and_true]; omega) rfl, (fun q hq => by cases hq), lo0_ok (r := [0]) rfl rfl rfl hlv', trivial, hw', k0, fun _ _ _ _ h => h, fun h => by cases h⟩
      refine hseg (st := nh_7) h1 rfl C gm (fun x hx r' lv2 sk' ws2 hx' g' => ?_)
      obtain ⟨g1, g2, g3, g4, g5, g6, g7, g8⟩ := g'
      have r0 : r'[0]? = some 0 := hx'.at rfl
      have hox := List.all_eq_true.mp h3 x hx
      rw [Bool.and_eq_true, ai_beq, decide_eq_true_eq] at hox
      rw [hox.2] at g4
      obtain ⟨y, s1, rfl, dy, g4⟩ := g4.cons
      have hs1 := g4.nil
      subst hs1
      obtain ⟨z, rfl, hz⟩ := dvn dy r0
      rw [hox.1]
      exact k1 ws2 lv2 z g5 (hf'.tr g7) (by rw [sp_word_P]; exact sp_P_at (by decide) hpre (fun h => absurd h (by decide))) (by omega)
    | succ n ih =>
      intro j hj hpre ws' lv' hw' hf' hlv'
      have hg' : ∀ i, i < zn.toInt.toNat → fx_o ws' 52 i = some (g i) := fun i hi => fr_fx hw' (k := 52) rfl hf' (wn _ _) (hg i hi)
      refine nh_step (j := j) (by omega) C hw' (hf' 49 7 _ (wn _ _) hn) (hf' 49 12 _ (wn _ _) hf) (hf' 49 11 _ (wn _ _) he) (hf' 49 13 _ (wn _ _) ht) t1 hle hg' hlv' (fun ws2 lv2 hw2 hf2 hno hlv2 => ?_) (fun ws2 lv2 z hw2 hf2 hyes hz => ?_)
      · refine nh_back C (ih (j + 1) (by omega) (fun i hi => ?_) ws2 lv2 hw2 (hf'.tr hf2) hlv2)
        by_cases hij : i < j
        · exact hpre i hij
        · rw [show i = j by omega]
          exact hno
      · exact k2 ws2 lv2 z j hw2 (hf'.tr hf2) (by omega) (by rw [sp_word_P]; exact sp_P_at (by omega) hpre (fun _ => hyes)) hz
  obtain ⟨xs, h1, h3⟩ := ai_anyE nh_r00
  have gm : ai_gm tb_TY [] ws ad b L sx tys tb_m103.2.2.2.2.1 [0, 0] nh_0 lv [] ws := by
    refine ⟨en_mk (by simp only [nh_0, en_b, and_true]; omega) rfl, (fun q hq => by cases hq), lo0_ok (r := [0]) rfl rfl rfl hlv, trivial, hw, k0, fun _ _ _ _ h => h, fun h => by cases h⟩
  refine hseg (st := nh_0) h1 rfl C gm (fun x hx r' lv2 sk' ws2 hx' g' => ?_)
  obtain ⟨g1, g2, g3, g4, g5, g6, g7, g8⟩ := g'
  have r0 : r'[0]? = some 0 := hx'.at rfl
  have hox := List.all_eq_true.mp h3 x hx
  rw [Bool.and_eq_true, Bool.and_eq_true, Bool.and_eq_true, ai_beq, decide_eq_true_eq, decide_eq_true_eq] at hox
  obtain ⟨p1, hs, p2, p3⟩ := hox
  have hsk : sk' = [] := by
    rw [List.isEmpty_iff.mp hs] at g4
    exact g4.nil
  subst hsk
  rw [p1]
  exact hG_this2 g3 r0 p2 p3 (fun lv1 hlv1 => loop 7 0 rfl (fun i hi => absurd hi (Nat.not_lt_zero _)) ws2 lv1 g5 g7 hlv1)
end NHS
def su_nh (st : ai_s) (WR : List (Nat × Nat × Nat)) : Option (List ai_s) :=
  (ai_lk st.2.2.2.2.1 49 12).bind fun v => (ai_lk st.2.2.2.2.1 49 11).bind fun w => (ai_lk st.2.2.2.2.1 49 7).bind fun u => (wf st.2.2.2.2.2 v.2.1 w.2.1).bind fun q =>
    if v.1 = 1 ∧ w.1 = 1 ∧ u.1 = 1 ∧ v.2.2.2 = 0 ∧ w.2.2.2 = 0 ∧ u.2.2.2 = 0 ∧ ai_lk st.2.2.2.2.1 49 13 = some (1, 0, 0, 1) ∧ st.2.1 = ms_lo ∧ st.2.2.1 = [] ∧ nowr WR 52 = true ∧ ai_z st.2.2.2.1 = true ∧ st_fact st.2.2.2.2.2 u.2.1 = true ∧ av_f st 4 w.2.1 u.2.1 none 1 = true then
      some [(if Nat.beq q.1 317 = true then 120 else 111, [], [if Nat.beq q.1 317 = true then (1, 0, 0, -4) else wf_v q], st.2.2.2.1, st.2.2.2.2.1, st.2.2.2.2.2)] else none
theorem su_nh_ok {WR : List (Nat × Nat × Nat)} {d : Nat} {st : ai_s} {xs : List ai_s} (hq : su_nh st WR = some xs) (h0 : st.1 = 0) (hd : 5 ≤ d) {w0 : va_W} {ad : List Nat} {p : Program} {l : Launch} {e : Env} {R : Room} {s : State} {m : MethodId} {args : Array Value} {below : List Frame} {meth : Method} {c : Code} {D : va_G} {tys : ai_ty} {A : Nat → Prop} {b L : Nat} {sx : Nat → Int32} {cells slots : Nat} {Q : State → Prop} {r0 : List Int}
    (C : ai_cx tb_m103 d p R s m args c D tys A b L sx cells slots) (k : ∀ x ∈ xs, ai_G tb_TY WR w0 ad tb_m103 p l e R s m args below meth c D tys A b L sx cells slots Q r0 x) : ai_G tb_TY WR w0 ad tb_m103 p l e R s m args below meth c D tys A b L sx cells slots Q r0 st := by
  unfold su_nh at hq
  obtain ⟨v, v1, hq⟩ := Option.bind_eq_some_iff.mp hq
  obtain ⟨w, w1, hq⟩ := Option.bind_eq_some_iff.mp hq
  obtain ⟨u, u1, hq⟩ := Option.bind_eq_some_iff.mp hq
  obtain ⟨q, q1, hq⟩ := Option.bind_eq_some_iff.mp hq
  split at hq
  · rename_i hc
    obtain ⟨c1, c2, c3, c4, c5, c6, c7, c8, c9, c10, c11, c12, c13⟩ := hc
    injection hq with hq
    subst hq
    intro r lv sk ws H locs ls hx g hP hD hS hl
    obtain ⟨g1, g2, g3, g4, g5, g6, g7, g8⟩ := g
    have hsk : sk = [] := by rw [c9] at g4; exact g4.nil
    subst hsk
    rw [h0]
    have asI : ∀ {v : ai_v} {x : Value}, v.1 = 1 → ai_dv ad b r v x → ∃ i : Int32, x = .int i := fun {v x} h1 d1 => by
      rcases d1 with ⟨q, -⟩ | ⟨-, z, i, -, q2, -⟩ | ⟨q, -⟩ | ⟨q, -⟩ | ⟨q, -⟩
      · omega
      · exact ⟨i, q2⟩
      all_goals omega
    obtain ⟨x1, s1, d1⟩ := ai_lk_ok g6 v1
    obtain ⟨x2, s2, d2⟩ := ai_lk_ok g6 w1
    obtain ⟨x3, s3, d3⟩ := ai_lk_ok g6 u1
    obtain ⟨zf, rfl⟩ := asI c1 d1
    obtain ⟨ze, rfl⟩ := asI c2 d2
    obtain ⟨zn, rfl⟩ := asI c3 d3
    obtain ⟨ya, a1, a2⟩ := ai_dv1 d1 c1
    obtain ⟨yb, b1, b2⟩ := ai_dv1 d2 c2
    obtain ⟨yc, e1, e2⟩ := ai_dv1 d3 c3
    rw [c4] at a2
    rw [c5] at b2
    rw [c6] at e2
    have r00 : r[0]? = some 0 := ai_z_ok g1 c11
    obtain ⟨zt, s4, o4⟩ := lkv g6 c7 r00
    obtain ⟨gt, t1, t2⟩ := st_factok g2 e1 c12
    have hlt := av_f4 (x := st) g2 b1 e1 c13
    obtain ⟨n0, n1⟩ := f49 (i := 7) g5 s3 rfl
    obtain ⟨k310, k318, kw⟩ := wf_ok g2 t1 a1 b1 q1
    have hgn : ∀ i, i < zn.toInt.toNat → fx_o ws 52 i = some (gt i) := fun i hi => fr_fx (k := 52) g5 rfl g7 (nowr_ok c10 i i) (t2 i (by omega))
    have wn : ∀ (k i : Nat), ai_wr [] k i i = false := fun _ _ => rfl
    have kk := k _ (List.mem_singleton.mpr rfl)
    refine nh_all (g := gt) (mm_cx hd C) g5 s3 s1 s2 s4 (by omega) (by omega) hgn (lo0_ok r00 rfl rfl (by rw [← c8]; exact g3)) (fun ws' lv' z hw' hf hwd hz => ?_) (fun ws' lv' z j hw' hf hj hwd hz => ?_) H locs ls hP hD hS hl
    · rw [show zf.toInt = ya by omega, show ze.toInt = yb by omega] at hwd
      have h317 : Nat.beq q.1 317 = true := by
        rw [ai_beq]
        by_cases h3 : q.1 = 310
        · rw [if_pos h3] at kw
          obtain ⟨zw, -, y1, y2⟩ := kw
          omega
        · rw [if_neg h3] at kw
          omega
      rw [if_pos h317, if_pos h317] at kk
      intro H' locs' ls' hP' hD' hS' hl'
      exact kk r [] [.int z] ws' H' locs' ls' hx ⟨g1, g2, trivial, ⟨Or.inr (Or.inl ⟨rfl, 0, _, r00, rfl, by show z.toInt = 0 + (-4); omega⟩), trivial⟩, hw', fun q hq => (by
        obtain ⟨x, k1, k2⟩ := g6 q hq
        exact ⟨x, hf _ _ _ (wn _ _) k1, k2⟩), fun cc i x hwr hsl => hf cc i x (wn _ _) (g7 cc i x hwr hsl), g8⟩ hP' hD' hS' ⟨hl'.1, hl'.2.1, fun q hq => by cases hq⟩
    · rw [show zf.toInt = ya by omega, show ze.toInt = yb by omega] at hwd
      have h317 : ¬ Nat.beq q.1 317 = true := by
        rw [ai_beq]
        intro h3
        rw [if_neg (by omega)] at kw
        omega
      rw [if_neg h317, if_neg h317] at kk
      have hzj : z = Int32.ofNat j := Int32.toInt_inj.mp (by
        have e : (Int32.ofNat j).toInt = (j : Int) := nI_toInt (by omega)
        rw [hz, e])
      intro H' locs' ls' hP' hD' hS' hl'
      exact kk r [] [.int z] ws' H' locs' ls' hx ⟨g1, g2, trivial, ⟨by rw [hzj]; exact wf_vok (by omega) r00 hwd kw, trivial⟩, hw', fun q hq => (by
        obtain ⟨x, k1, k2⟩ := g6 q hq
        exact ⟨x, hf _ _ _ (wn _ _) k1, k2⟩), fun cc i x hwr hsl => hf cc i x (wn _ _) (g7 cc i x hwr hsl), g8⟩ hP' hD' hS' ⟨hl'.1, hl'.2.1, fun q hq => by cases hq⟩
  · cases hq
end
section
/-! a call by hand: a method of an object, no arguments, nothing returned -/
def hc_Q (P : va_W → Prop) (D : va_G) (A : Nat → Prop) : Array Value → State → Outcome → State → Prop := fun _ st oc t => (∃ ws : va_W, P ws ∧ va_P D vwCl ws t.heap ∧ va_D A ws ∧ oc = .returned none) ∧ va_F A st t
section HCL
variable {ad : List Nat} {M : ai_m} {d : Nat} {p : Program} {l : Launch} {e : Env} {R : Room} {s : State} {m : MethodId} {args : Array Value} {below : List Frame} {meth : Method} {c : Code} {D : va_G} {tys : ai_ty} {A : Nat → Prop} {b L : Nat} {sx : Nat → Int32} {cells slots : Nat} {Q : State → Prop}
theorem hcall {q : ai_l5} {M' : ai_m} {pc cl : Nat} {t : ai_c} {rets : List Nat} {P : va_W → Prop} {ws : va_W} {x : Value} {lv : List (Nat × Value)}
    (C : ai_cx M d p R s m args c D tys A b L sx cells slots) (hd1 : 1 ≤ d) (hdec : decode M.2.1 pc = .ok (.invokevirtual q.1, 3)) (hlok : ai_lok tb_MT M.1.cls q) (hq0 : q.2.1 = 0) (hq1 : q.2.2.2.1 = 0) (hM' : tb_MT[q.2.2.1]? = some M') (hsc : M'.2.2.2.2.1 = false) (hml : M'.2.2.1 ≤ 17) (hm1 : 1 ≤ M'.2.2.1) (hv : M'.2.2.2.1 = none)
    (ht : tb_TY[cl]? = some t) (t0 : t.1 = 0) (t1 : t.2.1 = q.2.2.2.2) (hw : ai_wd tb_TY ad tys ws) (hx : ai_dv ad b [0] (0, cl, 0, 0) x)
    (hr : ∀ pcr ∈ rets, decode M'.2.1 pcr = .ok (.return_, 1))
    (callee : ∀ {p : Program} {e : Env} {R : Room} {s : State} {m : MethodId} {args : Array Value} {below : List Frame} {meth : Method} {c : Code} {Q : State → Prop}, ai_cx M' (d - 1) p R s m args c D tys A b L sx 0 0 → (∀ (pcr : Nat) (ws' : va_W) (lv' : List (Nat × Value)), pcr ∈ rets → P ws' → hG M' p l e R s m args below meth c D A 0 0 Q pcr lv' [] ws') → ∀ lv0, ai_lo ad b [0] [(0, (0, cl, 0, 0))] lv0 → hG M' p l e R s m args below meth c D A 0 0 Q 0 lv0 [] ws)
    (k : ∀ ws', P ws' → hG M p l e R s m args below meth c D A cells slots Q (pc + 3) lv [] ws') : hG M p l e R s m args below meth c D A cells slots Q pc lv [x] ws := by
  intro H locs ls hP hD hS hl
  obtain ⟨a, e1, w1, w2, w3⟩ := hw.get ht
  have hxa : x = .ref a := by
    rcases hx with ⟨-, q', q1, q2⟩ | ⟨q', -⟩ | ⟨q', -⟩ | ⟨q', -⟩ | ⟨q', -⟩
    · rw [q2, Option.some.inj (q1.symm.trans w2)]
    · exact absurd (id q' : (0 : Nat) = 1) (by decide)
    · exact absurd (id q' : (0 : Nat) = 2) (by decide)
    · exact absurd (id q' : (0 : Nat) = 3) (by decide)
    · exact absurd (id q' : (0 : Nat) = 4) (by decide)
  subst hxa
  unfold ai_lok at hlok
  rw [hq0] at hlok
  obtain ⟨M2, rr, m1, m2, m3, m4⟩ := hlok
  rw [hM'] at m1
  cases m1
  obtain ⟨hok, hpl⟩ := (tv_MT M' (List.mem_of_getElem? hM')).1
  have hA : ∀ q, H.size ≤ q → A q := fun q hq => C.2.2.2.2.2.2.2.1 q (Nat.le_trans hS.1 hq)
  have met : Met l M'.1 (ai_ws M') (ai_rm (d - 1)) (va_Pc [.ref a] (fun U => U.heap = H ∧ va_K D vwCl tys U ∧ ai_nj A U)) (hc_Q P D A) 0 0 A := by
    refine Met.ofW (cc := M'.2.1) (maxL := M'.2.2.1) (ret := M'.2.2.2.1) hpl rfl ?_
    intro p e s m args below meth c s₁ B hmL hv'
    obtain ⟨rfl, hH, hK, hN⟩ := hv'
    have hts := atoms_spec (ws := ai_ws M') B.pre
    have hown : s.vm.findClass M'.1.cls = some m.cls := findClass_of_methodNamed B.named
    have C' : ai_cx M' (d - 1) p (headSpec (ai_ws M') (ai_rm (d - 1))).room s m ([Value.ref a] : List Value).toArray c D tys A b L sx 0 0 :=
      ⟨B.exec, B.bytes, hmL, hown, fun w h => hts w (List.mem_cons_of_mem _ h), hN, hK, fun q hq => hA q (by rw [← hH]; exact hq), ⟨Nat.le_refl _, Nat.le_refl _, Nat.zero_le _, Nat.zero_le _⟩, fun h => by rw [hsc] at h; cases h⟩
    have hl' := lv_entry [Value.ref a] (n := M'.2.2.1) (by exact hm1)
    rw [lg_entry_eq]
    have hh : s.heap = H := hH
    refine callee C' (fun pcr ws' lv' hpr hPw => ?_) (lv_args 0 [.ref a]) ⟨rfl, Or.inl ⟨rfl, a, w2, rfl⟩, trivial⟩ s.heap [] _ (by rw [hh]; exact hP) hD va_S.rf hl'
    intro H2 locs2 ls2 hP2 hD2 hS2 hl2
    exact W.vret C'.1 C'.2.1 (B.returns.trans hv) (fun t ht hW => ⟨⟨ws', hPw, by rw [ht]; exact hP2, hD2, rfl⟩, hS2.F ht⟩) hS2.2.2 (hr pcr hpr) B.notSynchronized
  rcases w3 with ⟨-, fs, rfl, -⟩ | ⟨q1, -⟩ | ⟨q1, -⟩ | ⟨q1, -⟩
  · rw [t1] at w1
    refine ai_callW (va_runV (C := rr.1) (As := []) (rest := []) (Ts := ai_GT) (own := M.1.cls) ⟨C.1, C.2.1, C.2.2.1, C.2.2.2.1, C.2.2.2.2.1⟩ met (cwV q.2.2.2.1 C.2.2.2.2.1 m3 rfl rfl rfl m4 (ai_roomOK C hd1 hml)) ⟨ai_PcB, va_recv C.2.2.2.2.2.2.1 hP m2 w1, ai_PcW C hS⟩ rfl (by rw [hq1]; rfl) hl.1 rfl (lv_room (Nat.zero_le _)) hdec ⟨C.2.2.2.2.2.2.2.2.1.2.2.1, C.2.2.2.2.2.2.2.2.1.2.2.2⟩) (fun v0 st₀ t LL h0 hL hQ => ?_)
    obtain ⟨⟨ws', p1, p2, p3, p4⟩, hF⟩ := hQ
    injection p4 with p4
    subst p4
    exact k ws' p1 t.heap (locs ++ LL) ls p2 p3 (ai_SF hS h0 hF hL) hl
  · omega
  · omega
  · omega
end HCL
/-! the walk that knows advance, wordRead, step, nameHere -/
def su_T (WR : List (Nat × Nat × Nat)) (mid : Nat) (st : ai_s) : Option (List ai_s) := if Nat.beq mid 34 = true then su_av WR st else if Nat.beq mid 37 = true then su_wr WR st else if Nat.beq mid 104 = true then su_st WR st else if Nat.beq mid 103 = true then su_nh st WR else none
def hkT (WR : List (Nat × Nat × Nat)) : ai_K := (tb_TY, WR, tb_MT, [], su_T WR, [])
theorem hkT_su {WR : List (Nat × Nat × Nat)} : ai_SU (hkT WR) := by
  intro mid d cu st xs M h0 hM0 w0 ad p l e R s m args below meth c D tys A b L sx cells slots Q r0 C k
  have h : (if (Nat.beq st.1 0 && Nat.ble (ai_gd mid) d) = true then su_T WR mid st else none) = some xs := h0
  have hM : tb_MT[mid]? = some M := hM0
  clear h0 hM0
  split at h
  · rename_i hc
    rw [Bool.and_eq_true, ai_beq] at hc
    have hd : ai_gd mid ≤ d := Nat.le_of_ble_eq_true hc.2
    unfold su_T at h
    split at h
    · rename_i h34
      cases ai_beq.mp h34
      cases Option.some.inj (hM.symm.trans (rfl : tb_MT[34]? = some tb_m34))
      exact su_av_ok h hc.1 hd C k
    · split at h
      · rename_i h37
        cases ai_beq.mp h37
        cases Option.some.inj (hM.symm.trans (rfl : tb_MT[37]? = some tb_m37))
        exact su_wr_ok h hc.1 hd C k
      · split at h
        · rename_i h104
          cases ai_beq.mp h104
          cases Option.some.inj (hM.symm.trans (rfl : tb_MT[104]? = some tb_m104))
          exact su_st_ok h hc.1 hd C k
        · split at h
          · rename_i h103
            cases ai_beq.mp h103
            cases Option.some.inj (hM.symm.trans (rfl : tb_MT[103]? = some tb_m103))
            exact su_nh_ok h hc.1 hd C k
          · cases h
  · cases h
section HNT
variable {ad : List Nat} {M : ai_m} {d : Nat} {p : Program} {l : Launch} {e : Env} {R : Room} {s : State} {m : MethodId} {args : Array Value} {below : List Frame} {meth : Method} {c : Code} {D : va_G} {tys : ai_ty} {A : Nat → Prop} {b L : Nat} {sx : Nat → Int32} {cells slots : Nat} {Q : State → Prop}
theorem hsegT {WR : List (Nat × Nat × Nat)} {n mid : Nat} {cu : List Nat} {st : ai_s} {xs : List ai_s} (h : ai_ex (hkT WR) n mid M d cu st = some xs) (hM : tb_MT[mid]? = some M) (C : ai_cx M d p R s m args c D tys A b L sx cells slots) {r : List Int} {lv : List (Nat × Value)} {sk : List Value} {ws : va_W} (g : ai_gm tb_TY WR ws ad b L sx tys M.2.2.2.2.1 r st lv sk ws)
    (k : ∀ x ∈ xs, ∀ (r' : List Int) (lv' : List (Nat × Value)) (sk' : List Value) (ws' : va_W), ai_x r r' → ai_gm tb_TY WR ws ad b L sx tys M.2.2.2.2.1 r' x lv' sk' ws' → hG M p l e R s m args below meth c D A cells slots Q x.1 lv' sk' ws') : hG M p l e R s m args below meth c D A cells slots Q st.1 lv sk ws :=
  fun H locs ls hP hD hS hl => (ai_ex_ok (K := hkT WR) hkT_su tv_MT n) mid d cu st xs M h hM C (fun x hx r' lv' sk' ws' H' locs' ls' hx' g' hP' hD' hS' hl' => k x hx r' lv' sk' ws' hx' g' H' locs' ls' hP' hD' hS' hl') r lv sk ws H locs ls ai_x.rf g hP hD hS hl
end HNT
end
section
/-! a line, out of the facts of a walk's end -/
/-- the token that stands at name p is of kind kb.1, its names are kb.2 and on -/
def sy_tk (x : ai_s) (n p : Nat) : Option (Nat × Nat) := (x.2.2.2.2.2.find? fun q => Nat.ble 300 q.1 && (Nat.blt q.1 305 && (Nat.beq q.2.1 p && (Nat.beq q.2.2.1 n && decide (q.2.2.2.2 = 0))))).map fun q => (q.1 - 300, q.2.2.2.1)
def sy_is (r : List Int) (kb : Nat × Nat) (t : sp_T) : Prop := t.1 = kb.1 ∧ r[kb.2]? = some (t.2.1 : Int) ∧ r[kb.2 + 1]? = some (t.2.2.1 : Int) ∧ r[kb.2 + 2]? = some t.2.2.2
theorem sy_tk_ok {w0 : va_W} {r : List Int} {x : ai_s} {g : Nat → Int} {n p N P : Nat} {kb : Nat × Nat} (g2 : ai_sb w0 r x.2.2.2.2.2) (hg : fx_tape w0 g) (hn : r[n]? = some (N : Int)) (hp : r[p]? = some (P : Int)) (h : sy_tk x n p = some kb) : sy_is r kb (sp_tok g N P) := by
  obtain ⟨q, hfd, rfl⟩ := Option.map_eq_some_iff.mp h
  have hq := List.mem_of_find?_eq_some hfd
  have hc := List.find?_some hfd
  rw [Bool.and_eq_true, Bool.and_eq_true, Bool.and_eq_true, Bool.and_eq_true, ai_beq, ai_beq, decide_eq_true_eq] at hc
  obtain ⟨c1, c2, c3, c4, c5⟩ := hc
  have c1 := Nat.le_of_ble_eq_true c1
  have c2 : q.1 < 305 := Nat.le_of_ble_eq_true c2
  obtain ⟨-, -, -, -, -, -, -, -, -, -, -, e9⟩ := g2 q hq
  obtain ⟨za, zn, zf, ze, zv, a1, a2, a3, a4, a5, a6, a7, a8, a9⟩ := ((e9 (by omega)).2.2.1 g hg).1 c1 c2
  rw [c3, hp] at a1
  rw [c4, hn] at a2
  cases a1
  cases a2
  rw [c5, Int.add_zero, Int.toNat_natCast, Int.toNat_natCast] at a9
  rw [a9]
  exact ⟨rfl, by show r[q.2.2.2.1]? = some (zf.toNat : Int); rw [a3]; congr 1; omega, by show r[q.2.2.2.1 + 1]? = some (ze.toNat : Int); rw [a4]; congr 1; omega, a5⟩
def sy_bd (x : ai_s) (v : Nat) (lo hi : Int) : Option Bool := (x.2.2.2.1[v]?).bind fun e => if lo ≤ e.1 ∧ e.2.1 ≤ hi then some true else if e.2.1 < lo ∨ hi < e.1 then some false else none
theorem sy_bd_ok {r : List Int} {x : ai_s} {v : Nat} {lo hi z : Int} {o : Bool} (g1 : ai_ok r x.2.2.2.1) (hv : r[v]? = some z) (h : sy_bd x v lo hi = some o) : o = true ↔ lo ≤ z ∧ z ≤ hi := by
  obtain ⟨e, he, b1, b2, -⟩ := g1.get hv
  unfold sy_bd at h
  rw [he] at h
  have h : (if lo ≤ e.1 ∧ e.2.1 ≤ hi then some true else if e.2.1 < lo ∨ hi < e.1 then some false else none) = some o := h
  split at h
  · cases h
    exact ⟨fun _ => by omega, fun _ => rfl⟩
  · split at h
    · cases h
      exact ⟨fun hc => (by cases hc), fun hh => (by exfalso; omega)⟩
    · cases h
def sy_le (x : ai_s) (v s : Nat) : Option Bool := (x.2.2.2.1[v]?).bind fun e => if e.2.1 < 0 then some false else if (av_f x 5 v s none 1 || av_f x 4 s v none 0) = true then some false else if 0 ≤ e.1 ∧ (av_f x 4 v s none 1 || av_f x 5 s v none 0) = true then some true else none
theorem sy_le_ok {w0 : va_W} {r : List Int} {x : ai_s} {v s : Nat} {z y : Int} {o : Bool} (g1 : ai_ok r x.2.2.2.1) (g2 : ai_sb w0 r x.2.2.2.2.2) (hv : r[v]? = some z) (hs : r[s]? = some y) (h : sy_le x v s = some o) : o = true ↔ 0 ≤ z ∧ z ≤ y := by
  obtain ⟨e, he, b1, b2, -⟩ := g1.get hv
  unfold sy_le at h
  rw [he] at h
  have h : (if e.2.1 < 0 then some false else if (av_f x 5 v s none 1 || av_f x 4 s v none 0) = true then some false else if 0 ≤ e.1 ∧ (av_f x 4 v s none 1 || av_f x 5 s v none 0) = true then some true else none) = some o := h
  split at h
  · cases h
    exact ⟨fun hc => (by cases hc), fun hh => (by exfalso; omega)⟩
  · split at h
    · rename_i hc
      cases h
      refine ⟨fun hc => (by cases hc), fun hh => ?_⟩
      exfalso
      rw [Bool.or_eq_true] at hc
      rcases hc with hc | hc
      · have := av_f5 g2 hv hs hc
        omega
      · have := av_f4 g2 hs hv hc
        omega
    · split at h
      · rename_i hc
        cases h
        refine ⟨fun _ => ?_, fun _ => rfl⟩
        have h2 := hc.2
        rw [Bool.or_eq_true] at h2
        rcases h2 with h2 | h2
        · have := av_f4 g2 hv hs h2
          omega
        · have := av_f5 g2 hs hv h2
          omega
      · cases h
abbrev sy_r : Type := (Nat × Nat) ⊕ Nat
def sy_ok (r : List Int) (g : Nat → Int) (N tests told : Nat) (as : List Int) : sy_r → sp_R → Prop
  | .inl x, R => ∃ P : Nat, r[x.2]? = some (P : Int) ∧ R = .inl (x.1, P)
  | .inr b, R => ∃ E : Nat, r[b + 1]? = some (E : Int) ∧ R = .inr (sp_tok g N E, tests, told, as)
def sy_stop (kb : Nat × Nat) : Option sy_r := if kb.1 = 3 then some (.inr kb.2) else some (.inl (sp_ft kb.1, kb.2))
def sy_t3 (x : ai_s) (n : Nat) (kb : Nat × Nat) : Option sy_r := if kb.1 = 2 then (sy_bd x (kb.2 + 2) 0 99).bind fun o => if o = true then (sy_tk x n (kb.2 + 1)).bind sy_stop else some (.inl (3, kb.2)) else sy_stop kb
def sy_t2 (x : ai_s) (n s : Nat) (kb : Nat × Nat) : Option sy_r := if kb.1 = 2 then (sy_le x (kb.2 + 2) s).bind fun o => if o = true then (sy_tk x n (kb.2 + 1)).bind (sy_t3 x n) else some (.inl (3, kb.2)) else sy_stop kb
def sy_t1 (x : ai_s) (n : Nat) (kb : Nat × Nat) : Option sy_r := if kb.1 = 2 then (sy_bd x (kb.2 + 2) 1 99).bind fun o => if o = true then (sy_tk x n (kb.2 + 1)).bind (sy_t2 x n (kb.2 + 2)) else some (.inl (3, kb.2)) else some (.inl (sp_ft kb.1, kb.2))
def sy_o1 (x : ai_s) (n : Nat) (most : Int) (kb : Nat × Nat) : Option sy_r := if kb.1 = 2 then (sy_bd x (kb.2 + 2) 0 most).bind fun o => if o = true then (sy_tk x n (kb.2 + 1)).bind sy_stop else some (.inl (3, kb.2)) else some (.inl (sp_ft kb.1, kb.2))
def sy_plan (x : ai_s) (n : Nat) : Nat → Nat × Nat → List Nat → Option (Nat × List Nat × Nat × Nat)
  | 0, _, _ => none
  | f + 1, kb, as => if kb.1 = 2 then (if 8 ≤ as.length then some (5, as, kb) else (sy_bd x (kb.2 + 2) 0 4).bind fun o => if o = true then (sy_tk x n (kb.2 + 1)).bind fun kc => sy_plan x n f kc (as ++ [kb.2 + 2]) else some (3, as, kb)) else some (0, as, kb)
def sy_p1 (pl : Nat × List Nat × Nat × Nat) : Option sy_r := if pl.1 = 0 then sy_stop pl.2.2 else some (.inl (pl.1, pl.2.2.2))
section SYE
variable {w0 : va_W} {r : List Int} {x : ai_s} {g : Nat → Int} {n N tests told : Nat} {as : List Int} {kb : Nat × Nat} {t : sp_T} {y : sy_r}
theorem sy_stop_ok (h : sy_is r kb t) (hy : sy_stop kb = some y) : sy_ok r g N tests told as y (sp_stop g N tests told as t) := by
  obtain ⟨h1, h2, h3, h4⟩ := h
  unfold sy_stop at hy
  unfold sp_stop
  rw [h1]
  split at hy
  · rename_i hk
    cases hy
    exact ⟨t.2.2.1, h3, by rw [if_pos hk]⟩
  · rename_i hk
    cases hy
    exact ⟨t.2.1, h2, by rw [if_neg hk]⟩
theorem sy_t3_ok (g1 : ai_ok r x.2.2.2.1) (g2 : ai_sb w0 r x.2.2.2.2.2) (hg : fx_tape w0 g) (hn : r[n]? = some (N : Int)) (h : sy_is r kb t) (hy : sy_t3 x n kb = some y) : sy_ok r g N tests told as y (sp_t3 g N tests told as t) := by
  have h' := h
  obtain ⟨h1, h2, h3, h4⟩ := h
  unfold sy_t3 at hy
  unfold sp_t3
  split at hy
  · rename_i hk
    rw [if_pos (h1.trans hk)]
    obtain ⟨o, ho, hy⟩ := Option.bind_eq_some_iff.mp hy
    have hb := sy_bd_ok g1 h4 ho
    split at hy
    · rename_i hoo
      rw [if_pos (hb.mp hoo)]
      obtain ⟨kc, hc, hy⟩ := Option.bind_eq_some_iff.mp hy
      exact sy_stop_ok (sy_tk_ok g2 hg hn h3 hc) hy
    · rename_i hoo
      rw [if_neg (fun hc => hoo (hb.mpr hc))]
      cases hy
      exact ⟨t.2.1, h2, rfl⟩
  · rename_i hk
    rw [if_neg (fun hc => hk (h1.symm.trans hc))]
    exact sy_stop_ok h' hy
theorem sy_t2_ok {s : Nat} {z : Int} (g1 : ai_ok r x.2.2.2.1) (g2 : ai_sb w0 r x.2.2.2.2.2) (hg : fx_tape w0 g) (hn : r[n]? = some (N : Int)) (hs : r[s]? = some z) (h : sy_is r kb t) (hy : sy_t2 x n s kb = some y) : sy_ok r g N tests told as y (sp_t2 g N tests told as z t) := by
  have h' := h
  obtain ⟨h1, h2, h3, h4⟩ := h
  unfold sy_t2 at hy
  unfold sp_t2
  split at hy
  · rename_i hk
    rw [if_pos (h1.trans hk)]
    obtain ⟨o, ho, hy⟩ := Option.bind_eq_some_iff.mp hy
    have hb := sy_le_ok g1 g2 h4 hs ho
    split at hy
    · rename_i hoo
      rw [if_pos (hb.mp hoo)]
      obtain ⟨kc, hc, hy⟩ := Option.bind_eq_some_iff.mp hy
      exact sy_t3_ok g1 g2 hg hn (sy_tk_ok g2 hg hn h3 hc) hy
    · rename_i hoo
      rw [if_neg (fun hc => hoo (hb.mpr hc))]
      cases hy
      exact ⟨t.2.1, h2, rfl⟩
  · rename_i hk
    rw [if_neg (fun hc => hk (h1.symm.trans hc))]
    exact sy_stop_ok h' hy
theorem sy_t1_ok (g1 : ai_ok r x.2.2.2.1) (g2 : ai_sb w0 r x.2.2.2.2.2) (hg : fx_tape w0 g) (hn : r[n]? = some (N : Int)) (h : sy_is r kb t) (hy : sy_t1 x n kb = some y) : sy_ok r g N (tests + 1) told as y (sp_t1 g N tests told as t) := by
  obtain ⟨h1, h2, h3, h4⟩ := h
  unfold sy_t1 at hy
  unfold sp_t1
  split at hy
  · rename_i hk
    rw [if_pos (h1.trans hk)]
    obtain ⟨o, ho, hy⟩ := Option.bind_eq_some_iff.mp hy
    have hb := sy_bd_ok g1 h4 ho
    split at hy
    · rename_i hoo
      rw [if_pos (hb.mp hoo)]
      obtain ⟨kc, hc, hy⟩ := Option.bind_eq_some_iff.mp hy
      exact sy_t2_ok g1 g2 hg hn h4 (sy_tk_ok g2 hg hn h3 hc) hy
    · rename_i hoo
      rw [if_neg (fun hc => hoo (hb.mpr hc))]
      cases hy
      exact ⟨t.2.1, h2, rfl⟩
  · rename_i hk
    rw [if_neg (fun hc => hk (h1.symm.trans hc))]
    cases hy
    exact ⟨t.2.1, h2, by rw [h1]⟩
theorem sy_o1_ok {most : Int} (g1 : ai_ok r x.2.2.2.1) (g2 : ai_sb w0 r x.2.2.2.2.2) (hg : fx_tape w0 g) (hn : r[n]? = some (N : Int)) (h : sy_is r kb t) (hy : sy_o1 x n most kb = some y) : sy_ok r g N tests told as y (sp_o1 g N tests told as most t) := by
  obtain ⟨h1, h2, h3, h4⟩ := h
  unfold sy_o1 at hy
  unfold sp_o1
  split at hy
  · rename_i hk
    rw [if_pos (h1.trans hk)]
    obtain ⟨o, ho, hy⟩ := Option.bind_eq_some_iff.mp hy
    have hb := sy_bd_ok g1 h4 ho
    split at hy
    · rename_i hoo
      rw [if_pos (hb.mp hoo)]
      obtain ⟨kc, hc, hy⟩ := Option.bind_eq_some_iff.mp hy
      exact sy_stop_ok (sy_tk_ok g2 hg hn h3 hc) hy
    · rename_i hoo
      rw [if_neg (fun hc => hoo (hb.mpr hc))]
      cases hy
      exact ⟨t.2.1, h2, rfl⟩
  · rename_i hk
    rw [if_neg (fun hc => hk (h1.symm.trans hc))]
    cases hy
    exact ⟨t.2.1, h2, by rw [h1]⟩
def sy_v (r : List Int) (as : List Nat) : List Int := as.map fun a => (r[a]?).getD 0
theorem sy_plan_ok (g1 : ai_ok r x.2.2.2.1) (g2 : ai_sb w0 r x.2.2.2.2.2) (hg : fx_tape w0 g) (hn : r[n]? = some (N : Int)) : ∀ (f : Nat) (kb : Nat × Nat) (t : sp_T) (as : List Nat) (pl : Nat × List Nat × Nat × Nat), sy_is r kb t → sy_plan x n f kb as = some pl → ∃ tk : sp_T, sp_plan g N f t (sy_v r as) = (pl.1, sy_v r pl.2.1, tk) ∧ sy_is r pl.2.2 tk
  | 0, _, _, _, _, _, hy => by cases hy
  | f + 1, kb, t, as, pl, h, hy => by
    have h' := h
    obtain ⟨h1, h2, h3, h4⟩ := h
    unfold sy_plan at hy
    unfold sp_plan
    split at hy
    · rename_i hk
      rw [if_pos (h1.trans hk)]
      have hlen : (sy_v r as).length = as.length := List.length_map _
      rw [hlen]
      split at hy
      · rename_i h8
        rw [if_pos h8]
        cases hy
        exact ⟨t, rfl, h'⟩
      · rename_i h8
        rw [if_neg h8]
        obtain ⟨o, ho, hy⟩ := Option.bind_eq_some_iff.mp hy
        have hb := sy_bd_ok g1 h4 ho
        split at hy
        · rename_i hoo
          rw [if_pos (tp_i_iff.mpr (hb.mp hoo))]
          obtain ⟨kc, hc, hy⟩ := Option.bind_eq_some_iff.mp hy
          obtain ⟨tk, e1, e2⟩ := sy_plan_ok g1 g2 hg hn f kc _ (as ++ [kb.2 + 2]) pl (sy_tk_ok g2 hg hn h3 hc) hy
          refine ⟨tk, ?_, e2⟩
          rw [← e1]
          congr 1
          unfold sy_v
          rw [List.map_append]
          show _ = _ ++ [(r[kb.2 + 2]?).getD 0]
          rw [h4]
          rfl
        · rename_i hoo
          rw [if_neg (fun hc => hoo (hb.mpr (tp_i_iff.mp hc)))]
          cases hy
          exact ⟨t, rfl, h'⟩
    · rename_i hk
      rw [if_neg (fun hc => hk (h1.symm.trans hc))]
      cases hy
      exact ⟨t, rfl, h'⟩
theorem sy_p1_ok {pl : Nat × List Nat × Nat × Nat} {tk : sp_T} {bs : List Int} (h : sy_is r pl.2.2 tk) (hy : sy_p1 pl = some y) : sy_ok r g N tests told bs y (sp_p1 g N tests told (pl.1, bs, tk)) := by
  unfold sy_p1 at hy
  unfold sp_p1
  split at hy
  · rename_i h0
    rw [if_pos (show (pl.1, bs, tk).1 = 0 from h0)]
    exact sy_stop_ok h hy
  · rename_i h0
    rw [if_neg (show ¬ (pl.1, bs, tk).1 = 0 from h0)]
    cases hy
    exact ⟨tk.2.1, h.2.1, rfl⟩
end SYE
end
section
/-! the evening that a text tells: a page E of ints: kind t, size 4 + t, moved 8 + t, pulled 12 + t, strength 16, laughs 17 -/
def ev_up (E : Nat → Int) (i : Nat) (v : Int) : Nat → Int := fun j => if j = i then v else E j
def ev_test (E : Nat → Int) (t : Nat) (k s m p : Int) : Nat → Int := fun j => if j = t then k else if j = 4 + t then s else if j = 8 + t then m else if j = 12 + t then p else E j
theorem ev_up_at {E : Nat → Int} {i : Nat} {v : Int} : ev_up E i v i = v := if_pos rfl
theorem ev_up_ne {E : Nat → Int} {i j : Nat} {v : Int} (h : j ≠ i) : ev_up E i v j = E j := if_neg h
section EVT
variable {E : Nat → Int} {t : Nat} {k s m p : Int}
theorem ev_test_k : ev_test E t k s m p t = k := if_pos rfl
theorem ev_test_s : ev_test E t k s m p (4 + t) = s := by
  unfold ev_test
  rw [if_neg (by omega), if_pos rfl]
theorem ev_test_m : ev_test E t k s m p (8 + t) = m := by
  unfold ev_test
  rw [if_neg (by omega), if_neg (by omega), if_pos rfl]
theorem ev_test_p : ev_test E t k s m p (12 + t) = p := by
  unfold ev_test
  rw [if_neg (by omega), if_neg (by omega), if_neg (by omega), if_pos rfl]
theorem ev_test_ne {j : Nat} (h1 : j ≠ t) (h2 : j ≠ 4 + t) (h3 : j ≠ 8 + t) (h4 : j ≠ 12 + t) : ev_test E t k s m p j = E j := by
  unfold ev_test
  rw [if_neg h1, if_neg h2, if_neg h3, if_neg h4]
end EVT
/-- how much a test's line tells as moved, as pulled, from its first number's token on -/
def ev_m (g : Nat → Int) (n : Nat) (t1 : sp_T) : Int := if (sp_tok g n t1.2.2.1).1 = 2 then (sp_tok g n t1.2.2.1).2.2.2 else 0
def ev_p (g : Nat → Int) (n : Nat) (t1 : sp_T) : Int := if (sp_tok g n t1.2.2.1).1 = 2 ∧ (sp_tok g n (sp_tok g n t1.2.2.1).2.2.1).1 = 2 then (sp_tok g n (sp_tok g n t1.2.2.1).2.2.1).2.2.2 else 0
def ev_word (g : Nat → Int) (n w : Nat) (S : sp_S) (E : Nat → Int) : Nat → Int :=
  if w < 4 then ev_test E S.2.1 (w : Int) (sp_tok g n S.1.2.2.1).2.2.2 (ev_m g n (sp_tok g n S.1.2.2.1)) (ev_p g n (sp_tok g n S.1.2.2.1))
  else if w = 4 then ev_up E 16 (sp_tok g n S.1.2.2.1).2.2.2 else if w = 5 then ev_up E 17 (sp_tok g n S.1.2.2.1).2.2.2 else E
def ev_line (g : Nat → Int) (n : Nat) (S : sp_S) (E : Nat → Int) : Nat → Int := ev_word g n (sp_word g S.1.2.1 S.1.2.2.1) S E
def ev_run (g : Nat → Int) (n : Nat) : Nat → sp_S → (Nat → Int) → Nat → Int
  | 0, _, E => E
  | f + 1, S, E => if S.1.1 = 0 then E else match sp_line g n S with
    | .inl _ => E
    | .inr S' => ev_run g n f S' (ev_line g n S E)
def ev_0 : Nat → Int := fun j => if j = 16 then 10 else 0
def ev_text (g : Nat → Int) (n : Nat) : Nat → Int := ev_run g n 161 (sp_tok g n 0, 0, 0, []) ev_0
/-- the acts that a text tells -/
def ev_acts (g : Nat → Int) (n : Nat) : List Int := match sp_run g n 161 0 (sp_tok g n 0, 0, 0, []) with
  | .inl _ => []
  | .inr (S, _) => S.2.2.2
def lkq (x : ai_s) (k i : Nat) (v : ai_v) : Bool := decide (ai_lk x.2.2.2.2.1 k i = some v)
/-- a test's four places, out of the facts of a walk's end, behind the token k1 -/
def sy_ev1 (x : ai_s) (n : Nat) (k1 : Nat × Nat) (w : ai_v) (a b c d : Nat × Nat) : Bool := (sy_tk x n (k1.2 + 1)).any fun k2 => lkq x a.1 a.2 w && (lkq x b.1 b.2 (1, k1.2 + 2, 0, 0) &&
  if k2.1 = 2 then lkq x c.1 c.2 (1, k2.2 + 2, 0, 0) && (sy_tk x n (k2.2 + 1)).any fun k3 => lkq x d.1 d.2 (if k3.1 = 2 then (1, k3.2 + 2, 0, 0) else (1, 0, 0, 0)) else lkq x c.1 c.2 (1, 0, 0, 0) && lkq x d.1 d.2 (1, 0, 0, 0))
def sy_ev (x : ai_s) (n p : Nat) (w : ai_v) (a b c d : Nat × Nat) : Bool := (sy_tk x n p).any fun k1 => sy_ev1 x n k1 w a b c d
/-- the number of the token at a name -/
def sy_num (x : ai_s) (n p : Nat) (a : Nat × Nat) (o : Int) : Bool := (sy_tk x n p).any fun k1 => lkq x a.1 a.2 (1, k1.2 + 2, 0, o)
end
