/-! .. and nameHere as a known method, where the word is told -/
section NHS
variable {ad : List Nat} {M : ai_m} {p : Program} {l : Launch} {e : Env} {R : Room} {s : State} {m : MethodId} {args : Array Value} {below : List Frame} {meth : Method} {c : Code} {D : va_G} {tys : ai_ty} {A : Nat → Prop} {b L : Nat} {sx : Nat → Int32} {cells slots : Nat} {Q : State → Prop}
theorem hG_this2 {r : List Int} {lo : List (Nat × ai_v)} {lv : List (Nat × Value)} {cl pc : Nat} {o : Int} {sk : List Value} {ws : va_W} (h : ai_lo ad b r lo lv) (h0 : r[0]? = some 0) (hg : ai_get lo 0 = some (0, cl, 0, 0)) (hg1 : ai_get lo 1 = some (1, 0, 0, o)) (k : ∀ lv1, ai_lo ad b [0] [(0, (0, cl, 0, 0)), (1, (1, 0, 0, o))] lv1 → hG M p l e R s m args below meth c D A cells slots Q pc lv1 sk ws) : hG M p l e R s m args below meth c D A cells slots Q pc lv sk ws := by
  obtain ⟨n, x, h1, h2⟩ := ai_get_ok h hg
  obtain ⟨n', x', h1', h2'⟩ := ai_get_ok h hg1
  intro H locs ls hP hD hS hl
  refine k [(0, x), (1, x')] ⟨rfl, ?_, rfl, ?_, trivial⟩ H locs ls hP hD hS ⟨hl.1, hl.2.1, fun q hq => ?_⟩
  · exact dv0 h2 h0 rfl rfl
  · exact dv0 h2' h0 rfl rfl
  · rcases List.mem_cons.mp hq with rfl | hq
    · exact lv_at hl n h1
    · rw [List.mem_singleton.mp hq]
      exact lv_at hl n' h1'
theorem nh_back (C : ai_cx tb_m103 5 p R s m args c D tys A b L sx cells slots) {ws : va_W} {lv : List (Nat × Value)} (k : hG tb_m103 p l e R s m args below meth c D A cells slots Q 2 lv [] ws) : hG tb_m103 p l e R s m args below meth c D A cells slots Q 115 lv [] ws := by
  intro H locs ls hP hD hS hl
  exact lv_goto (tgt := 2) C.1 C.2.1 (tv_m103.1.1.1 (115, .goto (-113), 3) (List.mem_of_getElem? (i := 68) rfl)) (by decide) (k H locs ls hP hD hS hl)
theorem nh_len {j : Nat} (hj : j < 7) : 3 ≤ (nh_w j).length := by
  obtain ⟨h1, -⟩ := jw j hj
  have := jw3 j hj
  unfold nh_w
  omega
theorem nh_step {j : Nat} (hj : j < 7) (C : ai_cx tb_m103 5 p R s m args c D tys A b L sx cells slots) {ws : va_W} {zn zf ze zt : Int32} {g : Nat → Int} (hw : ai_wd tb_TY ad tys ws) (hn : ai_sl ws 49 7 (.int zn)) (hf : ai_sl ws 49 12 (.int zf)) (he : ai_sl ws 49 11 (.int ze)) (ht : ai_sl ws 49 13 (.int zt)) (t1 : zt.toInt = 1) (hle : ze.toInt ≤ zn.toInt) (hg : ∀ i, i < zn.toInt.toNat → fx_o ws 52 i = some (g i)) {lv : List (Nat × Value)} (hlv : ai_lo ad b [0] (nh_lo j) lv)
    (k1 : ∀ (ws' : va_W) (lv' : List (Nat × Value)), ai_wd tb_TY ad tys ws' → ai_fr [] ws ws' → sp_is g zf.toInt.toNat ze.toInt.toNat (nh_w j) = false → ai_lo ad b [0] (nh_lo (j + 1)) lv' → hG tb_m103 p l e R s m args below meth c D A cells slots Q 115 lv' [] ws')
    (k2 : ∀ (ws' : va_W) (lv' : List (Nat × Value)) (z : Int32), ai_wd tb_TY ad tys ws' → ai_fr [] ws ws' → sp_is g zf.toInt.toNat ze.toInt.toNat (nh_w j) = true → z.toInt = (j : Int) → hG tb_m103 p l e R s m args below meth c D A cells slots Q 111 lv' [.int z] ws') : hG tb_m103 p l e R s m args below meth c D A cells slots Q 2 lv [] ws := by
  obtain ⟨n0, n1⟩ := f49 (i := 7) hw hn rfl
  obtain ⟨c0, c1⟩ := f49 (i := 11) hw he rfl
  obtain ⟨i0, i1⟩ := f49 (i := 12) hw hf rfl
  have hL := nh_len hj
  obtain ⟨xs, h1, h3⟩ := ai_anyE (nh_r j hj)
  have gm : ai_gm tb_TY [] ws ad b L sx tys tb_m103.2.2.2.2.1 [0, 0, zn.toInt, zf.toInt, ze.toInt] (nh_st j) lv [] ws := by
    refine ⟨en_mk (by simp only [nh_st, mf_e, List.cons_append, List.nil_append, en_b, and_true]; omega) rfl, (fun q hq => by cases hq), lo0_ok (r := [0]) rfl rfl rfl hlv, trivial, hw, kc (kn1 hn (n := 2) (t := zn.toInt) rfl (by omega)) (kc (kn1 hf (n := 3) (t := zf.toInt) rfl (by omega)) (kc (kn1 he (n := 4) (t := ze.toInt) rfl (by omega)) (kc (kn1 ht (n := 0) (t := 0) rfl (by omega)) k0))), fun _ _ _ _ h => h, fun h => by cases h⟩
  refine hseg (st := nh_st j) h1 rfl C gm (fun x hx r' lv' sk' ws' hx' g' => ?_)
  obtain ⟨g1, g2, g3, g4, g5, g6, g7, g8⟩ := g'
  have r0 : r'[0]? = some 0 := hx'.at rfl
  have r2 : r'[2]? = some zn.toInt := hx'.at rfl
  have r3 : r'[3]? = some zf.toInt := hx'.at rfl
  have r4 : r'[4]? = some ze.toInt := hx'.at rfl
  have hox := List.all_eq_true.mp h3 x hx
  unfold nh_ok at hox
  rw [Bool.or_eq_true] at hox
  rcases hox with hox | hox
  · rw [Bool.and_eq_true, Bool.and_eq_true, Bool.and_eq_true, Bool.and_eq_true, ai_beq, decide_eq_true_eq, decide_eq_true_eq, Bool.or_eq_true] at hox
    obtain ⟨p1, hs, p2, p3, p4⟩ := hox
    have hsk : sk' = [] := by
      rw [List.isEmpty_iff.mp hs] at g4
      exact g4.nil
    subst hsk
    rw [p1]
    refine hG_this2 g3 r0 p2 p3 (fun lv1 hlv1 => k1 ws' lv1 g5 g7 ?_ hlv1)
    rw [Bool.eq_false_iff]
    intro hc
    obtain ⟨u1, u2⟩ := sp_is_iff.mp hc
    rcases p4 with p4 | p4
    · obtain ⟨v, e0, b1, b2, b3, b4⟩ := nh_dok g1 g2 r3 r4 p4
      rw [Bool.or_eq_true, Bool.or_eq_true, decide_eq_true_eq, decide_eq_true_eq] at b1
      rcases b1 with b1 | b1 | b1
      · omega
      · omega
      · have := av_140ok g1 g2 b2 b1
        omega
    · obtain ⟨k, hk, p4⟩ := List.any_eq_true.mp p4
      have hk := List.mem_range.mp hk
      have u3 := u2 k hk
      rw [Bool.or_eq_true] at p4
      rcases p4 with p4 | p4
      · rw [Bool.and_eq_true] at p4
        obtain ⟨v, e0, b1, b2, b3, b4⟩ := nh_dok g1 g2 r3 r4 p4.1
        rw [Bool.and_eq_true, decide_eq_true_eq, decide_eq_true_eq] at b1
        have := av_f5 g2 r3 r2 p4.2
        omega
      · unfold nh_cn at p4
        rw [Bool.and_eq_true] at p4
        have h4 := av_f4 g2 r3 r2 p4.1
        have hb : fx_o ws 52 (zf.toInt + (k : Int)).toNat = some (g (zf.toInt.toNat + k)) := by
          rw [show (zf.toInt + (k : Int)).toNat = zf.toInt.toNat + k by omega]
          exact hg _ (by omega)
        obtain ⟨v, e0, b1, b2, b3, b4⟩ := mg_ok g1 g2 r3 hb p4.2
        have u4 : (nh_w j).getD k 0 = g (zf.toInt.toNat + k) := by
          rw [List.getD_eq_getElem?_getD, u3]
          rfl
        rw [u4, Bool.or_eq_true, Bool.or_eq_true, decide_eq_true_eq, decide_eq_true_eq] at b1
        rcases b1 with b1 | b1 | b1
        · omega
        · omega
        · exact av_140ok g1 g2 b2 b1 rfl
  · rw [Bool.and_eq_true, Bool.and_eq_true, Bool.and_eq_true, ai_beq, decide_eq_true_eq] at hox
    obtain ⟨p1, p2, p3, p4⟩ := hox
    rw [p2] at g4
    obtain ⟨y, s1, rfl, dy, g4⟩ := g4.cons
    have hs1 := g4.nil
    subst hs1
    obtain ⟨z, rfl, hz⟩ := dvn dy r0
    rw [p1]
    refine k2 ws' lv' z g5 g7 (sp_is_iff.mpr ?_) (by omega)
    obtain ⟨v, e0, b1, b2, b3, b4⟩ := nh_dok g1 g2 r3 r4 p3
    rw [Bool.and_eq_true, decide_eq_true_eq, decide_eq_true_eq] at b1
    refine ⟨by omega, fun k hk => ?_⟩
    have p5 := List.all_eq_true.mp p4 k (List.mem_range.mpr hk)
    unfold nh_ce at p5
    rw [Bool.and_eq_true] at p5
    have h4 := av_f4 g2 r3 r2 p5.1
    have hb : fx_o ws 52 (zf.toInt + (k : Int)).toNat = some (g (zf.toInt.toNat + k)) := by
      rw [show (zf.toInt + (k : Int)).toNat = zf.toInt.toNat + k by omega]
      exact hg _ (by omega)
    obtain ⟨v', e1, d1, d2, d3, d4⟩ := mg_ok g1 g2 r3 hb p5.2
    rw [Bool.and_eq_true, decide_eq_true_eq, decide_eq_true_eq] at d1
    rw [List.getElem?_eq_getElem hk]
    rw [List.getD_eq_getElem?_getD, List.getElem?_eq_getElem hk] at d1
    have d1 : e1.1 = (nh_w j)[k] ∧ e1.2.1 = (nh_w j)[k] := d1
    rw [show (nh_w j)[k] = g (zf.toInt.toNat + k) by omega]
theorem nh_all (C : ai_cx tb_m103 5 p R s m args c D tys A b L sx cells slots) {ws : va_W} {zn zf ze zt : Int32} {g : Nat → Int} (hw : ai_wd tb_TY ad tys ws) (hn : ai_sl ws 49 7 (.int zn)) (hf : ai_sl ws 49 12 (.int zf)) (he : ai_sl ws 49 11 (.int ze)) (ht : ai_sl ws 49 13 (.int zt)) (t1 : zt.toInt = 1) (hle : ze.toInt ≤ zn.toInt) (hg : ∀ i, i < zn.toInt.toNat → fx_o ws 52 i = some (g i)) {lv : List (Nat × Value)} (hlv : ai_lo ad b [0] ms_lo lv)
    (k1 : ∀ (ws' : va_W) (lv' : List (Nat × Value)) (z : Int32), ai_wd tb_TY ad tys ws' → ai_fr [] ws ws' → sp_word g zf.toInt.toNat ze.toInt.toNat = 7 → z.toInt = -4 → hG tb_m103 p l e R s m args below meth c D A cells slots Q 120 lv' [.int z] ws')
    (k2 : ∀ (ws' : va_W) (lv' : List (Nat × Value)) (z : Int32) (j : Nat), ai_wd tb_TY ad tys ws' → ai_fr [] ws ws' → j < 7 → sp_word g zf.toInt.toNat ze.toInt.toNat = j → z.toInt = (j : Int) → hG tb_m103 p l e R s m args below meth c D A cells slots Q 111 lv' [.int z] ws') : hG tb_m103 p l e R s m args below meth c D A cells slots Q 0 lv [] ws := by
  have wn : ∀ (k i : Nat), ai_wr [] k i i = false := fun _ _ => rfl
  have loop : ∀ (n j : Nat), j + n = 7 → (∀ i, i < j → sp_is g zf.toInt.toNat ze.toInt.toNat (sp_W.getD i []) = false) → ∀ (ws' : va_W) (lv' : List (Nat × Value)), ai_wd tb_TY ad tys ws' → ai_fr [] ws ws' → ai_lo ad b [0] (nh_lo j) lv' → hG tb_m103 p l e R s m args below meth c D A cells slots Q 2 lv' [] ws' := by
    intro n
    induction n with
    | zero =>
      intro j hj hpre ws' lv' hw' hf' hlv'
      have e7 : j = 7 := by omega
      subst e7
      obtain ⟨xs, h1, h3⟩ := ai_anyE nh_r7
      have gm : ai_gm tb_TY [] ws' ad b L sx tys tb_m103.2.2.2.2.1 [0, 0] nh_7 lv' [] ws' := by
        refine ⟨en_mk (by simp only [nh_7, en_b, and_true]; omega) rfl, (fun q hq => by cases hq), lo0_ok (r := [0]) rfl rfl rfl hlv', trivial, hw', k0, fun _ _ _ _ h => h, fun h => by cases h⟩
      refine hseg (st := nh_7) h1 rfl C gm (fun x hx r' lv2 sk' ws2 hx' g' => ?_)
      obtain ⟨g1, g2, g3, g4, g5, g6, g7, g8⟩ := g'
      have r0 : r'[0]? = some 0 := hx'.at rfl
      have hox := List.all_eq_true.mp h3 x hx
      rw [Bool.and_eq_true, ai_beq, decide_eq_true_eq] at hox
      rw [hox.2] at g4
      obtain ⟨y, s1, rfl, dy, g4⟩ := g4.cons
      have hs1 := g4.nil
      subst hs1
      obtain ⟨z, rfl, hz⟩ := dvn dy r0
      rw [hox.1]
      exact k1 ws2 lv2 z g5 (hf'.tr g7) (by rw [sp_word_P]; exact sp_P_at (by decide) hpre (fun h => absurd h (by decide))) (by omega)
    | succ n ih =>
      intro j hj hpre ws' lv' hw' hf' hlv'
      have hg' : ∀ i, i < zn.toInt.toNat → fx_o ws' 52 i = some (g i) := fun i hi => fr_fx hw' (k := 52) rfl hf' (wn _ _) (hg i hi)
      refine nh_step (j := j) (by omega) C hw' (hf' 49 7 _ (wn _ _) hn) (hf' 49 12 _ (wn _ _) hf) (hf' 49 11 _ (wn _ _) he) (hf' 49 13 _ (wn _ _) ht) t1 hle hg' hlv' (fun ws2 lv2 hw2 hf2 hno hlv2 => ?_) (fun ws2 lv2 z hw2 hf2 hyes hz => ?_)
      · refine nh_back C (ih (j + 1) (by omega) (fun i hi => ?_) ws2 lv2 hw2 (hf'.tr hf2) hlv2)
        by_cases hij : i < j
        · exact hpre i hij
        · rw [show i = j by omega]
          exact hno
      · exact k2 ws2 lv2 z j hw2 (hf'.tr hf2) (by omega) (by rw [sp_word_P]; exact sp_P_at (by omega) hpre (fun _ => hyes)) hz
  obtain ⟨xs, h1, h3⟩ := ai_anyE nh_r00
  have gm : ai_gm tb_TY [] ws ad b L sx tys tb_m103.2.2.2.2.1 [0, 0] nh_0 lv [] ws := by
    refine ⟨en_mk (by simp only [nh_0, en_b, and_true]; omega) rfl, (fun q hq => by cases hq), lo0_ok (r := [0]) rfl rfl rfl hlv, trivial, hw, k0, fun _ _ _ _ h => h, fun h => by cases h⟩
  refine hseg (st := nh_0) h1 rfl C gm (fun x hx r' lv2 sk' ws2 hx' g' => ?_)
  obtain ⟨g1, g2, g3, g4, g5, g6, g7, g8⟩ := g'
  have r0 : r'[0]? = some 0 := hx'.at rfl
  have hox := List.all_eq_true.mp h3 x hx
  rw [Bool.and_eq_true, Bool.and_eq_true, Bool.and_eq_true, ai_beq, decide_eq_true_eq, decide_eq_true_eq] at hox
  obtain ⟨p1, hs, p2, p3⟩ := hox
  have hsk : sk' = [] := by
    rw [List.isEmpty_iff.mp hs] at g4
    exact g4.nil
  subst hsk
  rw [p1]
  exact hG_this2 g3 r0 p2 p3 (fun lv1 hlv1 => loop 7 0 rfl (fun i hi => absurd hi (Nat.not_lt_zero _)) ws2 lv1 g5 g7 hlv1)
end NHS
def su_nh (st : ai_s) (WR : List (Nat × Nat × Nat)) : Option (List ai_s) :=
  (ai_lk st.2.2.2.2.1 49 12).bind fun v => (ai_lk st.2.2.2.2.1 49 11).bind fun w => (ai_lk st.2.2.2.2.1 49 7).bind fun u => (wf st.2.2.2.2.2 v.2.1 w.2.1).bind fun q =>
    if v.1 = 1 ∧ w.1 = 1 ∧ u.1 = 1 ∧ v.2.2.2 = 0 ∧ w.2.2.2 = 0 ∧ u.2.2.2 = 0 ∧ ai_lk st.2.2.2.2.1 49 13 = some (1, 0, 0, 1) ∧ st.2.1 = ms_lo ∧ st.2.2.1 = [] ∧ nowr WR 52 = true ∧ ai_z st.2.2.2.1 = true ∧ st_fact st.2.2.2.2.2 u.2.1 = true ∧ av_f st 4 w.2.1 u.2.1 none 1 = true then
      some [(if Nat.beq q.1 317 = true then 120 else 111, [], [if Nat.beq q.1 317 = true then (1, 0, 0, -4) else wf_v q], st.2.2.2.1, st.2.2.2.2.1, st.2.2.2.2.2)] else none
theorem su_nh_ok {WR : List (Nat × Nat × Nat)} {d : Nat} {st : ai_s} {xs : List ai_s} (hq : su_nh st WR = some xs) (h0 : st.1 = 0) (hd : 5 ≤ d) {w0 : va_W} {ad : List Nat} {p : Program} {l : Launch} {e : Env} {R : Room} {s : State} {m : MethodId} {args : Array Value} {below : List Frame} {meth : Method} {c : Code} {D : va_G} {tys : ai_ty} {A : Nat → Prop} {b L : Nat} {sx : Nat → Int32} {cells slots : Nat} {Q : State → Prop} {r0 : List Int}
    (C : ai_cx tb_m103 d p R s m args c D tys A b L sx cells slots) (k : ∀ x ∈ xs, ai_G tb_TY WR w0 ad tb_m103 p l e R s m args below meth c D tys A b L sx cells slots Q r0 x) : ai_G tb_TY WR w0 ad tb_m103 p l e R s m args below meth c D tys A b L sx cells slots Q r0 st := by
  unfold su_nh at hq
  obtain ⟨v, v1, hq⟩ := Option.bind_eq_some_iff.mp hq
  obtain ⟨w, w1, hq⟩ := Option.bind_eq_some_iff.mp hq
  obtain ⟨u, u1, hq⟩ := Option.bind_eq_some_iff.mp hq
  obtain ⟨q, q1, hq⟩ := Option.bind_eq_some_iff.mp hq
  split at hq
  · rename_i hc
    obtain ⟨c1, c2, c3, c4, c5, c6, c7, c8, c9, c10, c11, c12, c13⟩ := hc
    injection hq with hq
    subst hq
    intro r lv sk ws H locs ls hx g hP hD hS hl
    obtain ⟨g1, g2, g3, g4, g5, g6, g7, g8⟩ := g
    have hsk : sk = [] := by rw [c9] at g4; exact g4.nil
    subst hsk
    rw [h0]
    have asI : ∀ {v : ai_v} {x : Value}, v.1 = 1 → ai_dv ad b r v x → ∃ i : Int32, x = .int i := fun {v x} h1 d1 => by
      rcases d1 with ⟨q, -⟩ | ⟨-, z, i, -, q2, -⟩ | ⟨q, -⟩ | ⟨q, -⟩ | ⟨q, -⟩
      · omega
      · exact ⟨i, q2⟩
      all_goals omega
    obtain ⟨x1, s1, d1⟩ := ai_lk_ok g6 v1
    obtain ⟨x2, s2, d2⟩ := ai_lk_ok g6 w1
    obtain ⟨x3, s3, d3⟩ := ai_lk_ok g6 u1
    obtain ⟨zf, rfl⟩ := asI c1 d1
    obtain ⟨ze, rfl⟩ := asI c2 d2
    obtain ⟨zn, rfl⟩ := asI c3 d3
    obtain ⟨ya, a1, a2⟩ := ai_dv1 d1 c1
    obtain ⟨yb, b1, b2⟩ := ai_dv1 d2 c2
    obtain ⟨yc, e1, e2⟩ := ai_dv1 d3 c3
    rw [c4] at a2
    rw [c5] at b2
    rw [c6] at e2
    have r00 : r[0]? = some 0 := ai_z_ok g1 c11
    obtain ⟨zt, s4, o4⟩ := lkv g6 c7 r00
    obtain ⟨gt, t1, t2⟩ := st_factok g2 e1 c12
    have hlt := av_f4 (x := st) g2 b1 e1 c13
    obtain ⟨n0, n1⟩ := f49 (i := 7) g5 s3 rfl
    obtain ⟨k310, k318, kw⟩ := wf_ok g2 t1 a1 b1 q1
    have hgn : ∀ i, i < zn.toInt.toNat → fx_o ws 52 i = some (gt i) := fun i hi => fr_fx (k := 52) g5 rfl g7 (nowr_ok c10 i i) (t2 i (by omega))
    have wn : ∀ (k i : Nat), ai_wr [] k i i = false := fun _ _ => rfl
    have kk := k _ (List.mem_singleton.mpr rfl)
    refine nh_all (g := gt) (mm_cx hd C) g5 s3 s1 s2 s4 (by omega) (by omega) hgn (lo0_ok r00 rfl rfl (by rw [← c8]; exact g3)) (fun ws' lv' z hw' hf hwd hz => ?_) (fun ws' lv' z j hw' hf hj hwd hz => ?_) H locs ls hP hD hS hl
    · rw [show zf.toInt = ya by omega, show ze.toInt = yb by omega] at hwd
      have h317 : Nat.beq q.1 317 = true := by
        rw [ai_beq]
        by_cases h3 : q.1 = 310
        · rw [if_pos h3] at kw
          obtain ⟨zw, -, y1, y2⟩ := kw
          omega
        · rw [if_neg h3] at kw
          omega
      rw [if_pos h317, if_pos h317] at kk
      intro H' locs' ls' hP' hD' hS' hl'
      exact kk r [] [.int z] ws' H' locs' ls' hx ⟨g1, g2, trivial, ⟨Or.inr (Or.inl ⟨rfl, 0, _, r00, rfl, by show z.toInt = 0 + (-4); omega⟩), trivial⟩, hw', fun q hq => (by
        obtain ⟨x, k1, k2⟩ := g6 q hq
        exact ⟨x, hf _ _ _ (wn _ _) k1, k2⟩), fun cc i x hwr hsl => hf cc i x (wn _ _) (g7 cc i x hwr hsl), g8⟩ hP' hD' hS' ⟨hl'.1, hl'.2.1, fun q hq => by cases hq⟩
    · rw [show zf.toInt = ya by omega, show ze.toInt = yb by omega] at hwd
      have h317 : ¬ Nat.beq q.1 317 = true := by
        rw [ai_beq]
        intro h3
        rw [if_neg (by omega)] at kw
        omega
      rw [if_neg h317, if_neg h317] at kk
      have hzj : z = Int32.ofNat j := Int32.toInt_inj.mp (by
        have e : (Int32.ofNat j).toInt = (j : Int) := nI_toInt (by omega)
        rw [hz, e])
      intro H' locs' ls' hP' hD' hS' hl'
      exact kk r [] [.int z] ws' H' locs' ls' hx ⟨g1, g2, trivial, ⟨by rw [hzj]; exact wf_vok (by omega) r00 hwd kw, trivial⟩, hw', fun q hq => (by
        obtain ⟨x, k1, k2⟩ := g6 q hq
        exact ⟨x, hf _ _ _ (wn _ _) k1, k2⟩), fun cc i x hwr hsl => hf cc i x (wn _ _) (g7 cc i x hwr hsl), g8⟩ hP' hD' hS' ⟨hl'.1, hl'.2.1, fun q hq => by cases hq⟩
  · cases hq
