/-! text of the reference is sp_text -/
theorem f5 {w0 : va_W} {r : List Int} {a a' : Nat} {o za zb : Int} (ha : r[a]? = some za) (hb : r[a']? = some zb) (h : zb + o ≤ za) : ai_sb w0 r [(5, a, a', a, o)] := fun q hq => by
  rw [List.mem_singleton.mp hq]
  exact ⟨za, zb, za, ha, hb, ha, fun h => absurd (show (5 : Nat) = 0 from h) (by decide), fun h => absurd (show (5 : Nat) = 1 from h) (by decide), fun h => absurd (show (5 : Nat) = 2 from h) (by decide), fun h => absurd (show (5 : Nat) = 4 from h) (by decide), fun _ => h, fun h => absurd (show (100 : Nat) ≤ 5 from h) (by decide)⟩
theorem sp_tok_end {g : Nat → Int} {n p : Nat} (hp : p ≤ n) (h : (sp_tok g n p).1 = 0) : (sp_tok g n p).2.1 = n := by
  have h1 := tp_skip_le (g := g) (n := n) (p := p) (lo := 32) (hi := 32)
  unfold sp_tok at h ⊢
  generalize tp_skip g n 32 32 p = F at h h1 ⊢
  have h2 := h1.2 hp
  by_cases c1 : n ≤ F
  · rw [if_pos c1]
    show F = n
    omega
  · rw [if_neg c1] at h
    by_cases c2 : g F = 59
    · rw [if_pos c2] at h
      exact absurd (show (3 : Nat) = 0 from h) (by decide)
    · rw [if_neg c2] at h
      by_cases c3 : tp_i (g F) 97 122 = true
      · rw [if_pos c3] at h
        exact absurd (show (1 : Nat) = 0 from h) (by decide)
      · rw [if_neg c3] at h
        by_cases c4 : tp_i (g F) 48 57 = true
        · rw [if_pos c4] at h
          by_cases c5 : 2 < tp_skip g n 48 57 F - F
          · rw [if_pos c5] at h
            exact absurd (show (4 : Nat) = 0 from h) (by decide)
          · rw [if_neg c5] at h
            exact absurd (show (2 : Nat) = 0 from h) (by decide)
        · rw [if_neg c4] at h
          exact absurd (show (4 : Nat) = 0 from h) (by decide)
/-- a line's next token is a token of the tape -/
def sp_tk (g : Nat → Int) (n : Nat) (S : sp_S) : Prop := ∃ p, p ≤ n ∧ S.1 = sp_tok g n p
theorem sp_line_tk {g : Nat → Int} {n : Nat} {S S' : sp_S} (hv : sp_inv2 n S) (h : sp_line g n S = .inr S') : sp_tk g n S' := by
  have key : ∀ {p tests told : Nat} {as : List Int} {R : sp_R}, sp_go g n p tests told as R → R = .inr S' → sp_tk g n S' := by
    intro p tests told as R h1 h2
    subst h2
    obtain ⟨e, -, e2, rfl⟩ := h1
    exact ⟨e, e2, rfl⟩
  have i6 := hv.1.2.2.2.2.2
  unfold sp_line at h
  split at h
  · unfold sp_word1 at h
    split at h
    · cases h
    · split at h
      · split at h
        · cases h
        · exact key (sp_t1_go i6) h
      · split at h
        · cases h
        · split at h
          · obtain ⟨t, q, bs, e1, e2, e3, e4, e5⟩ := sp_plan_go (g := g) 9 S.1.2.2.1 [] i6 ⟨Nat.zero_le _, fun a h => by cases h⟩
            rw [e1] at h
            unfold sp_p1 at h
            split at h
            · exact key (sp_stop_go e3) h
            · cases h
          · exact key (sp_o1_go i6) h
  · cases h
section RTL
variable {ad : List Nat} {p : Program} {l : Launch} {e : Env} {R : Room} {s : State} {m : MethodId} {args : Array Value} {below : List Frame} {meth : Method} {c : Code} {D : va_G} {tys : ai_ty} {A : Nat → Prop} {b L : Nat} {sx : Nat → Int32} {cells slots : Nat} {Q : State → Prop}
theorem rt_back (C : ai_cx tb_m109 10 p R s m args c D tys A b L sx cells slots) {ws : va_W} {lv : List (Nat × Value)} (k : hG tb_m109 p l e R s m args below meth c D A cells slots Q 52 lv [] ws) : hG tb_m109 p l e R s m args below meth c D A cells slots Q 73 lv [] ws := by
  intro H locs ls hP hD hS hl
  exact lv_goto (tgt := 52) C.1 C.2.1 (tv_m109.1.1.1 (73, .goto (-21), 3) (List.mem_of_getElem? (i := 40) rfl)) (by decide) (k H locs ls hP hD hS hl)
/-- behind the loop -/
def rt_at (g : Nat → Int) (ad : List Nat) (b n : Nat) (ws : va_W) (lv : List (Nat × Value)) (Ev : Nat → Int) : (Nat × Nat) ⊕ (sp_S × Nat) → Prop
  | .inl x => vi ws 49 9 x.1 ∧ vi ws 49 10 x.2 ∧ 1 ≤ x.1 ∧ x.1 ≤ 5 ∧ x.2 ≤ n ∧ ai_lo ad b [0] ms_lo lv
  | .inr x => rf_is n ws x.1 ∧ sp_inv2 n x.1 ∧ sp_tk g n x.1 ∧ x.1.1.1 = 0 ∧ x.2 ≤ 161 ∧ jv ad b 49 1 (x.2 : Int) lv ∧ rev ws Ev
set_option maxHeartbeats 1000000 in
theorem rt_loop (C : ai_cx tb_m109 10 p R s m args c D tys A b L sx cells slots) {g : Nat → Int} {n : Nat} (hn : n ≤ 160) :
    ∀ (f j : Nat) (ws : va_W) (S : sp_S) (E : Nat → Int) (lv : List (Nat × Value)), j + f = 161 → j ≤ S.1.2.2.1 → ai_wd tb_TY ad tys ws → sp_tape g n ws → rf_is n ws S → rev ws E → ev_ok S.2.1 E → sp_inv2 n S → sp_tk g n S → jv ad b 49 1 (j : Int) lv →
    (∀ (ws' : va_W) (lv' : List (Nat × Value)), ai_wd tb_TY ad tys ws' → ai_fr rl_W ws ws' → rt_at g ad b n ws' lv' (ev_run g n f S E) (sp_run g n f j S) → hG tb_m109 p l e R s m args below meth c D A cells slots Q 76 lv' [] ws') → hG tb_m109 p l e R s m args below meth c D A cells slots Q 52 lv [] ws := by
  intro f
  induction f with
  | zero =>
    intro j ws S E lv hj hjS hw hT hi hE hok hv htk hlv k
    have := hv.1.2.2.2.2.2
    omega
  | succ f ih =>
    intro j ws S E lv hj hjS hw hT hi hE hok hv htk hlv k
    have v3 := hv.1.2.2.2.1
    have v5 := hv.1.2.2.2.2.2
    have v4 := hv.1.2.2.2.2.1
    have hrun : sp_run g n (f + 1) j S = if S.1.1 = 0 then .inr (S, j) else match sp_line g n S with
        | .inl x => .inl x
        | .inr S' => sp_run g n f (j + 1) S' := rfl
    have herun : ev_run g n (f + 1) S E = if S.1.1 = 0 then E else match sp_line g n S with
        | .inl _ => E
        | .inr S' => ev_run g n f S' (ev_line g n S E) := rfl
    rw [hrun, herun] at k
    -- broken: to 76
    have bro : ∀ {pc cd P : Nat} {Ev : Nat → Int} {ws2 : va_W} {lv2 : List (Nat × Value)}, (pc = 52 ∨ pc = 70) → ai_wd tb_TY ad tys ws2 → ai_fr rl_W ws ws2 → vi ws2 49 9 cd → vi ws2 49 10 P → 1 ≤ cd → cd ≤ 5 → P ≤ n → jv ad b 49 1 (j : Int) lv2 → (∀ (ws' : va_W) (lv' : List (Nat × Value)), ai_wd tb_TY ad tys ws' → ai_fr rl_W ws ws' → rt_at g ad b n ws' lv' Ev (.inl (cd, P)) → hG tb_m109 p l e R s m args below meth c D A cells slots Q 76 lv' [] ws') → hG tb_m109 p l e R s m args below meth c D A cells slots Q pc lv2 [] ws2 := by
      intro pc cd P Ev ws2 lv2 hpc hw2 F2 b9 b10 c1 c5 hP hlv2 k'
      have run : ((ai_ex (hk []) 60 109 tb_m109 10 [76] (rt_b pc)).any fun xs => xs.all fun x => x.2.2.1.isEmpty && (Nat.beq x.1 76 && rl_this x)) = true := by
        rcases hpc with rfl | rfl
        · exact rt_rb
        · exact rt_rb70
      obtain ⟨xs, hx1, hx2⟩ := ai_anyE run
      refine hseg (st := rt_b pc) (r := [0, 0, (j : Int), (cd : Int)]) hx1 rfl C ⟨en_mk (by simp only [rt_b, en_b, and_true]; omega) rfl, sb0, hlv2.lo rfl rfl (by omega), trivial, hw2, kc (b9.kn (n := 3) (t := (cd : Int)) rfl (by omega)) k0, fun _ _ _ _ h => h, fun h => by cases h⟩ (fun x hx r' lv' sk' ws' hx' g' => ?_)
      obtain ⟨-, -, g3, g4, g5, -, g7, -⟩ := g'
      have hox := List.all_eq_true.mp hx2 x hx
      rw [Bool.and_eq_true, Bool.and_eq_true, ai_beq] at hox
      have hsk : sk' = [] := by
        rw [List.isEmpty_iff.mp hox.1] at g4
        exact g4.nil
      subst hsk
      rw [hox.2.1]
      exact hG_this g3 (decide_eq_true_eq.mp hox.2.2) (fun lv1 hlv1 => k' ws' lv1 g5 (F2.tr (wsub_ok (by decide) g7)) ⟨b9.fr g7 rfl, b10.fr g7 rfl, c1, c5, hP, hlv1⟩)
    obtain ⟨h7, ht, h3, hO, h5, h26, hpa⟩ := hi
    by_cases c4 : S.1.1 = 4
    · have hl : sp_line g n S = .inl (1, S.1.2.1) := by
        unfold sp_line sp_ft
        rw [if_neg (by omega), if_pos c4]
      rw [if_neg (show ¬ S.1.1 = 0 by omega), if_neg (show ¬ S.1.1 = 0 by omega), hl] at k
      exact bro (Or.inl rfl) hw (fun _ _ _ _ h => h) (ht.1 c4).1 (ht.1 c4).2 (by decide) (by decide) v4 hlv k
    · obtain ⟨h9, h11, h12, h13, h14⟩ := ht.2 c4
      obtain ⟨xs, hx1, hx2⟩ := ai_anyE rt_rh
      refine hseg (st := rt_h) (r := [0, 0, (j : Int), (S.1.1 : Int)]) hx1 rfl C ⟨en_mk (by simp only [rt_h, en_b, and_true]; omega) rfl, sb0, hlv.lo rfl rfl (by omega), trivial, hw, kc (h9.kn (n := 0) (t := 0) rfl (by omega)) (kc (h13.kn (n := 3) (t := (S.1.1 : Int)) rfl (by omega)) k0), fun _ _ _ _ h => h, fun h => by cases h⟩ (fun x hx r' lv' sk' ws' hx' g' => ?_)
      obtain ⟨g1, g2, g3, g4, g5, g6, g7, g8⟩ := g'
      have r0 : r'[0]? = some 0 := hx'.at rfl
      have r2 : r'[2]? = some (j : Int) := hx'.at rfl
      have r3 : r'[3]? = some (S.1.1 : Int) := hx'.at rfl
      have F1 : ai_fr rl_W ws ws' := wsub_ok (by decide) g7
      have hT1 := hT.fr hn g5 F1 (by decide) (by decide)
      have hi1 : rf_is n ws' S := ⟨h7.fr g7 rfl, ht.fr g7 (fun _ _ _ => rfl), h3.fr g7 rfl, (by obtain ⟨O, o1, o2⟩ := hO; exact ⟨O, o1.fr g7 rfl, o2⟩), h5.fr g7 rfl, h26.fr g7 rfl, hpa.fr g7 rfl⟩
      have hE1 : rev ws' E := hE.fr g7 (fun _ _ => rfl)
      have hox := List.all_eq_true.mp hx2 x hx
      unfold rt_hok at hox
      rw [Bool.and_eq_true, Bool.and_eq_true, decide_eq_true_eq, Bool.or_eq_true] at hox
      obtain ⟨q0, q1, hox⟩ := hox
      rcases hox with hox | hox
      · rw [Bool.and_eq_true, Bool.and_eq_true, ai_beq] at hox
        obtain ⟨p1, hs, p2⟩ := hox
        have hsk : sk' = [] := by
          rw [List.isEmpty_iff.mp hs] at g4
          exact g4.nil
        subst hsk
        obtain ⟨e0, b1, b2, b3⟩ := ai_any g1 r3 p2
        rw [decide_eq_true_eq] at b1
        have h0 : S.1.1 = 0 := by omega
        rw [if_pos h0, if_pos h0] at k
        rw [p1]
        exact hG_jv g3 r0 (decide_eq_true_eq.mp q0) q1 r2 (show (j : Int) = (j : Int) + 0 by omega) (fun lv1 hlv1 => k ws' lv1 g5 F1 ⟨hi1, hv, htk, h0, by omega, hlv1, hE1⟩)
      · rw [Bool.and_eq_true, Bool.and_eq_true, ai_beq, decide_eq_true_eq] at hox
        obtain ⟨p1, p2, p4⟩ := hox
        have h0 : ¬ S.1.1 = 0 := by
          obtain ⟨e1, d1, d2, d3, d4, -⟩ := g1.get r3
          rw [d1] at p4
          have p4 : (e1.2.2.1 || decide (1 ≤ e1.1)) = true := p4
          rw [Bool.or_eq_true, decide_eq_true_eq] at p4
          rcases p4 with p4 | p4
          · have := d4 p4
            omega
          · omega
        rw [if_neg h0, if_neg h0] at k
        rw [p2] at g4
        obtain ⟨y, s1, rfl, dy, g4⟩ := g4.cons
        have hs1 := g4.nil
        subst hs1
        rw [p1]
        refine hG_jv g3 r0 (decide_eq_true_eq.mp q0) q1 r2 (show (j : Int) = (j : Int) + 0 by omega) (fun lv1 hlv1 => ?_)
        have hgo := sp_line_go (g := g) hv
        refine hcall (q := (113, 0, 108, 0, 6)) (M' := tb_m108) (cl := 49) (rets := [22, 86, 175]) (P := fun w => ai_wd tb_TY ad tys w ∧ ai_fr rl_W ws' w ∧ ((∃ c1 P, sp_line g n S = .inl (c1, P) ∧ vi w 49 9 c1 ∧ vi w 49 10 P) ∨ ∃ S', sp_line g n S = .inr S' ∧ rf_is n w S' ∧ rev w (ev_line g n S E))) C (by decide) (tv_m109.1.1.1 (67, .invokevirtual 113, 3) (List.mem_of_getElem? (i := 38) rfl)) (tv_m109.2 _ (List.mem_of_getElem? (i := 8) rfl)) rfl rfl rfl rfl (by decide) (by decide) rfl rfl rfl rfl g5 (dv0 dy r0 rfl rfl) ?_ ?_ ?_
        · intro pcr hp
          rcases List.mem_cons.mp hp with rfl | hp
          · exact tv_m108.1.1.1 (22, .return_, 1) (List.mem_of_getElem? (i := 12) rfl)
          · rcases List.mem_cons.mp hp with rfl | hp
            · exact tv_m108.1.1.1 (86, .return_, 1) (List.mem_of_getElem? (i := 50) rfl)
            · rw [List.mem_singleton.mp hp]
              exact tv_m108.1.1.1 (175, .return_, 1) (List.mem_of_getElem? (i := 98) rfl)
        · intro p2 e2 R2 s2 m2 args2 below2 meth2 c2 Q2 C2 kk lv0 hlv0
          exact rf_line C2 hn g5 hT1 hi1 hE1 (fun h => (hok _ h).2 (Nat.le_refl _)) hv c4 h0 hlv0 (fun pcr w lv2 c1 P hpc a1 a2 a3 a4 a5 => kk pcr w lv2 hpc ⟨a1, a2, Or.inl ⟨c1, P, a3, a4, a5⟩⟩) (fun w lv2 S' a1 a2 a3 a4 a5 => kk 175 w lv2 (by decide) ⟨a1, a2, Or.inr ⟨S', a3, a4, a5⟩⟩)
        · rintro ws2 ⟨hw2, f2, hr⟩
          have F2 : ai_fr rl_W ws ws2 := F1.tr f2
          rcases hr with ⟨c1, P, e1, e2, e3⟩ | ⟨S', e1, e2, e2r⟩
          · rw [e1] at k hgo
            obtain ⟨o1, o2, o3⟩ := hgo
            exact bro (Or.inr rfl) hw2 F2 e2 e3 o1 o2 o3 hlv1 k
          · have htk' := sp_line_tk hv e1
            have hok' := ev_line_ok hv hok e1
            rw [e1] at k hgo
            obtain ⟨ys, hy1, hy2⟩ := ai_anyE rt_r70
            refine hseg (st := rt_70) (r := [0, 0, (j : Int)]) hy1 rfl C ⟨en_mk (by simp only [rt_70, en_b, and_true]; omega) rfl, sb0, hlv1.lo rfl rfl (by omega), trivial, hw2, k0, fun _ _ _ _ h => h, fun h => by cases h⟩ (fun x2 hx2' r2' lv2 sk2 ws3 hx3 g3' => ?_)
            obtain ⟨k1, k2, k3, k4, k5, k6, k7, k8⟩ := g3'
            have hox2 := List.all_eq_true.mp hy2 x2 hx2'
            rw [Bool.and_eq_true, Bool.and_eq_true, Bool.and_eq_true, ai_beq, decide_eq_true_eq] at hox2
            obtain ⟨hs2, u1, u2, u3⟩ := hox2
            have hsk2 : sk2 = [] := by
              rw [List.isEmpty_iff.mp hs2] at k4
              exact k4.nil
            subst hsk2
            rw [u1]
            have F3 : ai_fr rl_W ws ws3 := F2.tr (wsub_ok (by decide) k7)
            refine hG_jv k3 (hx3.at rfl) (decide_eq_true_eq.mp u2) u3 (z := (j : Int)) (t := ((j + 1 : Nat) : Int)) (hx3.at rfl) (by omega) (fun lv3 hlv3 => rt_back C ?_)
            obtain ⟨m7, mt, m3, ⟨O, mO, mO1⟩, m5, m26, mpa⟩ := e2
            exact ih (j + 1) ws3 S' (ev_line g n S E) lv3 (by omega) (by have := hgo.2; omega) k5 (hT.fr hn k5 F3 (by decide) (by decide)) ⟨m7.fr k7 rfl, mt.fr k7 (fun _ _ _ => rfl), m3.fr k7 rfl, ⟨O, mO.fr k7 rfl, mO1⟩, m5.fr k7 rfl, m26.fr k7 rfl, mpa.fr k7 rfl⟩ (e2r.fr k7 (fun _ _ => rfl)) hok' hgo.1 htk' hlv3 (fun ws4 lv4 a1 a2 a3 => k ws4 lv4 a1 (F3.tr a2) a3)
theorem rt_negok {w0 : va_W} {x : ai_s} {r : List Int} {sk : List Value} {nm : Nat} {P : Int} (g2 : ai_sb w0 r x.2.2.2.2.2) (g4 : ai_sk ad b r x.2.2.1 sk) (r0 : r[0]? = some 0) (hP : r[nm]? = some P) (h : rt_neg x nm = true) : ∃ z : Int32, sk = [.int z] ∧ z.toInt = -10 - P := by
  unfold rt_neg at h
  split at h
  · rename_i v hst
    rw [Bool.and_eq_true, decide_eq_true_eq] at h
    rw [hst] at g4
    obtain ⟨yv, s1, rfl, dy, g4⟩ := g4.cons
    have hs1 := g4.nil
    subst hs1
    obtain ⟨zr, w1, w2⟩ := av_f0 g2 r0 hP h.2
    rw [h.1] at dy
    obtain ⟨z, rfl, hz⟩ := dvn dy w1
    exact ⟨z, rfl, by omega⟩
  · cases h
/-- page 0 of the reference is E -/
def rpg (ws : va_W) (E : Nat → Int) : Prop := (∀ j, j < 16 → vi ws 50 j (E j)) ∧ vi ws 50 16 (E 16 - 10) ∧ vi ws 50 17 (E 17)
theorem vi_rowsP {ws : va_W} {k n : Nat} {pat : List ai_f} (h : ai_wd tb_TY ad tys ws) (hk : tb_TY[k]? = some (1, n, pat)) : ∃ K : Nat → Int, ∀ i, i < n → vi ws k i (K i) ∧ ∀ q, ai_pt pat i = some q → q.2.2.1 ≤ K i ∧ K i ≤ q.2.2.2 := by
  obtain ⟨a, e, h1, h2, h3⟩ := h.get hk
  rcases h3 with ⟨q, -⟩ | ⟨-, cA, f, rfl, -, h4⟩ | ⟨q, -⟩ | ⟨q, -⟩
  · exact absurd (id q : (1 : Nat) = 0) (by decide)
  · exact ⟨fun i => (f i).toInt, fun i hi' => ⟨⟨f i, ⟨a, _, h1, Or.inr ⟨cA, n, f, rfl, hi', rfl⟩⟩, rfl⟩, fun q hq => h4 i q hi' hq⟩⟩
  · exact absurd (id q : (1 : Nat) = 3) (by decide)
  · exact absurd (id q : (1 : Nat) = 4) (by decide)
set_option maxHeartbeats 4000000 in
theorem rt_all (C : ai_cx tb_m109 10 p R s m args c D tys A b L sx cells slots) {ws : va_W} {g : Nat → Int} {n : Nat} (hn : n ≤ 160) (hw : ai_wd tb_TY ad tys ws) (hT : sp_tape g n ws) (h1 : vi ws 49 7 n) {lv : List (Nat × Value)} (hlv : ai_lo ad b [0] ms_lo lv)
    (ke : ∀ (ws' : va_W) (lv' : List (Nat × Value)) (z : Int32), (sp_text g n).1 ≠ 0 → ai_wd tb_TY ad tys ws' → ai_fr mt_We ws ws' → vi ws' 49 7 0 → vi ws' 49 8 (sp_text g n).1 → z.toInt = sp_ret g n → hG tb_m109 p l e R s m args below meth c D A cells slots Q 127 lv' [.int z] ws')
    (k : ∀ (ws' : va_W) (lv' : List (Nat × Value)) (z : Int32), (sp_text g n).1 = 0 → ai_wd tb_TY ad tys ws' → ai_fr mt_W ws ws' → vi ws' 49 7 0 → vi ws' 49 8 (sp_text g n).1 → z.toInt = sp_ret g n → vi ws' 49 1 (sp_cnt g n) → vi ws' 50 26 (sp_acn g n) → vi ws' 49 19 0 → vi ws' 56 0 0 → vi ws' 56 1 0 → rpg ws' (ev_text g n) → (∀ i, i < sp_acn g n → vi ws' 50 (18 + i) ((ev_acts g n).getD i 0)) → ev_ok (sp_cnt g n) (ev_text g n) → hG tb_m109 p l e R s m args below meth c D A cells slots Q 182 lv' [.int z] ws') : hG tb_m109 p l e R s m args below meth c D A cells slots Q 0 lv [] ws := by
  obtain ⟨xs, hx1, hx2⟩ := ai_anyE rt_r0
  refine hsegT (st := rt_0) (r := [0, 0, (n : Int)]) hx1 rfl C ⟨en_mk (by simp only [rt_0, en_b, and_true]; omega) rfl, f350 rfl hT.1 hT.2, lo0_ok (r := [0]) rfl rfl rfl hlv, trivial, hw, kc (h1.kn (n := 2) (t := (n : Int)) rfl (by omega)) k0, fun _ _ _ _ h => h, fun h => by cases h⟩ (fun x hx r' lv1 sk' ws1 hx' g' => ?_)
  obtain ⟨g1, g2, g3, g4, hw1, g6, f1, -⟩ := g'
  have r0 : r'[0]? = some 0 := hx'.at rfl
  have r2 : r'[2]? = some (n : Int) := hx'.at rfl
  have hox := List.all_eq_true.mp hx2 x hx
  unfold rt_0ok at hox
  rw [Bool.and_eq_true, Bool.and_eq_true, Bool.and_eq_true, Bool.and_eq_true, Bool.and_eq_true, Bool.and_eq_true, Bool.and_eq_true, Bool.and_eq_true, Bool.and_eq_true, ai_beq, decide_eq_true_eq, decide_eq_true_eq] at hox
  obtain ⟨hs, p1, q0, q1, o1, c3, c4, c5, c26, c51⟩ := hox
  obtain ⟨kb, hkb, o1⟩ := ai_anyE o1
  have hsk : sk' = [] := by
    rw [List.isEmpty_iff.mp hs] at g4
    exact g4.nil
  subst hsk
  have htk := rp_tkok g6 r0 (sy_tk_ok (P := 0) g2 hT.1 r2 r0 hkb) o1
  have hT1 := hT.fr hn hw1 f1 (by decide) (by decide)
  have hi1 : rf_is n ws1 (sp_tok g n 0, 0, 0, []) := ⟨h1.fr f1 (by decide), htk, vi.lk g6 (decide_eq_true_eq.mp c3) r0 (by show ((0 : Nat) : Int) = _; omega), ⟨0, vi.lk g6 (decide_eq_true_eq.mp c4) r0 (by omega), Nat.le_refl _, Nat.zero_le _⟩, vi.lk g6 (decide_eq_true_eq.mp c5) r0 (by show sp_high [] = 0 + (-1); rfl), vi.lk g6 c26 r0 (by show (([] : List Int).length : Int) = _; rfl), fun i hi => absurd hi (Nat.not_lt_zero _)⟩
  have c51' : ∀ j, j < 18 → ai_lk x.2.2.2.2.1 51 j = some (1, 0, 0, 0) := fun j hj => decide_eq_true_eq.mp (List.all_eq_true.mp c51 j (List.mem_range.mpr hj))
  have hE0 : rev ws1 ev_0 := ⟨fun j hj => vi.lk g6 (c51' j (by omega)) r0 (by unfold ev_0; rw [if_neg (by omega)]; rfl), vi.lk g6 (c51' 16 (by omega)) r0 (by simp [ev_0]), vi.lk g6 (c51' 17 (by omega)) r0 (by simp [ev_0])⟩
  rw [p1]
  refine hG_jv g3 r0 (decide_eq_true_eq.mp q0) q1 (z := 0) (t := ((0 : Nat) : Int)) r0 (by omega) (fun lv2 hlv2 => ?_)
  refine rt_loop C hn 161 0 ws1 _ ev_0 lv2 rfl (Nat.zero_le _) hw1 hT1 hi1 hE0 ev_0_ok sp_start ⟨0, Nat.zero_le _, rfl⟩ hlv2 (fun ws2 lv3 hw2 f2 hat => ?_)
  have F2 : ai_fr mt_We ws ws2 := (wsub_ok (by decide) f1).tr (wsub_ok (by decide) f2)
  have htext : sp_text g n = match sp_run g n 161 0 (sp_tok g n 0, 0, 0, []) with
      | .inl x => (x.1, x.2, 0)
      | .inr (S, l) => if (S.2.1 : Int) ≤ sp_high S.2.2.2 then (6, n, 0) else (0, 0, l) := rfl
  have hcnt : sp_cnt g n = match sp_run g n 161 0 (sp_tok g n 0, 0, 0, []) with
      | .inl _ => 0
      | .inr (S, _) => S.2.1 := rfl
  have hacn : sp_acn g n = match sp_run g n 161 0 (sp_tok g n 0, 0, 0, []) with
      | .inl _ => 0
      | .inr (S, _) => S.2.2.2.length := rfl
  have hact : ev_acts g n = match sp_run g n 161 0 (sp_tok g n 0, 0, 0, []) with
      | .inl _ => []
      | .inr (S, _) => S.2.2.2 := rfl
  have hro := ev_run_ok (g := g) 161 0 (sp_tok g n 0, 0, 0, []) ev_0 sp_start ev_0_ok
  generalize sp_run g n 161 0 (sp_tok g n 0, 0, 0, []) = RR at hat htext hcnt hacn hact hro
  cases RR with
  | inl y =>
    obtain ⟨v9, v10, y1, y5, yn, hlv3⟩ := hat
    have htext : sp_text g n = (y.1, y.2, 0) := htext
    obtain ⟨ys, hy1, hy2⟩ := ai_anyE rt_re
    refine hseg (st := rt_e) (r := [0, 0, (y.1 : Int), (y.2 : Int)]) hy1 rfl C ⟨en_mk (by simp only [rt_e, en_b, and_true]; omega) rfl, sb0, lo0_ok (r := [0]) rfl rfl rfl hlv3, trivial, hw2, kc (v9.kn (n := 2) (t := (y.1 : Int)) rfl (by omega)) (kc (v10.kn (n := 3) (t := (y.2 : Int)) rfl (by omega)) k0), fun _ _ _ _ h => h, fun h => by cases h⟩ (fun x2 hx2' r2' lv4 sk2 ws3 hx3 g3' => ?_)
    obtain ⟨k1, k2, k3, k4, k5, k6, k7, k8⟩ := g3'
    have y0 : r2'[0]? = some 0 := hx3.at rfl
    have hox2 := List.all_eq_true.mp hy2 x2 hx2'
    rw [Bool.and_eq_true, Bool.and_eq_true, Bool.and_eq_true, ai_beq] at hox2
    obtain ⟨o1, o2, o3, o4⟩ := hox2
    obtain ⟨z, rfl, hz⟩ := rt_negok (P := (y.2 : Int)) k2 k4 y0 (hx3.at rfl) o4
    rw [o1]
    refine ke ws3 lv4 z (by rw [htext]; show y.1 ≠ 0; omega) k5 (F2.tr k7) (vi.lk k6 (decide_eq_true_eq.mp o2) y0 (by omega)) (vi.lk k6 (decide_eq_true_eq.mp o3) (z := (y.1 : Int)) (hx3.at rfl) (by rw [htext]; show (y.1 : Int) = _; omega)) ?_
    unfold sp_ret
    rw [htext, if_neg (show ¬ y.1 = 0 by omega)]
    exact hz
  | inr y =>
    obtain ⟨S, ln⟩ := y
    obtain ⟨⟨h7, ht, h3, hO, h5, h26, hpa⟩, hv2, htk2, hS0, hln, hlv3, hrv⟩ := hat
    have hrv : rev ws2 (ev_text g n) := hrv
    have hro : ev_ok S.2.1 (ev_text g n) := hro S ln rfl
    have hact : ev_acts g n = S.2.2.2 := hact
    have hpa : pac ws2 S.2.2.2 := hpa
    have ht : rf_tk ws2 S.1 := ht
    have h3 : vi ws2 49 3 S.2.1 := h3
    have h5 : vi ws2 49 5 (sp_high S.2.2.2) := h5
    have hS0 : S.1.1 = 0 := hS0
    have hln : ln ≤ 161 := hln
    have hlv3 : jv ad b 49 1 (ln : Int) lv3 := hlv3
    obtain ⟨pp, hpp, hS1⟩ := htk2
    have hS1 : S.1 = sp_tok g n pp := hS1
    have hfn : S.1.2.1 = n := by rw [hS1]; exact sp_tok_end hpp (by rw [← hS1]; exact hS0)
    have htext : sp_text g n = if (S.2.1 : Int) ≤ sp_high S.2.2.2 then (6, n, 0) else (0, 0, ln) := htext
    obtain ⟨h9, h11, h12, h13, h14⟩ := ht.2 (by omega)
    have hb := sp_high_b S.2.2.2 (-1) (by decide) (by decide)
    have hb : -1 ≤ sp_high S.2.2.2 ∧ sp_high S.2.2.2 ≤ 3 := hb
    have v2 : S.2.1 ≤ 4 := hv2.1.2.2.1
    have hcnt : sp_cnt g n = S.2.1 := hcnt
    have hacn : sp_acn g n = S.2.2.2.length := hacn
    have h26 : vi ws2 51 26 S.2.2.2.length := h26
    have hl8 : S.2.2.2.length ≤ 8 := hv2.2.1.1
    by_cases hge : (S.2.1 : Int) ≤ sp_high S.2.2.2
    · rw [if_pos hge] at htext
      obtain ⟨ys, hy1, hy2⟩ := ai_anyE rt_r6
      refine hseg (st := rt_o [(5, 2, 3, 2, 0)]) (r := [0, 0, sp_high S.2.2.2, (S.2.1 : Int), (n : Int), (ln : Int), (S.2.2.2.length : Int)]) hy1 rfl C ⟨en_mk (by simp only [rt_o, en_b, and_true]; omega) rfl, f5 rfl rfl (by omega), hlv3.lo rfl rfl (by omega), trivial, hw2, kc (h9.kn (n := 0) (t := 0) rfl (by omega)) (kc (h5.kn (n := 2) (t := sp_high S.2.2.2) rfl (by omega)) (kc (h3.kn (n := 3) (t := (S.2.1 : Int)) rfl (by omega)) (kc (h12.kn (n := 4) (t := (n : Int)) rfl (by omega)) (kc (h26.kn (n := 6) (t := (S.2.2.2.length : Int)) rfl (by omega)) k0)))), fun _ _ _ _ h => h, fun h => by cases h⟩ (fun x2 hx2' r2' lv4 sk2 ws3 hx3 g3' => ?_)
      obtain ⟨k1, k2, k3, k4, k5, k6, k7, k8⟩ := g3'
      have y0 : r2'[0]? = some 0 := hx3.at rfl
      have y4 : r2'[4]? = some (n : Int) := hx3.at rfl
      have hox2 := List.all_eq_true.mp hy2 x2 hx2'
      rw [Bool.and_eq_true, Bool.and_eq_true, Bool.and_eq_true, ai_beq] at hox2
      obtain ⟨o1, o2, o3, o4⟩ := hox2
      obtain ⟨z, rfl, hz⟩ := rt_negok k2 k4 y0 y4 o4
      rw [o2]
      refine ke ws3 lv4 z (by rw [htext]; show (6 : Nat) ≠ 0; decide) k5 (F2.tr k7) (vi.lk k6 (decide_eq_true_eq.mp o1) y0 (by omega)) (vi.lk k6 (decide_eq_true_eq.mp o3) y0 (by rw [htext]; rfl)) ?_
      unfold sp_ret
      rw [htext, if_neg (show ¬ (6 : Nat) = 0 by decide)]
      exact hz
    · rw [if_neg hge] at htext
      obtain ⟨ys, hy1, hy2⟩ := ai_anyE rt_ro
      obtain ⟨K, hK⟩ := vi_rowsP (k := 51) hw2 rfl
      have bK0 : -2147483648 ≤ K 0 ∧ K 0 ≤ 2147483647 := (hK 0 (by decide)).2 (1, 0, -2147483648, 2147483647) rfl
      have bK1 : -2147483648 ≤ K 1 ∧ K 1 ≤ 2147483647 := (hK 1 (by decide)).2 (1, 0, -2147483648, 2147483647) rfl
      have bK2 : -2147483648 ≤ K 2 ∧ K 2 ≤ 2147483647 := (hK 2 (by decide)).2 (1, 0, -2147483648, 2147483647) rfl
      have bK3 : -2147483648 ≤ K 3 ∧ K 3 ≤ 2147483647 := (hK 3 (by decide)).2 (1, 0, -2147483648, 2147483647) rfl
      have bK4 : -2147483648 ≤ K 4 ∧ K 4 ≤ 2147483647 := (hK 4 (by decide)).2 (1, 0, -2147483648, 2147483647) rfl
      have bK5 : -2147483648 ≤ K 5 ∧ K 5 ≤ 2147483647 := (hK 5 (by decide)).2 (1, 0, -2147483648, 2147483647) rfl
      have bK6 : -2147483648 ≤ K 6 ∧ K 6 ≤ 2147483647 := (hK 6 (by decide)).2 (1, 0, -2147483648, 2147483647) rfl
      have bK7 : -2147483648 ≤ K 7 ∧ K 7 ≤ 2147483647 := (hK 7 (by decide)).2 (1, 0, -2147483648, 2147483647) rfl
      have bK8 : -2147483648 ≤ K 8 ∧ K 8 ≤ 2147483647 := (hK 8 (by decide)).2 (1, 0, -2147483648, 2147483647) rfl
      have bK9 : -2147483648 ≤ K 9 ∧ K 9 ≤ 2147483647 := (hK 9 (by decide)).2 (1, 0, -2147483648, 2147483647) rfl
      have bK10 : -2147483648 ≤ K 10 ∧ K 10 ≤ 2147483647 := (hK 10 (by decide)).2 (1, 0, -2147483648, 2147483647) rfl
      have bK11 : -2147483648 ≤ K 11 ∧ K 11 ≤ 2147483647 := (hK 11 (by decide)).2 (1, 0, -2147483648, 2147483647) rfl
      have bK12 : -2147483648 ≤ K 12 ∧ K 12 ≤ 2147483647 := (hK 12 (by decide)).2 (1, 0, -2147483648, 2147483647) rfl
      have bK13 : -2147483648 ≤ K 13 ∧ K 13 ≤ 2147483647 := (hK 13 (by decide)).2 (1, 0, -2147483648, 2147483647) rfl
      have bK14 : -2147483648 ≤ K 14 ∧ K 14 ≤ 2147483647 := (hK 14 (by decide)).2 (1, 0, -2147483648, 2147483647) rfl
      have bK15 : -2147483648 ≤ K 15 ∧ K 15 ≤ 2147483647 := (hK 15 (by decide)).2 (1, 0, -2147483648, 2147483647) rfl
      have bK16 : -10 ≤ K 16 ∧ K 16 ≤ 10 := (hK 16 (by decide)).2 (1, 0, -10, 10) rfl
      have bK17 : -2147483648 ≤ K 17 ∧ K 17 ≤ 2147483647 := (hK 17 (by decide)).2 (1, 0, -2147483648, 2147483647) rfl
      have bK18 : 0 ≤ K 18 ∧ K 18 ≤ 4 := (hK 18 (by decide)).2 (1, 0, 0, 4) rfl
      have bK19 : 0 ≤ K 19 ∧ K 19 ≤ 4 := (hK 19 (by decide)).2 (1, 0, 0, 4) rfl
      have bK20 : 0 ≤ K 20 ∧ K 20 ≤ 4 := (hK 20 (by decide)).2 (1, 0, 0, 4) rfl
      have bK21 : 0 ≤ K 21 ∧ K 21 ≤ 4 := (hK 21 (by decide)).2 (1, 0, 0, 4) rfl
      have bK22 : 0 ≤ K 22 ∧ K 22 ≤ 4 := (hK 22 (by decide)).2 (1, 0, 0, 4) rfl
      have bK23 : 0 ≤ K 23 ∧ K 23 ≤ 4 := (hK 23 (by decide)).2 (1, 0, 0, 4) rfl
      have bK24 : 0 ≤ K 24 ∧ K 24 ≤ 4 := (hK 24 (by decide)).2 (1, 0, 0, 4) rfl
      have bK25 : 0 ≤ K 25 ∧ K 25 ≤ 4 := (hK 25 (by decide)).2 (1, 0, 0, 4) rfl
      refine hseg (st := rt_o2) (r := [0, 0, sp_high S.2.2.2, (S.2.1 : Int), (n : Int), (ln : Int), (S.2.2.2.length : Int), K 0, K 1, K 2, K 3, K 4, K 5, K 6, K 7, K 8, K 9, K 10, K 11, K 12, K 13, K 14, K 15, K 16, K 17, K 18, K 19, K 20, K 21, K 22, K 23, K 24, K 25]) hy1 rfl C ⟨en_mk (by simp only [rt_o2, en_b, and_true]; omega) rfl, f4 rfl rfl (by omega), hlv3.lo rfl rfl (by omega), trivial, hw2, kc (h9.kn (n := 0) (t := 0) rfl (by omega)) (kc (h5.kn (n := 2) (t := sp_high S.2.2.2) rfl (by omega)) (kc (h3.kn (n := 3) (t := (S.2.1 : Int)) rfl (by omega)) (kc (h12.kn (n := 4) (t := (n : Int)) rfl (by omega)) (kc (h26.kn (n := 6) (t := (S.2.2.2.length : Int)) rfl (by omega)) (kc ((hK 0 (by decide)).1.kn (n := 7) (t := K 0) rfl (by omega)) (kc ((hK 1 (by decide)).1.kn (n := 8) (t := K 1) rfl (by omega)) (kc ((hK 2 (by decide)).1.kn (n := 9) (t := K 2) rfl (by omega)) (kc ((hK 3 (by decide)).1.kn (n := 10) (t := K 3) rfl (by omega)) (kc ((hK 4 (by decide)).1.kn (n := 11) (t := K 4) rfl (by omega)) (kc ((hK 5 (by decide)).1.kn (n := 12) (t := K 5) rfl (by omega)) (kc ((hK 6 (by decide)).1.kn (n := 13) (t := K 6) rfl (by omega)) (kc ((hK 7 (by decide)).1.kn (n := 14) (t := K 7) rfl (by omega)) (kc ((hK 8 (by decide)).1.kn (n := 15) (t := K 8) rfl (by omega)) (kc ((hK 9 (by decide)).1.kn (n := 16) (t := K 9) rfl (by omega)) (kc ((hK 10 (by decide)).1.kn (n := 17) (t := K 10) rfl (by omega)) (kc ((hK 11 (by decide)).1.kn (n := 18) (t := K 11) rfl (by omega)) (kc ((hK 12 (by decide)).1.kn (n := 19) (t := K 12) rfl (by omega)) (kc ((hK 13 (by decide)).1.kn (n := 20) (t := K 13) rfl (by omega)) (kc ((hK 14 (by decide)).1.kn (n := 21) (t := K 14) rfl (by omega)) (kc ((hK 15 (by decide)).1.kn (n := 22) (t := K 15) rfl (by omega)) (kc ((hK 16 (by decide)).1.kn (n := 23) (t := K 16) rfl (by omega)) (kc ((hK 17 (by decide)).1.kn (n := 24) (t := K 17) rfl (by omega)) (kc ((hK 18 (by decide)).1.kn (n := 25) (t := K 18) rfl (by omega)) (kc ((hK 19 (by decide)).1.kn (n := 26) (t := K 19) rfl (by omega)) (kc ((hK 20 (by decide)).1.kn (n := 27) (t := K 20) rfl (by omega)) (kc ((hK 21 (by decide)).1.kn (n := 28) (t := K 21) rfl (by omega)) (kc ((hK 22 (by decide)).1.kn (n := 29) (t := K 22) rfl (by omega)) (kc ((hK 23 (by decide)).1.kn (n := 30) (t := K 23) rfl (by omega)) (kc ((hK 24 (by decide)).1.kn (n := 31) (t := K 24) rfl (by omega)) (kc ((hK 25 (by decide)).1.kn (n := 32) (t := K 25) rfl (by omega)) k0)))))))))))))))))))))))))))))), fun _ _ _ _ h => h, fun h => by cases h⟩ (fun x2 hx2' r2' lv4 sk2 ws3 hx3 g3' => ?_)
      obtain ⟨k1, k2, k3, k4, k5, k6, k7, k8⟩ := g3'
      have y0 : r2'[0]? = some 0 := hx3.at rfl
      have y3 : r2'[3]? = some (S.2.1 : Int) := hx3.at rfl
      have y5 : r2'[5]? = some (ln : Int) := hx3.at rfl
      have y6 : r2'[6]? = some (S.2.2.2.length : Int) := hx3.at rfl
      have yK : ∀ j, j < 26 → r2'[7 + j]? = some (K j) := fun j hj => match j, hj with
        | 0, _ => hx3.at rfl
        | 1, _ => hx3.at rfl
        | 2, _ => hx3.at rfl
        | 3, _ => hx3.at rfl
        | 4, _ => hx3.at rfl
        | 5, _ => hx3.at rfl
        | 6, _ => hx3.at rfl
        | 7, _ => hx3.at rfl
        | 8, _ => hx3.at rfl
        | 9, _ => hx3.at rfl
        | 10, _ => hx3.at rfl
        | 11, _ => hx3.at rfl
        | 12, _ => hx3.at rfl
        | 13, _ => hx3.at rfl
        | 14, _ => hx3.at rfl
        | 15, _ => hx3.at rfl
        | 16, _ => hx3.at rfl
        | 17, _ => hx3.at rfl
        | 18, _ => hx3.at rfl
        | 19, _ => hx3.at rfl
        | 20, _ => hx3.at rfl
        | 21, _ => hx3.at rfl
        | 22, _ => hx3.at rfl
        | 23, _ => hx3.at rfl
        | 24, _ => hx3.at rfl
        | 25, _ => hx3.at rfl
        | q + 26, h => absurd h (by omega)
      have hox2 := List.all_eq_true.mp hy2 x2 hx2'
      unfold rt_ook at hox2
      rw [Bool.and_eq_true, Bool.and_eq_true, Bool.and_eq_true, Bool.and_eq_true, Bool.and_eq_true, Bool.and_eq_true, Bool.and_eq_true, Bool.and_eq_true, Bool.and_eq_true, ai_beq, decide_eq_true_eq, decide_eq_true_eq, decide_eq_true_eq, decide_eq_true_eq] at hox2
      obtain ⟨o1, o2, o3, o4, o5, o5', o6, o7, o8, o9⟩ := hox2
      have w50 : ∀ j, j < 26 → vi ws3 50 j (K j) := fun j hj => vi.lk k6 (decide_eq_true_eq.mp (List.all_eq_true.mp o9 j (List.mem_range.mpr hj))) (yK j hj) (by omega)
      rw [o4] at k4
      obtain ⟨yv, s1, rfl, dy, k4⟩ := k4.cons
      have hs1 := k4.nil
      subst hs1
      obtain ⟨z, rfl, hz⟩ := dvn dy y5
      rw [o2]
      refine k ws3 lv4 z (by rw [htext]) k5 ((wsub_ok (by decide) F2).tr k7) (vi.lk k6 (decide_eq_true_eq.mp o1) y0 (by omega)) (vi.lk k6 (decide_eq_true_eq.mp o3) y0 (by rw [htext]; rfl)) ?_ (vi.lk k6 (decide_eq_true_eq.mp o5) y3 (by rw [hcnt]; omega)) (vi.lk k6 o5' y6 (by rw [hacn]; omega)) (vi.lk k6 (decide_eq_true_eq.mp o6) y0 (by omega)) (vi.lk k6 o7 y0 (by omega)) (vi.lk k6 o8 y0 (by omega)) ⟨fun j hj => ?_, ?_, ?_⟩ (fun i hi => ?_) (by rw [hcnt]; exact hro)
      rotate_left
      · rw [(hrv.1 j hj).fun (hK j (by omega)).1]
        exact w50 j (by omega)
      · rw [hrv.2.1.fun (hK 16 (by omega)).1]
        exact w50 16 (by omega)
      · rw [hrv.2.2.fun (hK 17 (by omega)).1]
        exact w50 17 (by omega)
      · rw [hacn] at hi
        rw [hact, (hpa i hi).fun (hK (18 + i) (by omega)).1]
        exact w50 (18 + i) (by omega)
      unfold sp_ret
      rw [htext, if_pos rfl]
      show z.toInt = (ln : Int)
      omega
end RTL
