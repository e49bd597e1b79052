/-! skip as a known method, with its fact -/
theorem fx_has {ad : List Nat} {tys : ai_ty} {ws : va_W} {k n i : Nat} {pat : List ai_f} (h : ai_wd tb_TY ad tys ws) (hT : tb_TY[k]? = some (1, n, pat)) (hi : i < n) : ∃ t, fx_o ws k i = some t := by
  obtain ⟨a, e, h1, h2, h3⟩ := h.get hT
  rcases h3 with ⟨z, -⟩ | ⟨-, cA, f, rfl, -, -⟩ | ⟨z, -⟩ | ⟨z, -⟩
  · exact absurd (id z : (1 : Nat) = 0) (by decide)
  · exact ⟨_, fx_sl_o ⟨a, cA, n, f, h1, hi, rfl⟩⟩
  · exact absurd (id z : (1 : Nat) = 3) (by decide)
  · exact absurd (id z : (1 : Nat) = 4) (by decide)
theorem fx_g {ad : List Nat} {tys : ai_ty} {ws : va_W} (h : ai_wd tb_TY ad tys ws) : fx_tape ws (fx_at ws 27) := fun i hi => by
  obtain ⟨t, ht⟩ := fx_has (k := 27) h rfl hi
  unfold fx_at
  rw [ht]
  rfl
theorem tp_sk_congr {g g' : Nat → Int} {lo hi : Int} : ∀ (f p : Nat), (∀ i, p ≤ i → i < p + f → g i = g' i) → tp_sk g lo hi f p = tp_sk g' lo hi f p
  | 0, _, _ => rfl
  | f + 1, p, h => by
    show (if tp_i (g p) lo hi = true then tp_sk g lo hi f (p + 1) else p) = (if tp_i (g' p) lo hi = true then tp_sk g' lo hi f (p + 1) else p)
    rw [h p (Nat.le_refl _) (by omega), tp_sk_congr f (p + 1) (fun i h1 h2 => h i (by omega) (by omega))]
theorem tp_skip_congr {g g' : Nat → Int} {n p : Nat} {lo hi : Int} (h : ∀ i, i < n → g i = g' i) : tp_skip g n lo hi p = tp_skip g' n lo hi p := by
  unfold tp_skip
  exact tp_sk_congr _ _ (fun i h1 h2 => h i (by omega))
def nowr (WR : List (Nat × Nat × Nat)) (c : Nat) : Bool := !(WR.any fun q => Nat.beq q.1 c || Nat.beq q.1 1000)
theorem nowr_ok {WR : List (Nat × Nat × Nat)} {c : Nat} (h : nowr WR c = true) (i j : Nat) : ai_wr WR c i j = false := by
  unfold nowr at h
  rw [Bool.not_eq_true'] at h
  unfold ai_wr
  rw [List.any_eq_false]
  intro q hq hx
  have := List.any_eq_false.mp h q hq
  rw [Bool.or_eq_true, ai_beq, ai_beq] at this
  rw [Bool.and_eq_true, Bool.and_eq_true, Bool.or_eq_true, decide_eq_true_eq, decide_eq_true_eq] at hx
  exact this hx.1.1
/-- the tape of w0 is the tape now -/
theorem tape_now {ad : List Nat} {tys : ai_ty} {WR : List (Nat × Nat × Nat)} {w0 ws : va_W} {g : Nat → Int} (h : ai_wd tb_TY ad tys ws) (hf : ai_fr WR w0 ws) (hn : nowr WR 27 = true) (hg : fx_tape w0 g) : ∀ i, i < 160 → fx_at ws 27 i = g i := fun i hi => by
  have a := fr_fx (k := 27) h rfl hf (nowr_ok hn i i) (hg i hi)
  unfold fx_at
  rw [a]
  rfl
theorem kn_fr {ad : List Nat} {b : Nat} {r : List Int} {Z : List (Nat × Nat × Nat)} {ws ws' : va_W} {kn : List ai_k} (hf : ai_fr Z ws ws') (hk : ai_kn ad b r ws kn) (hz : ∀ q ∈ kn, ai_wr Z q.1 q.2.1 q.2.1 = false) : ai_kn ad b r ws' kn := fun q hq => by
  obtain ⟨x, h1, h2⟩ := hk q hq
  exact ⟨x, hf _ _ _ (hz q hq) h1, h2⟩
theorem wr1 {c i k j : Nat} (h : ¬ (k = c ∧ j = i)) (hc : c ≠ 1000) : ai_wr [(c, i, i + 1)] k j j = false := by
  unfold ai_wr
  rw [List.any_eq_false]
  intro q hq hx
  rw [List.mem_singleton.mp hq] at hx
  simp only [Bool.and_eq_true, Bool.or_eq_true, decide_eq_true_eq] at hx
  omega
theorem dr_out {kn : List ai_k} {c i : Nat} {q : ai_k} (h : q ∈ ai_dr kn c i i) : q ∈ kn ∧ ¬ (q.1 = c ∧ q.2.1 = i) := by
  unfold ai_dr at h
  obtain ⟨h1, h2⟩ := List.mem_filter.mp h
  refine ⟨h1, fun hc => ?_⟩
  rw [Bool.not_eq_true', Bool.and_eq_false_iff] at h2
  rcases h2 with h2 | h2
  · rw [ai_beq.mpr hc.1] at h2
    cases h2
  · rw [Bool.and_eq_false_iff] at h2
    rcases h2 with h2 | h2
    · rw [Nat.ble_eq_true_of_le (by omega)] at h2
      cases h2
    · rw [Nat.ble_eq_true_of_le (by omega)] at h2
      cases h2
def su_j (lo : List (Nat × ai_v)) : Option Nat := if decide (lo = sk_lo 0) = true then some 0 else if decide (lo = sk_lo 1) = true then some 1 else if decide (lo = sk_lo 2) = true then some 2 else none
theorem su_j_ok {lo : List (Nat × ai_v)} {j : Nat} (h : su_j lo = some j) : j < 3 ∧ lo = sk_lo j := by
  unfold su_j at h
  split at h
  · rename_i hd
    cases h
    exact ⟨by decide, decide_eq_true_eq.mp hd⟩
  · split at h
    · rename_i hd
      cases h
      exact ⟨by decide, decide_eq_true_eq.mp hd⟩
    · split at h
      · rename_i hd
        cases h
        exact ⟨by decide, decide_eq_true_eq.mp hd⟩
      · cases h
def su_sk (WR : List (Nat × Nat × Nat)) (st : ai_s) : Option (List ai_s) :=
  (ai_lk st.2.2.2.2.1 26 7).bind fun v => (ai_lk st.2.2.2.2.1 26 1).bind fun w => (su_j st.2.1).bind fun j =>
    if v.1 = 1 ∧ w.1 = 1 ∧ w.2.2.2 = 0 ∧ st.2.2.1 = [] ∧ ai_wr WR 26 7 7 = true ∧ nowr WR 27 = true ∧ ai_z st.2.2.2.1 = true then
      some [(50, [], [], st.2.2.2.1 ++ [(0, 160, false, v.2.1, v.2.2.2)], (26, 7, (1, st.2.2.2.1.length, 0, 0)) :: ai_dr st.2.2.2.2.1 26 7 7, (320 + j, v.2.1, w.2.1, st.2.2.2.1.length, v.2.2.2) :: st.2.2.2.2.2)] else none
theorem f267 {ad : List Nat} {tys : ai_ty} {ws : va_W} {i : Nat} {z : Int32} {lo hi : Int} (h : ai_wd tb_TY ad tys ws) (hs : ai_sl ws 26 i (.int z)) (hF : (tb_TY[26]?).bind (fun t => t.2.2[i]?) = some (1, 0, lo, hi)) : lo ≤ z.toInt ∧ z.toInt ≤ hi := by
  obtain ⟨a, e, h1, h2, h3⟩ := h.get (c := 26) rfl
  rcases h3 with ⟨-, fs, rfl, h4, h5⟩ | ⟨z, -⟩ | ⟨z, -⟩ | ⟨z, -⟩
  · obtain ⟨x, h6, h7⟩ := h5 i _ hF
    obtain ⟨a', e', s1, s2⟩ := hs
    rw [h1] at s1
    cases s1
    rcases s2 with ⟨ci, fs', q, q2⟩ | ⟨cA', n', f', q, q2, q3⟩
    · cases q
      rw [h6] at q2
      cases q2
      rcases h7 with ⟨z, -⟩ | ⟨-, j, q, b1, b2⟩ | ⟨z, -⟩
      · exact absurd (id z : (1 : Nat) = 0) (by decide)
      · cases q
        exact ⟨b1, b2⟩
      · exact absurd (id z : (1 : Nat) = 2) (by decide)
    · cases q
  · rcases z with z | z
    · exact absurd (id z : (0 : Nat) = 1) (by decide)
    · exact absurd (id z : (0 : Nat) = 2) (by decide)
  · exact absurd (id z : (0 : Nat) = 3) (by decide)
  · exact absurd (id z : (0 : Nat) = 4) (by decide)
theorem su_sk_ok {WR : List (Nat × Nat × Nat)} {d : Nat} {st : ai_s} {xs : List ai_s} (hq : su_sk WR st = some xs) (h0 : st.1 = 0) (hd : 3 ≤ d) {w0 : va_W} {ad : List Nat} {p : Program} {l : Launch} {e : Env} {R : Room} {s : State} {m : MethodId} {args : Array Value} {below : List Frame} {meth : Method} {c : Code} {D : va_G} {tys : ai_ty} {A : Nat → Prop} {b L : Nat} {sx : Nat → Int32} {cells slots : Nat} {Q : State → Prop} {r0 : List Int}
    (C : ai_cx tb_m35 d p R s m args c D tys A b L sx cells slots) (k : ∀ x ∈ xs, ai_G tb_TY WR w0 ad tb_m35 p l e R s m args below meth c D tys A b L sx cells slots Q r0 x) : ai_G tb_TY WR w0 ad tb_m35 p l e R s m args below meth c D tys A b L sx cells slots Q r0 st := by
  unfold su_sk at hq
  obtain ⟨v, v1, hq⟩ := Option.bind_eq_some_iff.mp hq
  obtain ⟨w, w1, hq⟩ := Option.bind_eq_some_iff.mp hq
  obtain ⟨j, j1, hq⟩ := Option.bind_eq_some_iff.mp hq
  obtain ⟨hj, hlo⟩ := su_j_ok j1
  split at hq
  · rename_i hc
    obtain ⟨c1, c2, c3, c4, c5, c6, c7⟩ := hc
    injection hq with hq
    subst hq
    intro r lv sk ws H locs ls hx g hP hD hS hl
    obtain ⟨g1, g2, g3, g4, g5, g6, g7, g8⟩ := g
    have hsk : sk = [] := by rw [c4] at g4; exact g4.nil
    subst hsk
    rw [h0]
    obtain ⟨x1, s1, d1⟩ := ai_lk_ok g6 v1
    obtain ⟨x2, s2, d2⟩ := ai_lk_ok g6 w1
    obtain ⟨zc, rfl⟩ : ∃ i : Int32, x1 = .int i := by
      rcases d1 with ⟨q, -⟩ | ⟨-, z, i, -, q2, -⟩ | ⟨q, -⟩ | ⟨q, -⟩ | ⟨q, -⟩
      · omega
      · exact ⟨i, q2⟩
      all_goals omega
    obtain ⟨zn, rfl⟩ : ∃ i : Int32, x2 = .int i := by
      rcases d2 with ⟨q, -⟩ | ⟨-, z, i, -, q2, -⟩ | ⟨q, -⟩ | ⟨q, -⟩ | ⟨q, -⟩
      · omega
      · exact ⟨i, q2⟩
      all_goals omega
    obtain ⟨za, a1, a2⟩ := ai_dv1 d1 c1
    obtain ⟨zb, b1, b2⟩ := ai_dv1 d2 c2
    rw [c3] at b2
    obtain ⟨e1, e2⟩ := f267 (i := 7) g5 s1 rfl
    obtain ⟨e3, e4⟩ := f267 (i := 1) g5 s2 rfl
    have r00 : r[0]? = some 0 := ai_z_ok g1 c7
    have hrl : r.length = st.2.2.2.1.length := g1.1
    refine sk_loop (g := fx_at ws 27) hj (mm_cx hd C) e3 e4 ((160 - zc.toInt).toNat + 1) ws zc lv (Nat.lt_succ_self _) g5 s2 s1 e1 e2 (fx_g g5) (lo0_ok r00 rfl rfl (by rw [← hlo]; exact g3)) (fun ws' lv' ze hw' hf h7 z0 z1 ez => ?_) H locs ls hP hD hS hl
    intro H' locs' ls' hP' hD' hS' hl'
    have hle := (tp_skip_le (g := fx_at ws 27) (n := zn.toInt.toNat) (p := zc.toInt.toNat) (lo := fx_lo j) (hi := fx_hi j)).1
    refine k _ (List.mem_singleton.mpr rfl) (r ++ [ze.toInt]) [] [] ws' H' locs' ls' (hx.tr ai_x.push) ⟨g1.push ⟨z0, z1, (fun h => by cases h), za, ai_x.push.at a1, by show za + v.2.2.2 ≤ ze.toInt; omega⟩, ?_, trivial, trivial, hw', ?_, ?_, fun h => by cases h⟩ hP' hD' hS' ⟨hl'.1, hl'.2.1, fun q hq => by cases hq⟩
    · intro q hq
      rcases List.mem_cons.mp hq with rfl | hq
      · refine ⟨za, zb, ze.toInt, ai_x.push.at a1, ai_x.push.at b1, ai_last g1.1, fun h => absurd (show 320 + j = 0 from h) (by omega), fun h => absurd (show 320 + j = 1 from h) (by omega), fun h => absurd (show 320 + j = 2 from h) (by omega), fun h => absurd (show 320 + j = 4 from h) (by omega), fun h => absurd (show 320 + j = 5 from h) (by omega), fun _ => ⟨fun h => absurd (show 1000 ≤ 320 + j from h) (by omega), fun h => absurd (show 320 + j < 300 ∨ (500 ≤ 320 + j ∧ 320 + j < 1000) from h) (by omega), fun g hg => ⟨fun _ h => absurd (show 320 + j < 305 from h) (by omega), fun _ h => absurd (show 320 + j < 318 from h) (by omega), fun _ _ => ⟨za, zb, ze.toInt, ai_x.push.at a1, ai_x.push.at b1, ai_last g1.1, by show 0 ≤ za + v.2.2.2; omega, z0, ?_⟩, fun h => absurd (show 400 ≤ 320 + j from h) (by omega), fun h => absurd (show 320 + j = 330 from h) (by omega)⟩, fun h => absurd (show 320 + j = 350 from h) (by omega)⟩⟩
        show ze.toInt.toNat = tp_skip g zb.toNat (fx_lo (320 + j - 320)) (fx_hi (320 + j - 320)) (za + v.2.2.2).toNat
        rw [Nat.add_sub_cancel_left, ez, ← a2, show zb = zn.toInt by omega]
        exact tp_skip_congr (fun i hi => tape_now g5 g7 c6 hg i (by omega))
      · exact g2.mono ai_x.push q hq
    · intro q hq
      rcases List.mem_cons.mp hq with rfl | hq
      · exact ⟨_, h7, Or.inr (Or.inl ⟨rfl, _, _, ai_last g1.1, rfl, by show ze.toInt = ze.toInt + 0; omega⟩)⟩
      · obtain ⟨q1, q2⟩ := dr_out hq
        obtain ⟨x, k1, k2⟩ := g6 q q1
        exact ⟨x, hf _ _ _ (wr1 (c := 26) (i := 7) q2 (by decide)) k1, k2.mono ai_x.push⟩
    · intro cc i x hwr hsl
      by_cases hci : cc = 26 ∧ i = 7
      · rw [hci.1, hci.2, c5] at hwr
        cases hwr
      · exact hf cc i x (wr1 (c := 26) (i := 7) hci (by decide)) (g7 cc i x hwr hsl)
  · cases hq
