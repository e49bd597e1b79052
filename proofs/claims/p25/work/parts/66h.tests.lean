/-! plan, fill, alter in the law -/
def al_W (t : Nat) : List (Nat × Nat × Nat) := [(2, t, t + 1), (3, t, t + 1), (4, t, t + 1), (5, t, t + 1), (50, t, t + 1), (50, 4 + t, 5 + t), (50, 8 + t, 9 + t), (50, 12 + t, 13 + t)]
def alW : List (Nat × Nat × Nat) := [(2, 0, 4), (3, 0, 4), (4, 0, 4), (5, 0, 4), (50, 0, 16)]
theorem al_sub {t : Nat} (ht : t < 4) {u v : va_W} (hf : ai_fr (al_W t) u v) : ai_fr alW u v := fr_sub (fun c i h q hq => by
  have h1 := h (2, 0, 4) (by unfold alW; simp)
  have h2 := h (3, 0, 4) (by unfold alW; simp)
  have h3 := h (4, 0, 4) (by unfold alW; simp)
  have h4 := h (5, 0, 4) (by unfold alW; simp)
  have h5 := h (50, 0, 16) (by unfold alW; simp)
  dsimp only at h1 h2 h3 h4 h5
  unfold al_W at hq
  simp only [List.mem_cons, List.not_mem_nil, or_false] at hq
  rcases hq with rfl | rfl | rfl | rfl | rfl | rfl | rfl | rfl <;> dsimp only <;> omega) hf
section LWU
variable {ad : List Nat} {p : Program} {l : Launch} {e : Env} {R : Room} {s : State} {m : MethodId} {args : Array Value} {below : List Frame} {meth : Method} {c : Code} {D : va_G} {tys : ai_ty} {A : Nat → Prop} {b L : Nat} {sx : Nat → Int32} {cells slots : Nat} {Q : State → Prop}
/-- one test becomes another -/
theorem Inv.test {ws ws' : va_W} {t : Nat} {g : Nat → Int} {u q y : Int} {n tt : Nat} {k0 k1 : Int} {E : Nat → Int} {a : Nat} {P : Nat → Int} {vk vs vm vp : Int} (hb : baI ws t g u q y n k0 k1) (hp : pgI ws 1 0 n E a P) (hi0 : k0 = 1 → imI ws 0 n) (hi1 : k1 = 1 → imI ws 1 n) (hs : shI ws) (hw' : ai_wd tb_TY ad tys ws') (ht : tt < n) (hf : ai_fr (al_W tt) ws ws') (v1 : vi ws' 2 tt vk) (v2 : vi ws' 3 tt vs) (v3 : vi ws' 4 tt vm) (v4 : vi ws' 5 tt vp) (w1 : vi ws' 50 tt vk) (w2 : vi ws' 50 (4 + tt) vs) (w3 : vi ws' 50 (8 + tt) vm) (w4 : vi ws' 50 (12 + tt) vp) (g1 : 0 ≤ vk ∧ vk ≤ 3) (g2 : 1 ≤ vs ∧ vs ≤ 99) (g3 : 0 ≤ vm ∧ vm ≤ vs) (g4 : 0 ≤ vp ∧ vp ≤ 99) : Inv ws' := by
  obtain ⟨hn1, hn2, hn4⟩ := hb.2.2.2.2.1
  obtain ⟨hc, he, hg⟩ := hp.1
  have wn : ∀ {cc i : Nat}, (cc = 2 ∨ cc = 3 ∨ cc = 4 ∨ cc = 5) → i ≠ tt → ai_wr (al_W tt) cc i i = false := fun {cc i} hcc hi => wr_no fun q hq => by
    unfold al_W at hq
    simp only [List.mem_cons, List.not_mem_nil, or_false] at hq
    rcases hq with rfl | rfl | rfl | rfl | rfl | rfl | rfl | rfl <;> dsimp only <;> omega
  have wp : ∀ {j : Nat}, j ≠ tt → j ≠ 4 + tt → j ≠ 8 + tt → j ≠ 12 + tt → ai_wr (al_W tt) 50 j j = false := fun {j} h1 h2 h3 h4 => wr_no fun q hq => by
    unfold al_W at hq
    simp only [List.mem_cons, List.not_mem_nil, or_false] at hq
    rcases hq with rfl | rfl | rfl | rfl | rfl | rfl | rfl | rfl <;> dsimp only <;> omega
  refine Inv.page (E' := ev_test E tt vk vs vm vp) hb hp hi0 hi1 hs hw' (al_sub (by omega) hf) (by decide) ⟨fun i hi => ?_, ?_, ?_⟩ ⟨fun i hi => ?_, ?_, ?_⟩ ⟨fun i hi => ?_, ?_, ?_⟩
  · by_cases hit : i = tt
    · subst hit
      rw [ev_test_k, ev_test_s, ev_test_m, ev_test_p]
      exact ⟨v1, v2, v3, v4⟩
    · obtain ⟨x1, x2, x3, x4⟩ := hc.1 i hi
      rw [ev_test_ne (j := i) (by omega) (by omega) (by omega) (by omega), ev_test_ne (j := 4 + i) (by omega) (by omega) (by omega) (by omega), ev_test_ne (j := 8 + i) (by omega) (by omega) (by omega) (by omega), ev_test_ne (j := 12 + i) (by omega) (by omega) (by omega) (by omega)]
      exact ⟨x1.fr hf (wn (Or.inl rfl) hit), x2.fr hf (wn (Or.inr (Or.inl rfl)) hit), x3.fr hf (wn (Or.inr (Or.inr (Or.inl rfl))) hit), x4.fr hf (wn (Or.inr (Or.inr (Or.inr rfl))) hit)⟩
  · rw [ev_test_ne (by omega) (by omega) (by omega) (by omega)]
    exact hc.2.1.fr hf rfl
  · rw [ev_test_ne (by omega) (by omega) (by omega) (by omega)]
    exact hc.2.2.fr hf rfl
  · by_cases hit : i = tt
    · subst hit
      rw [ev_test_k, ev_test_s, ev_test_m, ev_test_p]
      exact ⟨w1, w2, w3, w4⟩
    · obtain ⟨x1, x2, x3, x4⟩ := he.1 i hi
      rw [ev_test_ne (j := i) (by omega) (by omega) (by omega) (by omega), ev_test_ne (j := 4 + i) (by omega) (by omega) (by omega) (by omega), ev_test_ne (j := 8 + i) (by omega) (by omega) (by omega) (by omega), ev_test_ne (j := 12 + i) (by omega) (by omega) (by omega) (by omega)]
      exact ⟨x1.fr hf (wp (by omega) (by omega) (by omega) (by omega)), x2.fr hf (wp (j := 4 + i) (by omega) (by omega) (by omega) (by omega)), x3.fr hf (wp (j := 8 + i) (by omega) (by omega) (by omega) (by omega)), x4.fr hf (wp (j := 12 + i) (by omega) (by omega) (by omega) (by omega))⟩
  · rw [ev_test_ne (by omega) (by omega) (by omega) (by omega)]
    exact he.2.1.fr hf (wp (j := 16) (by omega) (by omega) (by omega) (by omega))
  · rw [ev_test_ne (by omega) (by omega) (by omega) (by omega)]
    exact he.2.2.fr hf (wp (j := 17) (by omega) (by omega) (by omega) (by omega))
  · by_cases hit : i = tt
    · subst hit
      rw [ev_test_k, ev_test_s, ev_test_m, ev_test_p]
      exact ⟨g1, g2, g3, g4⟩
    · rw [ev_test_ne (j := i) (by omega) (by omega) (by omega) (by omega), ev_test_ne (j := 4 + i) (by omega) (by omega) (by omega) (by omega), ev_test_ne (j := 8 + i) (by omega) (by omega) (by omega) (by omega), ev_test_ne (j := 12 + i) (by omega) (by omega) (by omega) (by omega)]
      exact hg.1 i hi
  · rw [ev_test_ne (by omega) (by omega) (by omega) (by omega)]
    exact hg.2.1
  · rw [ev_test_ne (by omega) (by omega) (by omega) (by omega)]
    exact hg.2.2
theorem lw_plan {i q0 q49 : Nat} {ws : va_W} (C : ai_cx tb_m169 11 p R s m args c D tys A b L sx cells slots) (e0 : ad[0]? = some q0) (e49 : ad[49]? = some q49) (hi : i + 5 ≤ L) (hL : L ≤ 2560) (hw : ai_wd tb_TY ad tys ws) (hI : Inv ws)
    (k : ∀ wc, ai_wd tb_TY ad tys wc → Inv wc → hG tb_m169 p l e R s m args below meth c D A cells slots Q 1298 [(0, .ref b), (1, .ref q0), (2, .ref q49), (3, .int (nI i))] [] wc) : hG tb_m169 p l e R s m args below meth c D A cells slots Q 436 [(0, .ref b), (1, .ref q0), (2, .ref q49), (3, .int (nI i))] [] ws := by
  have b0 := ai_irg (sx i)
  have b1 := ai_irg (sx (i + 1))
  have b2 := ai_irg (sx (i + 2))
  have b3 := ai_irg (sx (i + 3))
  have b4 := ai_irg (sx (i + 4))
  have hI' := hI
  obtain ⟨t, g, u, q, y, n, j0, j1, E, a, P, hb, hp, hi0, hi1, hs⟩ := hI'
  obtain ⟨hn1, hn2, hn4⟩ := hb.2.2.2.2.1
  obtain ⟨p3, p26, p8⟩ := hp.2.1
  have hpl := hp.2.2
  by_cases ha8 : a = 8
  · subst ha8
    exact lw_no (rr := [(n : Int)]) C e0 e49 hi hL hw hI pn_r8 (en_mk (by simp only [lw_r, lw_en, List.cons_append, List.nil_append, en_b, and_true]; omega) rfl) sb0 (kc (hn1.kn (n := 8) (t := (n : Int)) rfl (by omega)) (kc (hn2.kn (n := 8) (t := (n : Int)) rfl (by omega)) (kc (p3.kn (n := 0) (t := 0) rfl (by omega)) (kc (p26.kn (n := 0) (t := 0) rfl (by omega)) k0)))) k
  · obtain ⟨K, hK⟩ := vi_rows (k := 6) hw rfl
    obtain ⟨M, hM⟩ := vi_rowsP (k := 50) hw rfl
    have ha : a < 8 := by omega
    have bK := (hK a ha).2
    have bM : 0 ≤ M (18 + a) ∧ M (18 + a) ≤ 4 := match a, ha with
      | 0, _ => (hM 18 (by decide)).2 _ rfl
      | 1, _ => (hM 19 (by decide)).2 _ rfl
      | 2, _ => (hM 20 (by decide)).2 _ rfl
      | 3, _ => (hM 21 (by decide)).2 _ rfl
      | 4, _ => (hM 22 (by decide)).2 _ rfl
      | 5, _ => (hM 23 (by decide)).2 _ rfl
      | 6, _ => (hM 24 (by decide)).2 _ rfl
      | 7, _ => (hM 25 (by decide)).2 _ rfl
      | a + 8, h => absurd h (by omega)
    refine lw_sum (rr := [(n : Int), K a, M (18 + a)]) C e0 e49 hi hL hw (List.all_eq_true.mp pn_ra a (List.mem_range.mpr ha)) rfl (en_mk (by simp only [lw_r, pn_en, lw_en, List.cons_append, List.nil_append, en_b, and_true]; omega) rfl) sb0 (kc (hn1.kn (n := 8) (t := (n : Int)) rfl (by omega)) (kc (hn2.kn (n := 8) (t := (n : Int)) rfl (by omega)) (kc (p3.kn (n := 0) (t := 0) rfl (by omega)) (kc (p26.kn (n := 0) (t := 0) rfl (by omega)) (kc ((hK a ha).1.kn (n := 9) (t := K a) rfl (by omega)) (kc ((hM (18 + a) (by omega)).1.kn (n := 10) (t := M (18 + a)) rfl (by omega)) k0)))))) (fun tt ht r' ws' hx' hbb hl hw' hv hf => ?_)
    have h0 := nm_x hx' (k := 0) rfl
    have h4 := nm_x hx' (k := 4) rfl
    have h8 := nm_x hx' (k := 8) rfl
    have wG : wrG (pn_W a) = true := match a, ha with
      | 0, _ => by decide
      | 1, _ => by decide
      | 2, _ => by decide
      | 3, _ => by decide
      | 4, _ => by decide
      | 5, _ => by decide
      | 6, _ => by decide
      | 7, _ => by decide
      | a + 8, h => absurd h (by omega)
    have wH : (nwr (pn_W a) [(0, 10), (49, 24), (1, 0), (1, 1), (1, 2)] && (nowr (pn_W a) 2 && (nowr (pn_W a) 3 && (nowr (pn_W a) 4 && (nowr (pn_W a) 5 && (List.range 18).all fun j => !(ai_wr (pn_W a) 50 j j)))))) = true := match a, ha with
      | 0, _ => by decide
      | 1, _ => by decide
      | 2, _ => by decide
      | 3, _ => by decide
      | 4, _ => by decide
      | 5, _ => by decide
      | 6, _ => by decide
      | 7, _ => by decide
      | a + 8, h => absurd h (by omega)
    have old : ∀ j, j < a → vi ws' 6 j (P j) ∧ vi ws' 50 (18 + j) (P j) ∧ (P j = 4 ∨ (0 ≤ P j ∧ P j < n)) := fun j hj => by
      obtain ⟨x1, x2, x3⟩ := hpl j hj
      refine ⟨x1.fr hf (wr_no fun q hq => ?_), x2.fr hf (wr_no fun q hq => ?_), x3⟩
      · unfold pn_W at hq
        simp only [List.mem_cons, List.not_mem_nil, or_false] at hq
        rcases hq with rfl | rfl | rfl | rfl <;> dsimp only <;> omega
      · unfold pn_W at hq
        simp only [List.mem_cons, List.not_mem_nil, or_false] at hq
        rcases hq with rfl | rfl | rfl | rfl <;> dsimp only <;> omega
    have same : vi ws' 1 3 a → vi ws' 50 26 a → hG tb_m169 p l e R s m args below meth c D A cells slots Q 1298 [(0, .ref b), (1, .ref q0), (2, .ref q49), (3, .int (nI i))] [] ws' := fun v1 v2 => k ws' hw' (Inv.plan (P' := P) hb hp hi0 hi1 hs hw' hf wG wH ⟨v1, v2, by omega⟩ old)
    have more : ∀ z : Int, (z = 4 ∨ (0 ≤ z ∧ z < n)) → vi ws' 1 3 ((a : Int) + 1) → vi ws' 50 26 ((a : Int) + 1) → vi ws' 6 a z → vi ws' 50 (18 + a) z → hG tb_m169 p l e R s m args below meth c D A cells slots Q 1298 [(0, .ref b), (1, .ref q0), (2, .ref q49), (3, .int (nI i))] [] ws' := fun z hz v1 v2 v3 v4 => k ws' hw' (Inv.plan (a' := a + 1) (P' := fun j => if j = a then z else P j) hb hp hi0 hi1 hs hw' hf wG wH ⟨v1.eq (by omega), v2.eq (by omega), by omega⟩ (fun j hj => by
      by_cases hja : j = a
      · subst hja
        rw [if_pos rfl]
        exact ⟨v3, v4, hz⟩
      · rw [if_neg hja]
        exact old j (by omega)))
    unfold pn_S at ht
    rcases List.mem_cons.mp ht with rfl | ht
    · simp (config := { decide := true }) only [bnd_b, lin_b, lin_q, Nat.reduceAdd, Nat.zero_add, Nat.reduceEqDiff, reduceIte, and_true, Int.add_zero] at hbb hl
      obtain ⟨v1, v2, v3, v4, -⟩ := hv
      exact more (sx (i + 1)).toInt (by omega) (v1.eq (by dsimp only; omega)) (v2.eq (by dsimp only; omega)) (v3.eq (by dsimp only; omega)) (v4.eq (by dsimp only; omega))
    rcases List.mem_cons.mp ht with rfl | ht
    · obtain ⟨v1, v2, -, -, -⟩ := hv
      exact same (v1.eq (by dsimp only; omega)) (v2.eq (by dsimp only; omega))
    rcases List.mem_cons.mp ht with rfl | ht
    · obtain ⟨v1, v2, -, -, -⟩ := hv
      exact same (v1.eq (by dsimp only; omega)) (v2.eq (by dsimp only; omega))
    rcases List.mem_cons.mp ht with rfl | ht
    · simp (config := { decide := true }) only [bnd_b, lin_b, lin_q, Nat.reduceAdd, Nat.zero_add, Nat.reduceEqDiff, reduceIte, and_true, Int.add_zero] at hbb hl
      obtain ⟨v1, v2, v3, v4, -⟩ := hv
      exact more (sx (i + 1)).toInt (by omega) (v1.eq (by dsimp only; omega)) (v2.eq (by dsimp only; omega)) (v3.eq (by dsimp only; omega)) (v4.eq (by dsimp only; omega))
    · cases ht
def al_en (t : Nat) : List ai_e := lw_eb (t : Int) (t : Int) ++ [((t : Int) + 1, 4, false, 8, 0), (0, 3, false, 9, 0), (1, 99, false, 10, 0), (0, 99, false, 11, 0), (0, 99, false, 12, 0)]
def al_kn (t : Nat) : List ai_k := [(1, 0, (1, 8, 0, 0)), (49, 1, (1, 8, 0, 0)), (2, t, (1, 9, 0, 0)), (3, t, (1, 10, 0, 0)), (4, t, (1, 11, 0, 0)), (5, t, (1, 12, 0, 0)), (50, t, (1, 9, 0, 0)), (50, 4 + t, (1, 10, 0, 0)), (50, 8 + t, (1, 11, 0, 0)), (50, 12 + t, (1, 12, 0, 0))]
def al_pl (t : Nat) : List (Nat × Nat) := [(2, t), (3, t), (4, t), (5, t), (50, t), (50, 4 + t), (50, 8 + t), (50, 12 + t)]
def fl_S (t : Nat) : List sm_t := [
  (1298, lw_lo, [], [(1, 9, 0, 0), (1, 10, 0, 0), (1, 0, 0, 0), (1, 0, 0, 0), (1, 9, 0, 0), (1, 10, 0, 0), (1, 0, 0, 0), (1, 0, 0, 0)], [(0, 0, false, 0, 0), (0, 2555, false, 1, 0), (0, 0, false, 2, 0), (-2147483648, 2147483647, false, 3, 0), ((t : Int), (t : Int), false, 4, 0), (-2147483648, 2147483647, false, 5, 0), (-2147483648, 2147483647, false, 6, 0), (-2147483648, 2147483647, false, 7, 0), ((t : Int) + 1, 4, false, 8, 0), (0, 3, false, 9, 0), (1, 99, false, 10, 0), (0, 99, false, 11, 0), (0, 99, false, 12, 0)], [])]
def al_S (t : Nat) : List sm_t := [
  (1298, lw_lo, [], [(1, 9, 0, 0), (1, 10, 0, 0), (1, 11, 0, 0), (1, 12, 0, 0), (1, 9, 0, 0), (1, 10, 0, 0), (1, 11, 0, 0), (1, 12, 0, 0)], [(0, 0, false, 0, 0), (0, 2555, false, 1, 0), (0, 0, false, 2, 0), (-2147483648, 2147483647, false, 3, 0), ((t : Int), (t : Int), false, 4, 0), (-2147483648, -1, true, 5, 0), (-2147483648, 2147483647, false, 6, 0), (-2147483648, 2147483647, false, 7, 0), ((t : Int) + 1, 4, false, 8, 0), (0, 3, false, 9, 0), (1, 99, false, 10, 0), (0, 99, false, 11, 0), (0, 99, false, 12, 0)], [(140, 5, 0, 5, 3), (140, 5, 0, 5, 1), (140, 5, 0, 5, 0)]),
  (1298, lw_lo, [], [(1, 9, 0, 0), (1, 10, 0, 0), (1, 11, 0, 0), (1, 12, 0, 0), (1, 9, 0, 0), (1, 10, 0, 0), (1, 11, 0, 0), (1, 12, 0, 0)], [(0, 0, false, 0, 0), (0, 2555, false, 1, 0), (0, 0, false, 2, 0), (-2147483648, 2147483647, false, 3, 0), ((t : Int), (t : Int), false, 4, 0), (4, 2147483647, true, 5, 0), (-2147483648, 2147483647, false, 6, 0), (-2147483648, 2147483647, false, 7, 0), ((t : Int) + 1, 4, false, 8, 0), (0, 3, false, 9, 0), (1, 99, false, 10, 0), (0, 99, false, 11, 0), (0, 99, false, 12, 0)], [(140, 5, 0, 5, 3), (140, 5, 0, 5, 1), (140, 5, 0, 5, 0)]),
  (1298, lw_lo, [], [(1, 9, 0, 0), (1, 10, 0, 0), (1, 11, 0, 0), (1, 12, 0, 0), (1, 9, 0, 0), (1, 10, 0, 0), (1, 11, 0, 0), (1, 12, 0, 0)], [(0, 0, false, 0, 0), (0, 2555, false, 1, 0), (0, 0, false, 2, 0), (-2147483648, 2147483647, false, 3, 0), ((t : Int), (t : Int), false, 4, 0), (0, 0, false, 5, 0), (-2147483648, -1, false, 6, 0), (-2147483648, 2147483647, false, 7, 0), ((t : Int) + 1, 4, false, 8, 0), (0, 3, false, 9, 0), (1, 99, false, 10, 0), (0, 99, false, 11, 0), (0, 99, false, 12, 0)], []),
  (1298, lw_lo, [], [(1, 9, 0, 0), (1, 10, 0, 0), (1, 11, 0, 0), (1, 12, 0, 0), (1, 9, 0, 0), (1, 10, 0, 0), (1, 11, 0, 0), (1, 12, 0, 0)], [(0, 0, false, 0, 0), (0, 2555, false, 1, 0), (0, 0, false, 2, 0), (-2147483648, 2147483647, false, 3, 0), ((t : Int), (t : Int), false, 4, 0), (0, 0, false, 5, 0), (4, 2147483647, false, 6, 0), (-2147483648, 2147483647, false, 7, 0), ((t : Int) + 1, 4, false, 8, 0), (0, 3, false, 9, 0), (1, 99, false, 10, 0), (0, 99, false, 11, 0), (0, 99, false, 12, 0)], []),
  (1298, lw_lo, [], [(1, 6, 0, 0), (1, 10, 0, 0), (1, 11, 0, 0), (1, 12, 0, 0), (1, 6, 0, 0), (1, 10, 0, 0), (1, 11, 0, 0), (1, 12, 0, 0)], [(0, 0, false, 0, 0), (0, 2555, false, 1, 0), (0, 0, false, 2, 0), (-2147483648, 2147483647, false, 3, 0), ((t : Int), (t : Int), false, 4, 0), (0, 0, false, 5, 0), (0, 3, false, 6, 0), (-2147483648, 2147483647, false, 7, 0), ((t : Int) + 1, 4, false, 8, 0), (0, 3, false, 9, 0), (1, 99, false, 10, 0), (0, 99, false, 11, 0), (0, 99, false, 12, 0)], []),
  (1298, lw_lo, [], [(1, 9, 0, 0), (1, 10, 0, 0), (1, 11, 0, 0), (1, 12, 0, 0), (1, 9, 0, 0), (1, 10, 0, 0), (1, 11, 0, 0), (1, 12, 0, 0)], [(0, 0, false, 0, 0), (0, 2555, false, 1, 0), (0, 0, false, 2, 0), (-2147483648, 2147483647, false, 3, 0), ((t : Int), (t : Int), false, 4, 0), (1, 1, true, 5, 0), (-2147483648, 0, false, 6, 0), (-2147483648, 2147483647, false, 7, 0), ((t : Int) + 1, 4, false, 8, 0), (0, 3, false, 9, 0), (1, 99, false, 10, 0), (0, 99, false, 11, 0), (0, 99, false, 12, 0)], []),
  (1298, lw_lo, [], [(1, 9, 0, 0), (1, 10, 0, 0), (1, 11, 0, 0), (1, 12, 0, 0), (1, 9, 0, 0), (1, 10, 0, 0), (1, 11, 0, 0), (1, 12, 0, 0)], [(0, 0, false, 0, 0), (0, 2555, false, 1, 0), (0, 0, false, 2, 0), (-2147483648, 2147483647, false, 3, 0), ((t : Int), (t : Int), false, 4, 0), (1, 1, true, 5, 0), (100, 2147483647, false, 6, 0), (-2147483648, 2147483647, false, 7, 0), ((t : Int) + 1, 4, false, 8, 0), (0, 3, false, 9, 0), (1, 99, false, 10, 0), (0, 99, false, 11, 0), (0, 99, false, 12, 0)], []),
  (1298, lw_lo, [], [(1, 9, 0, 0), (1, 6, 0, 0), (1, 11, 0, 0), (1, 12, 0, 0), (1, 9, 0, 0), (1, 6, 0, 0), (1, 11, 0, 0), (1, 12, 0, 0)], [(0, 0, false, 0, 0), (0, 2555, false, 1, 0), (0, 0, false, 2, 0), (-2147483648, 2147483647, false, 3, 0), ((t : Int), (t : Int), false, 4, 0), (1, 1, true, 5, 0), (1, 99, false, 6, 0), (-2147483648, 2147483647, false, 7, 0), ((t : Int) + 1, 4, false, 8, 0), (0, 3, false, 9, 0), (1, 99, false, 10, 0), (0, 99, false, 11, 0), (0, 99, false, 12, 0)], [(5, 6, 11, 6, 0), (5, 6, 11, 6, 0)]),
  (1298, lw_lo, [], [(1, 9, 0, 0), (1, 10, 0, 0), (1, 11, 0, 0), (1, 12, 0, 0), (1, 9, 0, 0), (1, 10, 0, 0), (1, 11, 0, 0), (1, 12, 0, 0)], [(0, 0, false, 0, 0), (0, 2555, false, 1, 0), (0, 0, false, 2, 0), (-2147483648, 2147483647, false, 3, 0), ((t : Int), (t : Int), false, 4, 0), (1, 1, true, 5, 0), (1, 98, false, 6, 0), (-2147483648, 2147483647, false, 7, 0), ((t : Int) + 1, 4, false, 8, 0), (0, 3, false, 9, 0), (1, 99, false, 10, 0), (2, 99, false, 11, 0), (0, 99, false, 12, 0)], [(4, 6, 11, 6, 0), (4, 6, 11, 6, 0)]),
  (1298, lw_lo, [], [(1, 9, 0, 0), (1, 10, 0, 0), (1, 11, 0, 0), (1, 12, 0, 0), (1, 9, 0, 0), (1, 10, 0, 0), (1, 11, 0, 0), (1, 12, 0, 0)], [(0, 0, false, 0, 0), (0, 2555, false, 1, 0), (0, 0, false, 2, 0), (-2147483648, 2147483647, false, 3, 0), ((t : Int), (t : Int), false, 4, 0), (2, 2, true, 5, 0), (-2147483648, 2147483647, false, 6, 0), (-2147483648, 2147483647, false, 7, 0), ((t : Int) + 1, 4, false, 8, 0), (0, 3, false, 9, 0), (1, 99, false, 10, 0), (0, 99, false, 11, 0), (0, 99, false, 12, 0)], []),
  (1298, lw_lo, [], [(1, 9, 0, 0), (1, 10, 0, 0), (1, 11, 0, 0), (1, 12, 0, 0), (1, 9, 0, 0), (1, 10, 0, 0), (1, 11, 0, 0), (1, 12, 0, 0)], [(0, 0, false, 0, 0), (0, 2555, false, 1, 0), (0, 0, false, 2, 0), (-2147483648, 2147483647, false, 3, 0), ((t : Int), (t : Int), false, 4, 0), (3, 3, true, 5, 0), (-2147483648, -1, false, 6, 0), (-2147483648, 2147483647, false, 7, 0), ((t : Int) + 1, 4, false, 8, 0), (0, 3, false, 9, 0), (1, 99, false, 10, 0), (0, 99, false, 11, 0), (0, 99, false, 12, 0)], []),
  (1298, lw_lo, [], [(1, 9, 0, 0), (1, 10, 0, 0), (1, 11, 0, 0), (1, 12, 0, 0), (1, 9, 0, 0), (1, 10, 0, 0), (1, 11, 0, 0), (1, 12, 0, 0)], [(0, 0, false, 0, 0), (0, 2555, false, 1, 0), (0, 0, false, 2, 0), (-2147483648, 2147483647, false, 3, 0), ((t : Int), (t : Int), false, 4, 0), (3, 3, true, 5, 0), (100, 2147483647, false, 6, 0), (-2147483648, 2147483647, false, 7, 0), ((t : Int) + 1, 4, false, 8, 0), (0, 3, false, 9, 0), (1, 99, false, 10, 0), (0, 99, false, 11, 0), (0, 99, false, 12, 0)], []),
  (1298, lw_lo, [], [(1, 9, 0, 0), (1, 10, 0, 0), (1, 11, 0, 0), (1, 6, 0, 0), (1, 9, 0, 0), (1, 10, 0, 0), (1, 11, 0, 0), (1, 6, 0, 0)], [(0, 0, false, 0, 0), (0, 2555, false, 1, 0), (0, 0, false, 2, 0), (-2147483648, 2147483647, false, 3, 0), ((t : Int), (t : Int), false, 4, 0), (3, 3, true, 5, 0), (0, 99, false, 6, 0), (-2147483648, 2147483647, false, 7, 0), ((t : Int) + 1, 4, false, 8, 0), (0, 3, false, 9, 0), (1, 99, false, 10, 0), (0, 99, false, 11, 0), (0, 99, false, 12, 0)], [])]
noncomputable def fl_r (t : Nat) : Bool := (ai_ex (hk (al_W t)) 300 169 tb_m169 11 [1298] (413, lw_lo, [], al_en t, al_kn t, [])).any fun xs => xs.all fun x => (fl_S t).any fun s => sm_is (al_pl t) x s
noncomputable def al_r (t : Nat) : Bool := (ai_ex (hk (al_W t)) 600 169 tb_m169 11 [1298] (347, lw_lo, [], al_en t, al_kn t, [])).any fun xs => xs.all fun x => (al_S t).any fun s => sm_is (al_pl t) x s
theorem fl_ra : ((List.range 4).all fl_r) = true := by decide +kernel
theorem al_r0 : al_r 0 = true := by decide +kernel
theorem al_r1 : al_r 1 = true := by decide +kernel
theorem al_r2 : al_r 2 = true := by decide +kernel
theorem al_r3 : al_r 3 = true := by decide +kernel
theorem al_run (t : Nat) (ht : t < 4) : al_r t = true := match t, ht with
  | 0, _ => al_r0
  | 1, _ => al_r1
  | 2, _ => al_r2
  | 3, _ => al_r3
  | t + 4, h => absurd h (by omega)
def ou_en : List ai_e := lw_eb 0 2147483647 ++ [(0, 4, false, 8, 0)]
theorem fl_o1 : ((ai_ex (hk []) 300 169 tb_m169 11 [1298] (413, lw_lo, [], lw_eb (-2147483648) (-1), [], [])).any fun xs => xs.all lw_un) = true := by decide +kernel
theorem fl_o2 : ((ai_ex (hk []) 300 169 tb_m169 11 [1298] (413, lw_lo, [], ou_en, [(1, 0, (1, 8, 0, 0)), (49, 1, (1, 8, 0, 0))], [(5, 4, 8, 4, 0)])).any fun xs => xs.all lw_un) = true := by decide +kernel
theorem al_o1 : ((ai_ex (hk []) 600 169 tb_m169 11 [1298] (347, lw_lo, [], lw_eb (-2147483648) (-1), [], [])).any fun xs => xs.all lw_un) = true := by decide +kernel
theorem al_o2 : ((ai_ex (hk []) 600 169 tb_m169 11 [1298] (347, lw_lo, [], ou_en, [(1, 0, (1, 8, 0, 0)), (49, 1, (1, 8, 0, 0))], [(5, 4, 8, 4, 0)])).any fun xs => xs.all lw_un) = true := by decide +kernel
theorem lw_fill {i q0 q49 : Nat} {ws : va_W} (C : ai_cx tb_m169 11 p R s m args c D tys A b L sx cells slots) (e0 : ad[0]? = some q0) (e49 : ad[49]? = some q49) (hi : i + 5 ≤ L) (hL : L ≤ 2560) (hw : ai_wd tb_TY ad tys ws) (hI : Inv ws)
    (k : ∀ wc, ai_wd tb_TY ad tys wc → Inv wc → hG tb_m169 p l e R s m args below meth c D A cells slots Q 1298 [(0, .ref b), (1, .ref q0), (2, .ref q49), (3, .int (nI i))] [] wc) : hG tb_m169 p l e R s m args below meth c D A cells slots Q 413 [(0, .ref b), (1, .ref q0), (2, .ref q49), (3, .int (nI i))] [] ws := by
  have b0 := ai_irg (sx i)
  have b1 := ai_irg (sx (i + 1))
  have b2 := ai_irg (sx (i + 2))
  have b3 := ai_irg (sx (i + 3))
  have b4 := ai_irg (sx (i + 4))
  have hI' := hI
  obtain ⟨t, g, u, q, y, n, j0, j1, E, a, P, hb, hp, hi0, hi1, hs⟩ := hI'
  obtain ⟨hn1, hn2, hn4⟩ := hb.2.2.2.2.1
  obtain ⟨hc, he, hg⟩ := hp.1
  by_cases h1 : (sx (i + 1)).toInt < 0
  · exact lw_no (rr := []) C e0 e49 hi hL hw hI fl_o1 (en_mk (by simp only [lw_r, lw_eb, List.append_nil, en_b, and_true]; omega) rfl) sb0 k0 k
  by_cases h2 : (n : Int) ≤ (sx (i + 1)).toInt
  · exact lw_no (rr := [(n : Int)]) C e0 e49 hi hL hw hI fl_o2 (en_mk (by simp only [lw_r, ou_en, lw_eb, List.cons_append, List.nil_append, en_b, and_true]; omega) rfl) (f5 (za := (sx (i + 1)).toInt) (zb := (n : Int)) rfl rfl (by omega)) (kc (hn1.kn (n := 8) (t := (n : Int)) rfl (by omega)) (kc (hn2.kn (n := 8) (t := (n : Int)) rfl (by omega)) k0)) k
  obtain ⟨tt, htt⟩ : ∃ tt : Nat, (sx (i + 1)).toInt = (tt : Int) := ⟨(sx (i + 1)).toInt.toNat, by omega⟩
  have ht : tt < n := by omega
  obtain ⟨v1, v2, v3, v4⟩ := hc.1 tt ht
  obtain ⟨w1, w2, w3, w4⟩ := he.1 tt ht
  obtain ⟨g1, g2, g3, g4⟩ := hg.1 tt ht
  refine lw_sum (rr := [(n : Int), E tt, E (4 + tt), E (8 + tt), E (12 + tt)]) C e0 e49 hi hL hw (List.all_eq_true.mp fl_ra tt (List.mem_range.mpr (by omega))) rfl (en_mk (by simp only [lw_r, al_en, lw_eb, List.cons_append, List.nil_append, en_b, and_true]; omega) rfl) sb0 (kc (hn1.kn (n := 8) (t := (n : Int)) rfl (by omega)) (kc (hn2.kn (n := 8) (t := (n : Int)) rfl (by omega)) (kc (v1.kn (n := 9) (t := E tt) rfl (by omega)) (kc (v2.kn (n := 10) (t := E (4 + tt)) rfl (by omega)) (kc (v3.kn (n := 11) (t := E (8 + tt)) rfl (by omega)) (kc (v4.kn (n := 12) (t := E (12 + tt)) rfl (by omega)) (kc (w1.kn (n := 9) (t := E tt) rfl (by omega)) (kc (w2.kn (n := 10) (t := E (4 + tt)) rfl (by omega)) (kc (w3.kn (n := 11) (t := E (8 + tt)) rfl (by omega)) (kc (w4.kn (n := 12) (t := E (12 + tt)) rfl (by omega)) k0)))))))))) (fun t' ht' r' ws' hx' hbb hl hw' hv hf => ?_)
  have h0 := nm_x hx' (k := 0) rfl
  have h4 := nm_x hx' (k := 4) rfl
  have h6 := nm_x hx' (k := 6) rfl
  have h9 := nm_x hx' (k := 9) rfl
  have h10 := nm_x hx' (k := 10) rfl
  have h11 := nm_x hx' (k := 11) rfl
  have h12 := nm_x hx' (k := 12) rfl
  unfold fl_S at ht'
  rcases List.mem_cons.mp ht' with rfl | ht'
  · simp (config := { decide := true }) only [bnd_b, lin_b, lin_q, Nat.reduceAdd, Nat.zero_add, Nat.reduceEqDiff, reduceIte, and_true, Int.add_zero] at hbb hl
    obtain ⟨x1, x2, x3, x4, x5, x6, x7, x8, -⟩ := hv
    exact k ws' hw' (Inv.test hb hp hi0 hi1 hs hw' ht hf x1 x2 x3 x4 x5 x6 x7 x8 (by dsimp only; omega) (by dsimp only; omega) (by dsimp only; omega) (by dsimp only; omega))
  · cases ht'
theorem lw_alter {i q0 q49 : Nat} {ws : va_W} (C : ai_cx tb_m169 11 p R s m args c D tys A b L sx cells slots) (e0 : ad[0]? = some q0) (e49 : ad[49]? = some q49) (hi : i + 5 ≤ L) (hL : L ≤ 2560) (hw : ai_wd tb_TY ad tys ws) (hI : Inv ws)
    (k : ∀ wc, ai_wd tb_TY ad tys wc → Inv wc → hG tb_m169 p l e R s m args below meth c D A cells slots Q 1298 [(0, .ref b), (1, .ref q0), (2, .ref q49), (3, .int (nI i))] [] wc) : hG tb_m169 p l e R s m args below meth c D A cells slots Q 347 [(0, .ref b), (1, .ref q0), (2, .ref q49), (3, .int (nI i))] [] ws := by
  have b0 := ai_irg (sx i)
  have b1 := ai_irg (sx (i + 1))
  have b2 := ai_irg (sx (i + 2))
  have b3 := ai_irg (sx (i + 3))
  have b4 := ai_irg (sx (i + 4))
  have hI' := hI
  obtain ⟨t, g, u, q, y, n, j0, j1, E, a, P, hb, hp, hi0, hi1, hs⟩ := hI'
  obtain ⟨hn1, hn2, hn4⟩ := hb.2.2.2.2.1
  obtain ⟨hc, he, hg⟩ := hp.1
  by_cases h1 : (sx (i + 1)).toInt < 0
  · exact lw_no (rr := []) C e0 e49 hi hL hw hI al_o1 (en_mk (by simp only [lw_r, lw_eb, List.append_nil, en_b, and_true]; omega) rfl) sb0 k0 k
  by_cases h2 : (n : Int) ≤ (sx (i + 1)).toInt
  · exact lw_no (rr := [(n : Int)]) C e0 e49 hi hL hw hI al_o2 (en_mk (by simp only [lw_r, ou_en, lw_eb, List.cons_append, List.nil_append, en_b, and_true]; omega) rfl) (f5 (za := (sx (i + 1)).toInt) (zb := (n : Int)) rfl rfl (by omega)) (kc (hn1.kn (n := 8) (t := (n : Int)) rfl (by omega)) (kc (hn2.kn (n := 8) (t := (n : Int)) rfl (by omega)) k0)) k
  obtain ⟨tt, htt⟩ : ∃ tt : Nat, (sx (i + 1)).toInt = (tt : Int) := ⟨(sx (i + 1)).toInt.toNat, by omega⟩
  have ht : tt < n := by omega
  obtain ⟨v1, v2, v3, v4⟩ := hc.1 tt ht
  obtain ⟨w1, w2, w3, w4⟩ := he.1 tt ht
  obtain ⟨g1, g2, g3, g4⟩ := hg.1 tt ht
  refine lw_sum (rr := [(n : Int), E tt, E (4 + tt), E (8 + tt), E (12 + tt)]) C e0 e49 hi hL hw (al_run tt (by omega)) rfl (en_mk (by simp only [lw_r, al_en, lw_eb, List.cons_append, List.nil_append, en_b, and_true]; omega) rfl) sb0 (kc (hn1.kn (n := 8) (t := (n : Int)) rfl (by omega)) (kc (hn2.kn (n := 8) (t := (n : Int)) rfl (by omega)) (kc (v1.kn (n := 9) (t := E tt) rfl (by omega)) (kc (v2.kn (n := 10) (t := E (4 + tt)) rfl (by omega)) (kc (v3.kn (n := 11) (t := E (8 + tt)) rfl (by omega)) (kc (v4.kn (n := 12) (t := E (12 + tt)) rfl (by omega)) (kc (w1.kn (n := 9) (t := E tt) rfl (by omega)) (kc (w2.kn (n := 10) (t := E (4 + tt)) rfl (by omega)) (kc (w3.kn (n := 11) (t := E (8 + tt)) rfl (by omega)) (kc (w4.kn (n := 12) (t := E (12 + tt)) rfl (by omega)) k0)))))))))) (fun t' ht' r' ws' hx' hbb hl hw' hv hf => ?_)
  have h0 := nm_x hx' (k := 0) rfl
  have h4 := nm_x hx' (k := 4) rfl
  have h6 := nm_x hx' (k := 6) rfl
  have h9 := nm_x hx' (k := 9) rfl
  have h10 := nm_x hx' (k := 10) rfl
  have h11 := nm_x hx' (k := 11) rfl
  have h12 := nm_x hx' (k := 12) rfl
  unfold al_S at ht'
  rcases List.mem_cons.mp ht' with rfl | ht'
  · simp (config := { decide := true }) only [bnd_b, lin_b, lin_q, Nat.reduceAdd, Nat.zero_add, Nat.reduceEqDiff, reduceIte, and_true, Int.add_zero] at hbb hl
    obtain ⟨x1, x2, x3, x4, x5, x6, x7, x8, -⟩ := hv
    exact k ws' hw' (Inv.test hb hp hi0 hi1 hs hw' ht hf x1 x2 x3 x4 x5 x6 x7 x8 (by dsimp only; omega) (by dsimp only; omega) (by dsimp only; omega) (by dsimp only; omega))
  rcases List.mem_cons.mp ht' with rfl | ht'
  · simp (config := { decide := true }) only [bnd_b, lin_b, lin_q, Nat.reduceAdd, Nat.zero_add, Nat.reduceEqDiff, reduceIte, and_true, Int.add_zero] at hbb hl
    obtain ⟨x1, x2, x3, x4, x5, x6, x7, x8, -⟩ := hv
    exact k ws' hw' (Inv.test hb hp hi0 hi1 hs hw' ht hf x1 x2 x3 x4 x5 x6 x7 x8 (by dsimp only; omega) (by dsimp only; omega) (by dsimp only; omega) (by dsimp only; omega))
  rcases List.mem_cons.mp ht' with rfl | ht'
  · simp (config := { decide := true }) only [bnd_b, lin_b, lin_q, Nat.reduceAdd, Nat.zero_add, Nat.reduceEqDiff, reduceIte, and_true, Int.add_zero] at hbb hl
    obtain ⟨x1, x2, x3, x4, x5, x6, x7, x8, -⟩ := hv
    exact k ws' hw' (Inv.test hb hp hi0 hi1 hs hw' ht hf x1 x2 x3 x4 x5 x6 x7 x8 (by dsimp only; omega) (by dsimp only; omega) (by dsimp only; omega) (by dsimp only; omega))
  rcases List.mem_cons.mp ht' with rfl | ht'
  · simp (config := { decide := true }) only [bnd_b, lin_b, lin_q, Nat.reduceAdd, Nat.zero_add, Nat.reduceEqDiff, reduceIte, and_true, Int.add_zero] at hbb hl
    obtain ⟨x1, x2, x3, x4, x5, x6, x7, x8, -⟩ := hv
    exact k ws' hw' (Inv.test hb hp hi0 hi1 hs hw' ht hf x1 x2 x3 x4 x5 x6 x7 x8 (by dsimp only; omega) (by dsimp only; omega) (by dsimp only; omega) (by dsimp only; omega))
  rcases List.mem_cons.mp ht' with rfl | ht'
  · simp (config := { decide := true }) only [bnd_b, lin_b, lin_q, Nat.reduceAdd, Nat.zero_add, Nat.reduceEqDiff, reduceIte, and_true, Int.add_zero] at hbb hl
    obtain ⟨x1, x2, x3, x4, x5, x6, x7, x8, -⟩ := hv
    exact k ws' hw' (Inv.test hb hp hi0 hi1 hs hw' ht hf x1 x2 x3 x4 x5 x6 x7 x8 (by dsimp only; omega) (by dsimp only; omega) (by dsimp only; omega) (by dsimp only; omega))
  rcases List.mem_cons.mp ht' with rfl | ht'
  · simp (config := { decide := true }) only [bnd_b, lin_b, lin_q, Nat.reduceAdd, Nat.zero_add, Nat.reduceEqDiff, reduceIte, and_true, Int.add_zero] at hbb hl
    obtain ⟨x1, x2, x3, x4, x5, x6, x7, x8, -⟩ := hv
    exact k ws' hw' (Inv.test hb hp hi0 hi1 hs hw' ht hf x1 x2 x3 x4 x5 x6 x7 x8 (by dsimp only; omega) (by dsimp only; omega) (by dsimp only; omega) (by dsimp only; omega))
  rcases List.mem_cons.mp ht' with rfl | ht'
  · simp (config := { decide := true }) only [bnd_b, lin_b, lin_q, Nat.reduceAdd, Nat.zero_add, Nat.reduceEqDiff, reduceIte, and_true, Int.add_zero] at hbb hl
    obtain ⟨x1, x2, x3, x4, x5, x6, x7, x8, -⟩ := hv
    exact k ws' hw' (Inv.test hb hp hi0 hi1 hs hw' ht hf x1 x2 x3 x4 x5 x6 x7 x8 (by dsimp only; omega) (by dsimp only; omega) (by dsimp only; omega) (by dsimp only; omega))
  rcases List.mem_cons.mp ht' with rfl | ht'
  · simp (config := { decide := true }) only [bnd_b, lin_b, lin_q, Nat.reduceAdd, Nat.zero_add, Nat.reduceEqDiff, reduceIte, and_true, Int.add_zero] at hbb hl
    obtain ⟨x1, x2, x3, x4, x5, x6, x7, x8, -⟩ := hv
    exact k ws' hw' (Inv.test hb hp hi0 hi1 hs hw' ht hf x1 x2 x3 x4 x5 x6 x7 x8 (by dsimp only; omega) (by dsimp only; omega) (by dsimp only; omega) (by dsimp only; omega))
  rcases List.mem_cons.mp ht' with rfl | ht'
  · simp (config := { decide := true }) only [bnd_b, lin_b, lin_q, Nat.reduceAdd, Nat.zero_add, Nat.reduceEqDiff, reduceIte, and_true, Int.add_zero] at hbb hl
    obtain ⟨x1, x2, x3, x4, x5, x6, x7, x8, -⟩ := hv
    exact k ws' hw' (Inv.test hb hp hi0 hi1 hs hw' ht hf x1 x2 x3 x4 x5 x6 x7 x8 (by dsimp only; omega) (by dsimp only; omega) (by dsimp only; omega) (by dsimp only; omega))
  rcases List.mem_cons.mp ht' with rfl | ht'
  · simp (config := { decide := true }) only [bnd_b, lin_b, lin_q, Nat.reduceAdd, Nat.zero_add, Nat.reduceEqDiff, reduceIte, and_true, Int.add_zero] at hbb hl
    obtain ⟨x1, x2, x3, x4, x5, x6, x7, x8, -⟩ := hv
    exact k ws' hw' (Inv.test hb hp hi0 hi1 hs hw' ht hf x1 x2 x3 x4 x5 x6 x7 x8 (by dsimp only; omega) (by dsimp only; omega) (by dsimp only; omega) (by dsimp only; omega))
  rcases List.mem_cons.mp ht' with rfl | ht'
  · simp (config := { decide := true }) only [bnd_b, lin_b, lin_q, Nat.reduceAdd, Nat.zero_add, Nat.reduceEqDiff, reduceIte, and_true, Int.add_zero] at hbb hl
    obtain ⟨x1, x2, x3, x4, x5, x6, x7, x8, -⟩ := hv
    exact k ws' hw' (Inv.test hb hp hi0 hi1 hs hw' ht hf x1 x2 x3 x4 x5 x6 x7 x8 (by dsimp only; omega) (by dsimp only; omega) (by dsimp only; omega) (by dsimp only; omega))
  rcases List.mem_cons.mp ht' with rfl | ht'
  · simp (config := { decide := true }) only [bnd_b, lin_b, lin_q, Nat.reduceAdd, Nat.zero_add, Nat.reduceEqDiff, reduceIte, and_true, Int.add_zero] at hbb hl
    obtain ⟨x1, x2, x3, x4, x5, x6, x7, x8, -⟩ := hv
    exact k ws' hw' (Inv.test hb hp hi0 hi1 hs hw' ht hf x1 x2 x3 x4 x5 x6 x7 x8 (by dsimp only; omega) (by dsimp only; omega) (by dsimp only; omega) (by dsimp only; omega))
  rcases List.mem_cons.mp ht' with rfl | ht'
  · simp (config := { decide := true }) only [bnd_b, lin_b, lin_q, Nat.reduceAdd, Nat.zero_add, Nat.reduceEqDiff, reduceIte, and_true, Int.add_zero] at hbb hl
    obtain ⟨x1, x2, x3, x4, x5, x6, x7, x8, -⟩ := hv
    exact k ws' hw' (Inv.test hb hp hi0 hi1 hs hw' ht hf x1 x2 x3 x4 x5 x6 x7 x8 (by dsimp only; omega) (by dsimp only; omega) (by dsimp only; omega) (by dsimp only; omega))
  · cases ht'
end LWU
