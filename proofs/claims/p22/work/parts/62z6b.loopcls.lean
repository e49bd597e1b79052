theorem f140 {w0 : va_W} {r : List Int} {a a' : Nat} {o za zb : Int} (ha : r[a]? = some za) (hb : r[a']? = some zb) (h : za ≠ zb + o) : ai_sb w0 r [(140, a, a', a, o)] := fun q hq => by
  rw [List.mem_singleton.mp hq]
  exact ⟨za, zb, za, ha, hb, ha, fun h => absurd (show (140 : Nat) = 0 from h) (by decide), fun h => absurd (show (140 : Nat) = 1 from h) (by decide), fun h => absurd (show (140 : Nat) = 2 from h) (by decide), fun h => absurd (show (140 : Nat) = 4 from h) (by decide), fun h => absurd (show (140 : Nat) = 5 from h) (by decide), fun _ => ⟨fun h => absurd (show (1000 : Nat) ≤ 140 from h) (by decide), fun _ => ⟨za, za, ha, ha, fun h => absurd (show (140 : Nat) < 132 from h) (by decide), fun h => absurd (show (200 : Nat) ≤ 140 from h) (by decide), fun h => absurd (show (500 : Nat) ≤ 140 from h) (by decide), fun _ => ⟨zb, hb, h⟩, fun h => absurd (show (140 : Nat) = 141 from h) (by decide), fun h => absurd (show (140 : Nat) = 142 from h) (by decide), fun h => absurd (show (150 : Nat) ≤ 140 from h) (by decide)⟩, fun _ _ => ⟨fun h => absurd (show (300 : Nat) ≤ 140 from h) (by decide), fun h => absurd (show (310 : Nat) ≤ 140 from h) (by decide), fun h => absurd (show (320 : Nat) ≤ 140 from h) (by decide), fun h => absurd (show (400 : Nat) ≤ 140 from h) (by decide), fun h => absurd (show (140 : Nat) = 330 from h) (by decide)⟩, fun h => absurd (show (140 : Nat) = 350 from h) (by decide)⟩⟩
theorem pa_sub {t : Nat} (ht : t < 4) {u v : va_W} (hf : ai_fr (pa_W t) u v) : ai_fr cd_W u v := fr_sub (fun c i h q hq => by
  have h1 := h (7, 1, 3) (by unfold cd_W; simp)
  have h2 := h (10, 0, 4) (by unfold cd_W; simp)
  have h3 := h (11, 0, 4) (by unfold cd_W; simp)
  dsimp only at h1 h2 h3
  unfold pa_W at hq
  simp only [List.mem_cons, List.not_mem_nil, or_false] at hq
  rcases hq with rfl | rfl | rfl <;> dsimp only <;> omega) hf
section RDL
variable {ad : List Nat} {p : Program} {l : Launch} {e : Env} {R : Room} {s : State} {m : MethodId} {args : Array Value} {below : List Frame} {meth : Method} {c : Code} {D : va_G} {tys : ai_ty} {A : Nat → Prop} {b L : Nat} {sx : Nat → Int32} {cells slots : Nat} {Q : State → Prop}
set_option maxHeartbeats 2000000 in
theorem cd_loop {a a7 k n len N : Nat} {ln la f : Int} {X : Nat → Int} {zk zl zf zm : Int32} {ws0 : va_W} {res : Nat ⊕ ((Nat → Int) × Nat × Int)} (C : ai_cx tb_m91 10 p R s m args c D tys A b L sx cells slots) (ha : ad[0]? = some a) (ha7 : ad[7]? = some a7) (hk : k < 4) (hn4 : n ≤ 4) (hN : N ≤ 20) (hla : 0 ≤ la ∧ la ≤ 2) (hln : ln = -1 ∨ (0 ≤ ln ∧ ln ≤ 2)) (hlen : len ≤ 40) (ek : zk.toInt = k) (el : zl.toInt = la) (ef : zf.toInt = f) (em : zm.toInt = N)
    (k1 : ∀ (ws' : va_W) (z' : Int32) (lv' : List (Nat × Value)) (i' : Nat), res = .inl i' → ai_wd tb_TY ad tys ws' → ai_fr cd_W ws0 ws' → z'.toInt = -20 - i' → hG tb_m91 p l e R s m args below meth c D A cells slots Q 114 lv' [.int z'] ws')
    (k2 : ∀ (ws' : va_W) (E' : Nat → Int) (i' : Nat) (y : Int) (z5 z6 : Int32), res = .inr (E', i', y) → ai_wd tb_TY ad tys ws' → ai_fr cd_W ws0 ws' → cev ws' 7 n E' → good n E' → i' ≤ 20 → (0 ≤ y ∧ y ≤ 3) → z5.toInt = y → z6.toInt = i' → hG tb_m91 p l e R s m args below meth c D A cells slots Q 134 [(0, .ref a), (5, .int z5), (6, .int z6)] [] ws') :
    ∀ (q i : Nat) (E : Nat → Int) (z5 z6 z7 : Int32) (ws : va_W), i + q = N → z5.toInt = 0 → z6.toInt = i → z7.toInt = i → rd n ln la f len X q i E = res → ai_wd tb_TY ad tys ws → ai_fr cd_W ws0 ws → vi ws 7 0 n → vi ws 42 k ln → vi ws 43 k len → (∀ j, j < len → vi ws (45 + k) j (X j)) → cev ws 7 n E → good n E →
      hG tb_m91 p l e R s m args below meth c D A cells slots Q 49 [(0, .ref a), (1, .int zk), (2, .int zl), (3, .int zf), (4, .int zm), (5, .int z5), (6, .int z6), (7, .int z7)] [] ws := by
  intro q
  induction q with
  | zero =>
    intro i E z5 z6 z7 ws hiq e5 e6 e7 hres hw hfr hn hv42 hv43 hX hc hg
    have bf := ai_irg zf
    have stop : ∀ {r' : List Int} {lv' : List (Nat × Value)} {sk' : List Value} {ws' : va_W}, nm r' 0 = 0 → nm r' 5 = i → ai_lo ad b r' [(0, (0, 0, 0, 0)), (5, (1, 0, 0, 0)), (6, (1, 5, 0, 0))] lv' → ai_sk ad b r' [] sk' → ai_wd tb_TY ad tys ws' → ai_fr [] ws ws' → hG tb_m91 p l e R s m args below meth c D A cells slots Q 134 lv' sk' ws' := fun {r' lv' sk' ws'} h0 h5 hlo hsk hw' hf => by
      obtain ⟨lv1, rfl, pz1⟩ := lo_ref ha hlo
      obtain ⟨y5, lv2, rfl, g5, pz2⟩ := lo_int rfl pz1
      obtain ⟨y6, lv3, rfl, g6, pz3⟩ := lo_int rfl pz2
      cases lo_nil pz3
      cases hsk.nil
      unfold vn at g5 g6
      dsimp only at g5 g6
      exact k2 ws' E i 0 y5 y6 hres.symm hw' (hfr.tr (wsub_ok (V := []) rfl hf)) (hc.fr hf rfl) hg (by omega) (by omega) (by omega) (by omega)
    by_cases c0 : ln = -1
    · refine hsum (st := cd_h0 k) (List.all_eq_true.mp cd_r0 k (List.mem_range.mpr hk)) rfl C (r := [0, 0, la, f, (N : Int), (i : Int), (len : Int), 0]) ⟨en_mk (by simp only [cd_h0, cd_en, en_b, and_true]; omega) rfl, sb0, ⟨rfl, Or.inl ⟨rfl, a, ha, rfl⟩, rfl, int_dv (z := 0) rfl (by omega), rfl, int_dv (z := la) rfl (by omega), rfl, int_dv (z := f) rfl (by omega), rfl, int_dv (z := (N : Int)) rfl (by omega), rfl, int_dv (z := 0) rfl (by omega), rfl, int_dv (z := (i : Int)) rfl (by omega), rfl, int_dv (z := (i : Int)) rfl (by omega), trivial⟩, trivial, hw, kc (hv42.kn (n := 0) (t := 0) rfl (by omega)) (kc (hv43.kn (n := 6) (t := (len : Int)) rfl (by omega)) k0), fun _ _ _ _ h => h, fun h => by cases h⟩ (fun x hx r' lv' sk' ws' hx' hb hl hs hlo hsk hw' hv hf _ => ?_)
      have h0 := nm_x hx' (k := 0) rfl
      have h2 := nm_x hx' (k := 2) rfl
      have h3 := nm_x hx' (k := 3) rfl
      have h4 := nm_x hx' (k := 4) rfl
      have h5 := nm_x hx' (k := 5) rfl
      have h6 := nm_x hx' (k := 6) rfl
      unfold cd_S0 at hx
      rcases List.mem_cons.mp hx with rfl | hx
      · simp (config := { decide := true }) only [bnd_b, lin_b, lin_q, Nat.reduceAdd, Nat.zero_add, Nat.reduceEqDiff, reduceIte, and_true, Int.add_zero] at hb hl
        exact stop h0 h5 hlo hsk hw' hf
      rcases List.mem_cons.mp hx with rfl | hx
      · simp (config := { decide := true }) only [bnd_b, lin_b, lin_q, Nat.reduceAdd, Nat.zero_add, Nat.reduceEqDiff, reduceIte, and_true, Int.add_zero] at hb hl
        exfalso
        omega
      rcases List.mem_cons.mp hx with rfl | hx
      · simp (config := { decide := true }) only [bnd_b, lin_b, lin_q, Nat.reduceAdd, Nat.zero_add, Nat.reduceEqDiff, reduceIte, and_true, Int.add_zero] at hb hl
        exfalso
        omega
      · cases hx
    by_cases c1 : ln = la
    · refine hsum (st := cd_h2 k) (List.all_eq_true.mp cd_r2 k (List.mem_range.mpr hk)) rfl C (r := [0, 0, la, f, (N : Int), (i : Int), (len : Int), 0]) ⟨en_mk (by simp only [cd_h2, cd_en, en_b, and_true]; omega) rfl, sb0, ⟨rfl, Or.inl ⟨rfl, a, ha, rfl⟩, rfl, int_dv (z := 0) rfl (by omega), rfl, int_dv (z := la) rfl (by omega), rfl, int_dv (z := f) rfl (by omega), rfl, int_dv (z := (N : Int)) rfl (by omega), rfl, int_dv (z := 0) rfl (by omega), rfl, int_dv (z := (i : Int)) rfl (by omega), rfl, int_dv (z := (i : Int)) rfl (by omega), trivial⟩, trivial, hw, kc (hv42.kn (n := 2) (t := la) rfl (by omega)) (kc (hv43.kn (n := 6) (t := (len : Int)) rfl (by omega)) k0), fun _ _ _ _ h => h, fun h => by cases h⟩ (fun x hx r' lv' sk' ws' hx' hb hl hs hlo hsk hw' hv hf _ => ?_)
      have h0 := nm_x hx' (k := 0) rfl
      have h2 := nm_x hx' (k := 2) rfl
      have h3 := nm_x hx' (k := 3) rfl
      have h4 := nm_x hx' (k := 4) rfl
      have h5 := nm_x hx' (k := 5) rfl
      have h6 := nm_x hx' (k := 6) rfl
      unfold cd_S2 at hx
      rcases List.mem_cons.mp hx with rfl | hx
      · simp (config := { decide := true }) only [bnd_b, lin_b, lin_q, Nat.reduceAdd, Nat.zero_add, Nat.reduceEqDiff, reduceIte, and_true, Int.add_zero] at hb hl
        exact stop h0 h5 hlo hsk hw' hf
      rcases List.mem_cons.mp hx with rfl | hx
      · simp (config := { decide := true }) only [bnd_b, lin_b, lin_q, Nat.reduceAdd, Nat.zero_add, Nat.reduceEqDiff, reduceIte, and_true, Int.add_zero] at hb hl
        exfalso
        omega
      rcases List.mem_cons.mp hx with rfl | hx
      · simp (config := { decide := true }) only [bnd_b, lin_b, lin_q, Nat.reduceAdd, Nat.zero_add, Nat.reduceEqDiff, reduceIte, and_true, Int.add_zero] at hb hl
        exfalso
        omega
      rcases List.mem_cons.mp hx with rfl | hx
      · simp (config := { decide := true }) only [bnd_b, lin_b, lin_q, Nat.reduceAdd, Nat.zero_add, Nat.reduceEqDiff, reduceIte, and_true, Int.add_zero] at hb hl
        exfalso
        omega
      rcases List.mem_cons.mp hx with rfl | hx
      · simp (config := { decide := true }) only [bnd_b, lin_b, lin_q, Nat.reduceAdd, Nat.zero_add, Nat.reduceEqDiff, reduceIte, and_true, Int.add_zero] at hb hl
        exfalso
        omega
      rcases List.mem_cons.mp hx with rfl | hx
      · simp (config := { decide := true }) only [bnd_b, lin_b, lin_q, Nat.reduceAdd, Nat.zero_add, Nat.reduceEqDiff, reduceIte, and_true, Int.add_zero] at hb hl
        exfalso
        omega
      · cases hx
    · refine hsum (st := cd_h1 k) (List.all_eq_true.mp cd_r1 k (List.mem_range.mpr hk)) rfl C (r := [0, 0, la, f, (N : Int), (i : Int), (len : Int), ln]) ⟨en_mk (by simp only [cd_h1, cd_en, en_b, and_true]; omega) rfl, f140 (za := ln) (zb := la) rfl rfl (by omega), ⟨rfl, Or.inl ⟨rfl, a, ha, rfl⟩, rfl, int_dv (z := 0) rfl (by omega), rfl, int_dv (z := la) rfl (by omega), rfl, int_dv (z := f) rfl (by omega), rfl, int_dv (z := (N : Int)) rfl (by omega), rfl, int_dv (z := 0) rfl (by omega), rfl, int_dv (z := (i : Int)) rfl (by omega), rfl, int_dv (z := (i : Int)) rfl (by omega), trivial⟩, trivial, hw, kc (hv42.kn (n := 7) (t := ln) rfl (by omega)) (kc (hv43.kn (n := 6) (t := (len : Int)) rfl (by omega)) k0), fun _ _ _ _ h => h, fun h => by cases h⟩ (fun x hx r' lv' sk' ws' hx' hb hl hs hlo hsk hw' hv hf _ => ?_)
      have h0 := nm_x hx' (k := 0) rfl
      have h2 := nm_x hx' (k := 2) rfl
      have h3 := nm_x hx' (k := 3) rfl
      have h4 := nm_x hx' (k := 4) rfl
      have h5 := nm_x hx' (k := 5) rfl
      have h6 := nm_x hx' (k := 6) rfl
      unfold cd_S1 at hx
      rcases List.mem_cons.mp hx with rfl | hx
      · simp (config := { decide := true }) only [bnd_b, lin_b, lin_q, Nat.reduceAdd, Nat.zero_add, Nat.reduceEqDiff, reduceIte, and_true, Int.add_zero] at hb hl
        exact stop h0 h5 hlo hsk hw' hf
      rcases List.mem_cons.mp hx with rfl | hx
      · simp (config := { decide := true }) only [bnd_b, lin_b, lin_q, Nat.reduceAdd, Nat.zero_add, Nat.reduceEqDiff, reduceIte, and_true, Int.add_zero] at hb hl
        exfalso
        omega
      rcases List.mem_cons.mp hx with rfl | hx
      · simp (config := { decide := true }) only [bnd_b, lin_b, lin_q, Nat.reduceAdd, Nat.zero_add, Nat.reduceEqDiff, reduceIte, and_true, Int.add_zero] at hb hl
        exfalso
        omega
      · cases hx
  | succ q ih =>
    intro i E z5 z6 z7 ws hiq e5 e6 e7 hres hw hfr hn hv42 hv43 hX hc hg
    have bf := ai_irg zf
    have stop : ∀ {r' : List Int} {lv' : List (Nat × Value)} {sk' : List Value} {ws' : va_W} {y : Int}, nm r' 0 = 0 → nm r' 5 = i → rd_by ln la len (f + i) = y → y ≠ 0 → (0 ≤ y ∧ y ≤ 3) → ai_lo ad b r' [(0, (0, 0, 0, 0)), (5, (1, 0, 0, y)), (6, (1, 5, 0, 0))] lv' → ai_sk ad b r' [] sk' → ai_wd tb_TY ad tys ws' → ai_fr [] ws ws' → hG tb_m91 p l e R s m args below meth c D A cells slots Q 134 lv' sk' ws' := fun {r' lv' sk' ws' y} h0 h5 hby hy0 hy3 hlo hsk hw' hf => by
      obtain ⟨lv1, rfl, pz1⟩ := lo_ref ha hlo
      obtain ⟨y5, lv2, rfl, g5, pz2⟩ := lo_int rfl pz1
      obtain ⟨y6, lv3, rfl, g6, pz3⟩ := lo_int rfl pz2
      cases lo_nil pz3
      cases hsk.nil
      unfold vn at g5 g6
      dsimp only at g5 g6
      exact k2 ws' E i y y5 y6 (by rw [← hres]; exact rd_end hby hy0) hw' (hfr.tr (wsub_ok (V := []) rfl hf)) (hc.fr hf rfl) hg (by omega) hy3 (by omega) (by omega)
    by_cases c0 : ln = -1
    · refine hsum (st := cd_h0 k) (List.all_eq_true.mp cd_r0 k (List.mem_range.mpr hk)) rfl C (r := [0, 0, la, f, (N : Int), (i : Int), (len : Int), 0]) ⟨en_mk (by simp only [cd_h0, cd_en, en_b, and_true]; omega) rfl, sb0, ⟨rfl, Or.inl ⟨rfl, a, ha, rfl⟩, rfl, int_dv (z := 0) rfl (by omega), rfl, int_dv (z := la) rfl (by omega), rfl, int_dv (z := f) rfl (by omega), rfl, int_dv (z := (N : Int)) rfl (by omega), rfl, int_dv (z := 0) rfl (by omega), rfl, int_dv (z := (i : Int)) rfl (by omega), rfl, int_dv (z := (i : Int)) rfl (by omega), trivial⟩, trivial, hw, kc (hv42.kn (n := 0) (t := 0) rfl (by omega)) (kc (hv43.kn (n := 6) (t := (len : Int)) rfl (by omega)) k0), fun _ _ _ _ h => h, fun h => by cases h⟩ (fun x hx r' lv' sk' ws' hx' hb hl hs hlo hsk hw' hv hf _ => ?_)
      have h0 := nm_x hx' (k := 0) rfl
      have h2 := nm_x hx' (k := 2) rfl
      have h3 := nm_x hx' (k := 3) rfl
      have h4 := nm_x hx' (k := 4) rfl
      have h5 := nm_x hx' (k := 5) rfl
      have h6 := nm_x hx' (k := 6) rfl
      unfold cd_S0 at hx
      rcases List.mem_cons.mp hx with rfl | hx
      · simp (config := { decide := true }) only [bnd_b, lin_b, lin_q, Nat.reduceAdd, Nat.zero_add, Nat.reduceEqDiff, reduceIte, and_true, Int.add_zero] at hb hl
        exfalso
        omega
      rcases List.mem_cons.mp hx with rfl | hx
      · simp (config := { decide := true }) only [bnd_b, lin_b, lin_q, Nat.reduceAdd, Nat.zero_add, Nat.reduceEqDiff, reduceIte, and_true, Int.add_zero] at hb hl
        exact stop (y := 1) h0 h5 (by unfold rd_by; rw [if_pos c0]) (by decide) (by decide) hlo hsk hw' hf
      rcases List.mem_cons.mp hx with rfl | hx
      · simp (config := { decide := true }) only [bnd_b, lin_b, lin_q, Nat.reduceAdd, Nat.zero_add, Nat.reduceEqDiff, reduceIte, and_true, Int.add_zero] at hb hl
        exact stop (y := 1) h0 h5 (by unfold rd_by; rw [if_pos c0]) (by decide) (by decide) hlo hsk hw' hf
      · cases hx
    by_cases c1 : ln = la
    · refine hsum (st := cd_h2 k) (List.all_eq_true.mp cd_r2 k (List.mem_range.mpr hk)) rfl C (r := [0, 0, la, f, (N : Int), (i : Int), (len : Int), 0]) ⟨en_mk (by simp only [cd_h2, cd_en, en_b, and_true]; omega) rfl, sb0, ⟨rfl, Or.inl ⟨rfl, a, ha, rfl⟩, rfl, int_dv (z := 0) rfl (by omega), rfl, int_dv (z := la) rfl (by omega), rfl, int_dv (z := f) rfl (by omega), rfl, int_dv (z := (N : Int)) rfl (by omega), rfl, int_dv (z := 0) rfl (by omega), rfl, int_dv (z := (i : Int)) rfl (by omega), rfl, int_dv (z := (i : Int)) rfl (by omega), trivial⟩, trivial, hw, kc (hv42.kn (n := 2) (t := la) rfl (by omega)) (kc (hv43.kn (n := 6) (t := (len : Int)) rfl (by omega)) k0), fun _ _ _ _ h => h, fun h => by cases h⟩ (fun x hx r' lv' sk' ws' hx' hb hl hs hlo hsk hw' hv hf _ => ?_)
      have h0 := nm_x hx' (k := 0) rfl
      have h2 := nm_x hx' (k := 2) rfl
      have h3 := nm_x hx' (k := 3) rfl
      have h4 := nm_x hx' (k := 4) rfl
      have h5 := nm_x hx' (k := 5) rfl
      have h6 := nm_x hx' (k := 6) rfl
      unfold cd_S2 at hx
      rcases List.mem_cons.mp hx with rfl | hx
      · simp (config := { decide := true }) only [bnd_b, lin_b, lin_q, Nat.reduceAdd, Nat.zero_add, Nat.reduceEqDiff, reduceIte, and_true, Int.add_zero] at hb hl
        exfalso
        omega
      rcases List.mem_cons.mp hx with rfl | hx
      · simp (config := { decide := true }) only [bnd_b, lin_b, lin_q, Nat.reduceAdd, Nat.zero_add, Nat.reduceEqDiff, reduceIte, and_true, Int.add_zero] at hb hl
        exact stop (y := 2) h0 h5 (by unfold rd_by; rw [if_neg c0, if_pos c1, if_neg (by omega)]) (by decide) (by decide) hlo hsk hw' hf
      rcases List.mem_cons.mp hx with rfl | hx
      · simp (config := { decide := true }) only [bnd_b, lin_b, lin_q, Nat.reduceAdd, Nat.zero_add, Nat.reduceEqDiff, reduceIte, and_true, Int.add_zero] at hb hl
        exact stop (y := 2) h0 h5 (by unfold rd_by; rw [if_neg c0, if_pos c1, if_neg (by omega)]) (by decide) (by decide) hlo hsk hw' hf
      rcases List.mem_cons.mp hx with rfl | hx
      · simp (config := { decide := true }) only [bnd_b, lin_b, lin_q, Nat.reduceAdd, Nat.zero_add, Nat.reduceEqDiff, reduceIte, and_true, Int.add_zero] at hb hl
        have hs8 : nm r' 8 = f + i := by omega
        have hX9 : nm r' 9 = X (f + i).toNat := fx_row (c := 45 + k) (a := 8) (o := 0) hs (by rw [show 1000 + (45 + k) = 1045 + k by omega]; exact List.mem_cons_self) (by rw [hs8, Int.add_zero]; exact fx_vi' hw (cd_T hk) (hX _ (by omega)))
        have hby : rd_by ln la len (f + i) = 0 := by unfold rd_by; rw [if_neg c0, if_pos c1, if_pos (by omega)]
        obtain ⟨lv1, rfl, pz1⟩ := lo_ref ha hlo
        obtain ⟨y1, lv2, rfl, d1, pz2⟩ := lo_int rfl pz1
        obtain ⟨y2, lv3, rfl, d2, pz3⟩ := lo_int rfl pz2
        obtain ⟨y3, lv4, rfl, d3, pz4⟩ := lo_int rfl pz3
        obtain ⟨y4, lv5, rfl, d4, pz5⟩ := lo_int rfl pz4
        obtain ⟨y5, lv6, rfl, d5, pz6⟩ := lo_int rfl pz5
        obtain ⟨y6, lv7, rfl, d6, pz7⟩ := lo_int rfl pz6
        obtain ⟨y7, lv8, rfl, d7, pz8⟩ := lo_int rfl pz7
        obtain ⟨y8, lv9, rfl, d8, pz9⟩ := lo_int rfl pz8
        cases lo_nil pz9
        cases hsk.nil
        unfold vn at d1 d2 d3 d4 d5 d6 d7 d8
        dsimp only at d1 d2 d3 d4 d5 d6 d7 d8
        have r1 : y1 = zk := Int32.toInt_inj.mp (by omega)
        have r2 : y2 = zl := Int32.toInt_inj.mp (by omega)
        have r3 : y3 = zf := Int32.toInt_inj.mp (by omega)
        have r4 : y4 = zm := Int32.toInt_inj.mp (by omega)
        subst r1 r2 r3 r4
        have hXx : X (f + i).toNat = y8.toInt := by rw [← hX9]; omega
        refine cd_pull (zt := y8) C ha ha7 hk hn4 hN (by omega) hla ek el ef em (by omega) (by omega) (by omega) hw' (hn.fr hf rfl) (hc.fr hf rfl) hg (fun ws2 z' lv2 hcan hw2 hf2 hz => k1 ws2 z' lv2 i (by rw [← hres]; exact rd_no hby hXx hcan) hw2 (hfr.tr (wsub_ok (V := []) rfl (hf.tr hf2))) hz) (fun ws2 u5 u6 u7 hcan hw2 hf2 hc2 g5 g6 g7 => ?_)
        have ht : y8.toInt.toNat < n := by
          have := hcan.1
          have := hcan.2.1
          omega
        exact ih (i + 1) (ev_pl E y8.toInt.toNat) u5 u6 u7 ws2 (by omega) g5 (by omega) (by omega) (by rw [← hres]; exact (rd_go hby hXx hcan).symm) hw2 ((hfr.tr (wsub_ok (V := []) rfl hf)).tr (pa_sub (by omega) hf2)) ((hn.fr hf rfl).fr hf2 rfl) ((hv42.fr hf rfl).fr hf2 rfl) ((hv43.fr hf rfl).fr hf2 rfl) (fun j hj => ((hX j hj).fr hf rfl).fr hf2 (wr_no fun q hq => by
          unfold pa_W at hq
          simp only [List.mem_cons, List.not_mem_nil, or_false] at hq
          rcases hq with rfl | rfl | rfl <;> dsimp only <;> omega)) hc2 (good_pl hn4 ht hg)
      rcases List.mem_cons.mp hx with rfl | hx
      · simp (config := { decide := true }) only [bnd_b, lin_b, lin_q, Nat.reduceAdd, Nat.zero_add, Nat.reduceEqDiff, reduceIte, and_true, Int.add_zero] at hb hl
        exact stop (y := 2) h0 h5 (by unfold rd_by; rw [if_neg c0, if_pos c1, if_neg (by omega)]) (by decide) (by decide) hlo hsk hw' hf
      rcases List.mem_cons.mp hx with rfl | hx
      · simp (config := { decide := true }) only [bnd_b, lin_b, lin_q, Nat.reduceAdd, Nat.zero_add, Nat.reduceEqDiff, reduceIte, and_true, Int.add_zero] at hb hl
        exact stop (y := 2) h0 h5 (by unfold rd_by; rw [if_neg c0, if_pos c1, if_neg (by omega)]) (by decide) (by decide) hlo hsk hw' hf
      · cases hx
    · refine hsum (st := cd_h1 k) (List.all_eq_true.mp cd_r1 k (List.mem_range.mpr hk)) rfl C (r := [0, 0, la, f, (N : Int), (i : Int), (len : Int), ln]) ⟨en_mk (by simp only [cd_h1, cd_en, en_b, and_true]; omega) rfl, f140 (za := ln) (zb := la) rfl rfl (by omega), ⟨rfl, Or.inl ⟨rfl, a, ha, rfl⟩, rfl, int_dv (z := 0) rfl (by omega), rfl, int_dv (z := la) rfl (by omega), rfl, int_dv (z := f) rfl (by omega), rfl, int_dv (z := (N : Int)) rfl (by omega), rfl, int_dv (z := 0) rfl (by omega), rfl, int_dv (z := (i : Int)) rfl (by omega), rfl, int_dv (z := (i : Int)) rfl (by omega), trivial⟩, trivial, hw, kc (hv42.kn (n := 7) (t := ln) rfl (by omega)) (kc (hv43.kn (n := 6) (t := (len : Int)) rfl (by omega)) k0), fun _ _ _ _ h => h, fun h => by cases h⟩ (fun x hx r' lv' sk' ws' hx' hb hl hs hlo hsk hw' hv hf _ => ?_)
      have h0 := nm_x hx' (k := 0) rfl
      have h2 := nm_x hx' (k := 2) rfl
      have h3 := nm_x hx' (k := 3) rfl
      have h4 := nm_x hx' (k := 4) rfl
      have h5 := nm_x hx' (k := 5) rfl
      have h6 := nm_x hx' (k := 6) rfl
      unfold cd_S1 at hx
      rcases List.mem_cons.mp hx with rfl | hx
      · simp (config := { decide := true }) only [bnd_b, lin_b, lin_q, Nat.reduceAdd, Nat.zero_add, Nat.reduceEqDiff, reduceIte, and_true, Int.add_zero] at hb hl
        exfalso
        omega
      rcases List.mem_cons.mp hx with rfl | hx
      · simp (config := { decide := true }) only [bnd_b, lin_b, lin_q, Nat.reduceAdd, Nat.zero_add, Nat.reduceEqDiff, reduceIte, and_true, Int.add_zero] at hb hl
        exact stop (y := 3) h0 h5 (by unfold rd_by; rw [if_neg c0, if_neg c1]) (by decide) (by decide) hlo hsk hw' hf
      rcases List.mem_cons.mp hx with rfl | hx
      · simp (config := { decide := true }) only [bnd_b, lin_b, lin_q, Nat.reduceAdd, Nat.zero_add, Nat.reduceEqDiff, reduceIte, and_true, Int.add_zero] at hb hl
        exact stop (y := 3) h0 h5 (by unfold rd_by; rw [if_neg c0, if_neg c1]) (by decide) (by decide) hlo hsk hw' hf
      · cases hx
end RDL
