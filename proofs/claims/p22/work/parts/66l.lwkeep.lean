/-! keep, back, in the law -/
section KBW
variable {ad : List Nat} {p : Program} {l : Launch} {e : Env} {R : Room} {s : State} {m : MethodId} {args : Array Value} {below : List Frame} {meth : Method} {c : Code} {D : va_G} {tys : ai_ty} {A : Nat → Prop} {b L : Nat} {sx : Nat → Int32} {cells slots : Nat} {Q : State → Prop}
theorem vi_bl {ws : va_W} {k i : Nat} {z : Int} (hw : ai_wd tb_TY ad tys ws) (h : vi ws k i z) (hT : tb_TY[k]? = some (2, 2, [(1, 0, 0, 1)])) (hi : i < 2) : 0 ≤ z ∧ z ≤ 1 := by
  obtain ⟨a, e, h1, h2, h3⟩ := hw.get hT
  obtain ⟨j, j1, j2⟩ := h
  rcases h3 with ⟨z, -⟩ | ⟨-, cA, f, rfl, -, h5⟩ | ⟨z, -⟩ | ⟨z, -⟩
  · exact absurd (id z : (2 : Nat) = 0) (by decide)
  · obtain ⟨b1, b2⟩ := h5 i (1, 0, 0, 1) hi (by unfold ai_pt; show [((1 : Nat), (0 : Nat), (0 : Int), (1 : Int))][i % 1]? = _; rw [Nat.mod_one]; rfl)
    have := j1.fun ⟨a, _, h1, Or.inr ⟨cA, 2, f, rfl, hi, rfl⟩⟩
    cases this
    have b1 : 0 ≤ (f i).toInt := b1
    have b2 : (f i).toInt ≤ 1 := b2
    omega
  · exact absurd (id z : (2 : Nat) = 3) (by decide)
  · exact absurd (id z : (2 : Nat) = 4) (by decide)
theorem csV_at {pg j : Nat} {wa wb : va_W} {z : Int} (h : csV 0 pg wa wb) (hj : j < 27) (hv : vi wa 50 j z) : vi wb 50 (j + pg) z := by
  have := h j z hj (by rw [Nat.zero_add]; exact hv)
  rw [Nat.add_comm]
  exact this
theorem csV_to {pg j : Nat} {wa wb : va_W} {z : Int} (h : csV pg 0 wa wb) (hj : j < 27) (hv : vi wa 50 (j + pg) z) : vi wb 50 j z := by
  have := h j z hj (by rw [Nat.add_comm]; exact hv)
  rw [Nat.zero_add] at this
  exact this
theorem cev_V {src dst n : Nat} {ws ws' : va_W} {E : Nat → Int} (hn : n ≤ 4) (h : bcV src dst ws ws') (hc : cev ws src n E) : cev ws' dst n E := by
  obtain ⟨h1, h2, -⟩ := h
  refine ⟨fun i hi => ?_, h1 1 _ (by decide) hc.2.1, h1 2 _ (by decide) hc.2.2⟩
  obtain ⟨a1, a2, a3, a4⟩ := hc.1 i hi
  exact ⟨h2 0 i _ (by decide) (by omega) a1, h2 1 i _ (by decide) (by omega) a2, h2 2 i _ (by decide) (by omega) a3, h2 3 i _ (by decide) (by omega) a4⟩
/-- what is kept -/
theorem keep_im {k n a : Nat} {E P : Nat → Int} {ws wa wb wc : va_W} (hk : k < 2) (hn : n ≤ 4) (hp : pgI ws 1 0 n E a P) (hn1 : vi ws 1 0 n) (hV : bcV 1 (13 + 6 * k) ws wa) (fa : ai_fr (bc_W (13 + 6 * k) ++ [(25, k, k + 1)]) ws wa) (hM : csV 0 (27 + 27 * k) wa wb) (fb : ai_fr [(50, 27 + 27 * k, 54 + 27 * k), (56, k, k + 1)] wa wb) (hf : ai_fr [] wb wc) : vi wc (13 + 6 * k) 0 n ∧ pgI wc (13 + 6 * k) (27 + 27 * k) n E a P := by
  obtain ⟨⟨hc, he, hg⟩, ⟨p3, p26, p8⟩, hpl⟩ := hp
  have n50 : ∀ {i : Nat}, ai_wr (bc_W (13 + 6 * k) ++ [(25, k, k + 1)]) 50 i i = false := fun {i} => wr_no fun q hq => by
    unfold bc_W at hq
    simp only [List.cons_append, List.nil_append, List.mem_cons, List.not_mem_nil, or_false] at hq
    rcases hq with rfl | rfl | rfl | rfl | rfl | rfl | rfl <;> dsimp only <;> omega
  have nb : ∀ {cc i : Nat}, cc ≠ 50 → cc ≠ 56 → ai_wr [(50, 27 + 27 * k, 54 + 27 * k), (56, k, k + 1)] cc i i = false := fun {cc i} h1 h2 => wr_no fun q hq => by
    simp only [List.mem_cons, List.not_mem_nil, or_false] at hq
    rcases hq with rfl | rfl <;> dsimp only <;> omega
  have up : ∀ {j : Nat} {z : Int}, j < 27 → vi ws 50 j z → vi wc 50 (j + (27 + 27 * k)) z := fun {j z} hj hz => (csV_at hM hj (hz.fr fa n50)).fr hf rfl
  have cu : ∀ {cc i : Nat} {z : Int}, cc ≠ 50 → cc ≠ 56 → vi wa cc i z → vi wc cc i z := fun {cc i z} h1 h2 hz => (hz.fr fb (nb h1 h2)).fr hf rfl
  have hca := cev_V hn hV hc
  refine ⟨cu (by omega) (by omega) (hV.1 0 _ (by decide) hn1), ⟨⟨fun i hi => ?_, cu (by omega) (by omega) hca.2.1, cu (by omega) (by omega) hca.2.2⟩, ⟨fun i hi => ?_, up (by decide) he.2.1, up (by decide) he.2.2⟩, hg⟩, ⟨cu (by omega) (by omega) (hV.1 3 _ (by decide) p3), up (by decide) p26, p8⟩, fun j hj => ?_⟩
  · obtain ⟨x1, x2, x3, x4⟩ := hca.1 i hi
    exact ⟨cu (by omega) (by omega) x1, cu (by omega) (by omega) x2, cu (by omega) (by omega) x3, cu (by omega) (by omega) x4⟩
  · obtain ⟨x1, x2, x3, x4⟩ := he.1 i hi
    exact ⟨up (by omega) x1, up (j := 4 + i) (by omega) x2, up (j := 8 + i) (by omega) x3, up (j := 12 + i) (by omega) x4⟩
  · obtain ⟨x1, x2, x3⟩ := hpl j hj
    exact ⟨cu (by omega) (by omega) (hV.2.2 j _ (by omega) x1), up (j := 18 + j) (by omega) x2, x3⟩
/-- .. and comes back -/
theorem back_im {k n a : Nat} {E P : Nat → Int} {ws wa wb wc : va_W} (hk : k < 2) (hn : n ≤ 4) (hp : pgI ws (13 + 6 * k) (27 + 27 * k) n E a P) (hn1 : vi ws (13 + 6 * k) 0 n) (hV : bcV (13 + 6 * k) 1 ws wa) (fa : ai_fr (bc_W 1) ws wa) (hM : csV (27 + 27 * k) 0 wa wb) (fb : ai_fr [(50, 0, 27)] wa wb) (hf : ai_fr [] wb wc) : vi wc 1 0 n ∧ pgI wc 1 0 n E a P := by
  obtain ⟨⟨hc, he, hg⟩, ⟨p3, p26, p8⟩, hpl⟩ := hp
  have up : ∀ {j : Nat} {z : Int}, j < 27 → vi ws 50 (j + (27 + 27 * k)) z → vi wc 50 j z := fun {j z} hj hz => (csV_to hM hj (hz.fr fa rfl)).fr hf rfl
  have cu : ∀ {cc i : Nat} {z : Int}, cc ≠ 50 → vi wa cc i z → vi wc cc i z := fun {cc i z} h1 hz => (hz.fr fb (wr_no fun q hq => by
    rw [List.mem_singleton.mp hq]
    dsimp only
    omega)).fr hf rfl
  have hca := cev_V hn hV hc
  refine ⟨cu (by omega) (hV.1 0 _ (by decide) hn1), ⟨⟨fun i hi => ?_, cu (by omega) hca.2.1, cu (by omega) hca.2.2⟩, ⟨fun i hi => ?_, up (by decide) he.2.1, up (by decide) he.2.2⟩, hg⟩, ⟨cu (by omega) (hV.1 3 _ (by decide) p3), up (by decide) p26, p8⟩, fun j hj => ?_⟩
  · obtain ⟨x1, x2, x3, x4⟩ := hca.1 i hi
    exact ⟨cu (by omega) x1, cu (by omega) x2, cu (by omega) x3, cu (by omega) x4⟩
  · obtain ⟨x1, x2, x3, x4⟩ := he.1 i hi
    exact ⟨up (by omega) x1, up (j := 4 + i) (by omega) x2, up (j := 8 + i) (by omega) x3, up (j := 12 + i) (by omega) x4⟩
  · obtain ⟨x1, x2, x3⟩ := hpl j hj
    exact ⟨cu (by omega) (hV.2.2 j _ (by omega) x1), up (j := 18 + j) (by omega) x2, x3⟩
set_option maxRecDepth 20000 in
set_option maxHeartbeats 1000000 in
theorem lw_keep {i q0 q49 : Nat} {ws : va_W} (C : ai_cx tb_m169 11 p R s m args c D tys A b L sx cells slots) (e0 : ad[0]? = some q0) (e49 : ad[49]? = some q49) (hi : i + 5 ≤ L) (hL : L ≤ 2560) (hw : ai_wd tb_TY ad tys ws) (hI : Inv ws)
    (k : ∀ wc, ai_wd tb_TY ad tys wc → Inv wc → hG tb_m169 p l e R s m args below meth c D A cells slots Q 1297 [(0, .ref b), (1, .ref q0), (2, .ref q49), (3, .int (nI i))] [] wc) : hG tb_m169 p l e R s m args below meth c D A cells slots Q 1076 [(0, .ref b), (1, .ref q0), (2, .ref q49), (3, .int (nI i))] [] ws := by
  have r1 : ∀ pcr ∈ [10, 46], decode tb_m86.2.1 pcr = .ok (.ireturn, 1) := by
    intro pcr hpc
    simp only [List.mem_cons, List.not_mem_nil, or_false] at hpc
    rcases hpc with rfl | rfl
    · exact tv_m86.1.1.1 (10, .ireturn, 1) (List.mem_of_getElem? (i := 6) rfl)
    · exact tv_m86.1.1.1 (46, .ireturn, 1) (List.mem_of_getElem? (i := 28) rfl)
  have r2 : ∀ pcr ∈ [11, 46], decode tb_m162.2.1 pcr = .ok (.ireturn, 1) := by
    intro pcr hpc
    simp only [List.mem_cons, List.not_mem_nil, or_false] at hpc
    rcases hpc with rfl | rfl
    · exact tv_m162.1.1.1 (11, .ireturn, 1) (List.mem_of_getElem? (i := 7) rfl)
    · exact tv_m162.1.1.1 (46, .ireturn, 1) (List.mem_of_getElem? (i := 31) rfl)
  by_cases hin : ¬ (0 ≤ (sx (i + 1)).toInt ∧ (sx (i + 1)).toInt ≤ 1)
  · refine law2 (P1 := fun w z => ai_wd tb_TY ad tys w ∧ ai_fr [] ws w ∧ z.toInt = -1) (P2 := fun wa _ w z => ai_wd tb_TY ad tys w ∧ ai_fr [] wa w ∧ z.toInt = -1) (rets1 := [10, 46]) (rets2 := [11, 46]) C e0 e49 hi hL hw (n := 1) (cmp := false) (by decide) lr_keepA lr_keepB lr_keepC (q1 := (139, 0, 86, 1, 5)) (tv_m169.1.1.1 (1082, .invokevirtual 139, 3) (List.mem_of_getElem? (i := 728) rfl)) (tv_m169.2 _ (List.mem_of_getElem? (i := 60) rfl)) rfl rfl rfl rfl (by decide) (Nat.le_of_ble_eq_true rfl) rfl rfl (q2 := (142, 0, 162, 1, 6)) (tv_m169.1.1.1 (1092, .invokevirtual 142, 3) (List.mem_of_getElem? (i := 736) rfl)) (tv_m169.2 _ (List.mem_of_getElem? (i := 61) rfl)) rfl rfl rfl rfl (by decide) (Nat.le_of_ble_eq_true rfl) rfl rfl r1 r2 ?_ (fun wa z1 h => h.1) ?_ (fun wa z1 wb z2 h1 h2 => ⟨h2.1, fun _ => Int32.toInt_inj.mp (by rw [h1.2.2, h2.2.2])⟩) (fun wa z1 wb z2 wc h1 h2 hwc hf => k wc hwc (hI.fr0 hwc ((h1.2.1.tr h2.2.1).tr hf)))
    · intro p e R s m args below meth c Q w hw' hf C2 kk
      exact kb_bad rfl rfl C2 hw' e0 ck_n hin (fun w' z lv h1 h2 h3 => kk 10 w' z lv (by decide) ⟨h1, hf.tr h2, h3⟩)
    · intro p e R s m args below meth c Q wa z1 w hP1 hw' hf C2 kk
      exact kb_bad rfl rfl C2 hw' e49 mk_n hin (fun w' z lv h1 h2 h3 => kk 11 w' z lv (by decide) ⟨h1, hf.tr h2, h3⟩)
  obtain ⟨kn, hkn⟩ : ∃ kn : Nat, (sx (i + 1)).toInt = (kn : Int) := ⟨(sx (i + 1)).toInt.toNat, by omega⟩
  have hk2 : kn < 2 := by omega
  have hI' := hI
  obtain ⟨t, g, u, q, y, n, j0, j1, E, a, P, hb, hp, hi0, hi1, hs⟩ := hI'
  obtain ⟨hn1, hn2, hn4⟩ := hb.2.2.2.2.1
  obtain ⟨⟨f1, f2⟩, f3, f4⟩ := hb.2.2.2.2.2
  have bj0 := vi_bl hw f1 rfl (by decide)
  have bj1 := vi_bl hw f3 rfl (by decide)
  obtain ⟨v, hv2, h25, h56⟩ : ∃ v : Nat, v < 2 ∧ vi ws 25 kn v ∧ vi ws 56 kn v := by
    obtain rfl | rfl : kn = 0 ∨ kn = 1 := by omega
    · exact ⟨j0.toNat, by omega, f1.eq (by omega), f2.eq (by omega)⟩
    · exact ⟨j1.toNat, by omega, f3.eq (by omega), f4.eq (by omega)⟩
  obtain ⟨F, hF⟩ := kb_T hk2
  obtain ⟨a1, -, -, e1, -⟩ := hw.get (c := 1) rfl
  obtain ⟨aI, -, -, eI, -⟩ := hw.get hF
  refine law2 (P1 := fun w z => ck_P ad tys kn v ws w z) (P2 := fun wa _ w z => mk_P ad tys kn v wa w z) (rets1 := [10, 46]) (rets2 := [11, 46]) C e0 e49 hi hL hw (n := 1) (cmp := false) (by decide) lr_keepA lr_keepB lr_keepC (q1 := (139, 0, 86, 1, 5)) (tv_m169.1.1.1 (1082, .invokevirtual 139, 3) (List.mem_of_getElem? (i := 728) rfl)) (tv_m169.2 _ (List.mem_of_getElem? (i := 60) rfl)) rfl rfl rfl rfl (by decide) (Nat.le_of_ble_eq_true rfl) rfl rfl (q2 := (142, 0, 162, 1, 6)) (tv_m169.1.1.1 (1092, .invokevirtual 142, 3) (List.mem_of_getElem? (i := 736) rfl)) (tv_m169.2 _ (List.mem_of_getElem? (i := 61) rfl)) rfl rfl rfl rfl (by decide) (Nat.le_of_ble_eq_true rfl) rfl rfl r1 r2 ?_ (fun wa z1 h => h.1) ?_ (fun wa z1 wb z2 h1 h2 => ⟨h2.1, fun _ => Int32.toInt_inj.mp (by rw [h1.2.2.2.2, h2.2.2.2.2])⟩) ?_
  · intro p e R s m args below meth c Q w hw' hf C2 kk
    refine ck_all hk2 hv2 hkn C2 hw' e0 e1 eI (h25.fr hf rfl) (fun pcr w' z lv hpr hP => kk pcr w' z lv hpr ⟨hP.1, (fr_sub (V := []) (fun _ _ _ q hq => by cases hq) hf).tr hP.2.1, hP.2.2.1, ⟨fun j z hj hz => hP.2.2.2.1.1 j z hj (hz.fr hf rfl), fun q j z hq hj hz => hP.2.2.2.1.2.1 q j z hq hj (hz.fr hf rfl), fun j z hj hz => hP.2.2.2.1.2.2 j z hj (hz.fr hf rfl)⟩, hP.2.2.2.2⟩)
  · intro p e R s m args below meth c Q wa z1 w hP1 hw' hf C2 kk
    have h56a : vi wa 56 kn v := h56.fr hP1.2.1 (wr_no fun q hq => by
      unfold bc_W at hq
      simp only [List.cons_append, List.nil_append, List.mem_cons, List.not_mem_nil, or_false] at hq
      rcases hq with rfl | rfl | rfl | rfl | rfl | rfl | rfl <;> dsimp only <;> omega)
    exact mk_all hk2 hv2 hkn C2 hw' e49 (h56a.fr hf rfl) (fun pcr w' z lv hpr hP => kk pcr w' z lv hpr ⟨hP.1, (fr_sub (V := []) (fun _ _ _ q hq => by cases hq) hf).tr hP.2.1, hP.2.2.1, fun j z hj hz => hP.2.2.2.1 j z hj (hz.fr hf rfl), hP.2.2.2.2⟩)
  · intro wa z1 wb z2 wc h1 h2 hwc hf
    refine k wc hwc ?_
    obtain ⟨-, fa, v25, hV, -⟩ := h1
    obtain ⟨-, fb, v56, hM, -⟩ := h2
    obtain ⟨im1, im2⟩ := keep_im hk2 hn4 hp hn1 hV fa hM fb hf
    obtain ⟨⟨⟨b1, b2⟩, b3, b4⟩, ⟨b5, b6⟩, ⟨b7, b8⟩, ⟨b9, b10⟩, -⟩ := hb
    obtain rfl | rfl : kn = 0 ∨ kn = 1 := by omega
    · have fbc : ai_fr [(50, 27, 54), (56, 0, 1)] wa wc := fb.tr (wsub_ok (V := []) rfl hf)
      have fx : ai_fr (bc_W 13 ++ [(25, 0, 1), (50, 27, 54), (56, 0, 1)]) ws wc := (wsub_ok (V := bc_W 13 ++ [(25, 0, 1)]) (by decide) fa).tr (wsub_ok (V := [(50, 27, 54), (56, 0, 1)]) (by decide) fbc)
      exact ⟨t, g, u, q, y, n, 1, j1, E, a, P, ⟨⟨⟨b1.fr fx (by decide), b2.fr fx (by decide)⟩, b3, b4.fr b3 hwc fx (by decide) (by decide)⟩, ⟨b5.fr fx (by decide), b6.fr fx (by decide)⟩, ⟨b7.fr fx (by decide), b8.fr fx (by decide)⟩, ⟨b9.fr fx (by decide), b10.fr fx (by decide)⟩, ⟨hn1.fr fx (by decide), hn2.fr fx (by decide), hn4⟩, ⟨v25.fr fbc (by decide), v56.fr hf rfl⟩, f3.fr fx (by decide), f4.fr fx (by decide)⟩, hp.fr hn4 fx (by decide) (by decide), fun _ => ⟨E, a, P, im1, im2⟩, fun h => (hi1 h).fr hn4 fx (by decide) (by decide), hs.fr fx (by decide) (by decide)⟩
    · have fbc : ai_fr [(50, 54, 81), (56, 1, 2)] wa wc := fb.tr (wsub_ok (V := []) rfl hf)
      have fx : ai_fr (bc_W 19 ++ [(25, 1, 2), (50, 54, 81), (56, 1, 2)]) ws wc := (wsub_ok (V := bc_W 19 ++ [(25, 1, 2)]) (by decide) fa).tr (wsub_ok (V := [(50, 54, 81), (56, 1, 2)]) (by decide) fbc)
      exact ⟨t, g, u, q, y, n, j0, 1, E, a, P, ⟨⟨⟨b1.fr fx (by decide), b2.fr fx (by decide)⟩, b3, b4.fr b3 hwc fx (by decide) (by decide)⟩, ⟨b5.fr fx (by decide), b6.fr fx (by decide)⟩, ⟨b7.fr fx (by decide), b8.fr fx (by decide)⟩, ⟨b9.fr fx (by decide), b10.fr fx (by decide)⟩, ⟨hn1.fr fx (by decide), hn2.fr fx (by decide), hn4⟩, ⟨f1.fr fx (by decide), f2.fr fx (by decide)⟩, v25.fr fbc (by decide), v56.fr hf rfl⟩, hp.fr hn4 fx (by decide) (by decide), fun h => (hi0 h).fr hn4 fx (by decide) (by decide), fun _ => ⟨E, a, P, im1, im2⟩, hs.fr fx (by decide) (by decide)⟩
set_option maxRecDepth 20000 in
set_option maxHeartbeats 1000000 in
theorem lw_back {i q0 q49 : Nat} {ws : va_W} (C : ai_cx tb_m169 11 p R s m args c D tys A b L sx cells slots) (e0 : ad[0]? = some q0) (e49 : ad[49]? = some q49) (hi : i + 5 ≤ L) (hL : L ≤ 2560) (hw : ai_wd tb_TY ad tys ws) (hI : Inv ws)
    (k : ∀ wc, ai_wd tb_TY ad tys wc → Inv wc → hG tb_m169 p l e R s m args below meth c D A cells slots Q 1297 [(0, .ref b), (1, .ref q0), (2, .ref q49), (3, .int (nI i))] [] wc) : hG tb_m169 p l e R s m args below meth c D A cells slots Q 1099 [(0, .ref b), (1, .ref q0), (2, .ref q49), (3, .int (nI i))] [] ws := by
  have r1 : ∀ pcr ∈ [10, 22, 42], decode tb_m87.2.1 pcr = .ok (.ireturn, 1) := by
    intro pcr hpc
    simp only [List.mem_cons, List.not_mem_nil, or_false] at hpc
    rcases hpc with rfl | rfl | rfl
    · exact tv_m87.1.1.1 (10, .ireturn, 1) (List.mem_of_getElem? (i := 6) rfl)
    · exact tv_m87.1.1.1 (22, .ireturn, 1) (List.mem_of_getElem? (i := 13) rfl)
    · exact tv_m87.1.1.1 (42, .ireturn, 1) (List.mem_of_getElem? (i := 23) rfl)
  have r2 : ∀ pcr ∈ [11, 23, 42], decode tb_m163.2.1 pcr = .ok (.ireturn, 1) := by
    intro pcr hpc
    simp only [List.mem_cons, List.not_mem_nil, or_false] at hpc
    rcases hpc with rfl | rfl | rfl
    · exact tv_m163.1.1.1 (11, .ireturn, 1) (List.mem_of_getElem? (i := 7) rfl)
    · exact tv_m163.1.1.1 (23, .ireturn, 1) (List.mem_of_getElem? (i := 14) rfl)
    · exact tv_m163.1.1.1 (42, .ireturn, 1) (List.mem_of_getElem? (i := 27) rfl)
  by_cases hin : ¬ (0 ≤ (sx (i + 1)).toInt ∧ (sx (i + 1)).toInt ≤ 1)
  · refine law2 (P1 := fun w z => ai_wd tb_TY ad tys w ∧ ai_fr [] ws w ∧ z.toInt = -1) (P2 := fun wa _ w z => ai_wd tb_TY ad tys w ∧ ai_fr [] wa w ∧ z.toInt = -1) (rets1 := [10, 22, 42]) (rets2 := [11, 23, 42]) C e0 e49 hi hL hw (n := 1) (cmp := false) (by decide) lr_backA lr_backB lr_backC (q1 := (143, 0, 87, 1, 5)) (tv_m169.1.1.1 (1105, .invokevirtual 143, 3) (List.mem_of_getElem? (i := 745) rfl)) (tv_m169.2 _ (List.mem_of_getElem? (i := 62) rfl)) rfl rfl rfl rfl (by decide) (Nat.le_of_ble_eq_true rfl) rfl rfl (q2 := (146, 0, 163, 1, 6)) (tv_m169.1.1.1 (1115, .invokevirtual 146, 3) (List.mem_of_getElem? (i := 753) rfl)) (tv_m169.2 _ (List.mem_of_getElem? (i := 63) rfl)) rfl rfl rfl rfl (by decide) (Nat.le_of_ble_eq_true rfl) rfl rfl r1 r2 ?_ (fun wa z1 h => h.1) ?_ (fun wa z1 wb z2 h1 h2 => ⟨h2.1, fun _ => Int32.toInt_inj.mp (by rw [h1.2.2, h2.2.2])⟩) (fun wa z1 wb z2 wc h1 h2 hwc hf => k wc hwc (hI.fr0 hwc ((h1.2.1.tr h2.2.1).tr hf)))
    · intro p e R s m args below meth c Q w hw' hf C2 kk
      exact kb_bad rfl rfl C2 hw' e0 cb_n hin (fun w' z lv h1 h2 h3 => kk 10 w' z lv (by decide) ⟨h1, hf.tr h2, h3⟩)
    · intro p e R s m args below meth c Q wa z1 w hP1 hw' hf C2 kk
      exact kb_bad rfl rfl C2 hw' e49 mb_n hin (fun w' z lv h1 h2 h3 => kk 11 w' z lv (by decide) ⟨h1, hf.tr h2, h3⟩)
  obtain ⟨kn, hkn⟩ : ∃ kn : Nat, (sx (i + 1)).toInt = (kn : Int) := ⟨(sx (i + 1)).toInt.toNat, by omega⟩
  have hk2 : kn < 2 := by omega
  have hI' := hI
  obtain ⟨t, g, u, q, y, n, j0, j1, E, a, P, hb, hp, hi0, hi1, hs⟩ := hI'
  obtain ⟨hn1, hn2, hn4⟩ := hb.2.2.2.2.1
  obtain ⟨⟨f1, f2⟩, f3, f4⟩ := hb.2.2.2.2.2
  have bj0 := vi_bl hw f1 rfl (by decide)
  have bj1 := vi_bl hw f3 rfl (by decide)
  obtain ⟨v, hv2, h25, h56⟩ : ∃ v : Nat, v < 2 ∧ vi ws 25 kn v ∧ vi ws 56 kn v := by
    obtain rfl | rfl : kn = 0 ∨ kn = 1 := by omega
    · exact ⟨j0.toNat, by omega, f1.eq (by omega), f2.eq (by omega)⟩
    · exact ⟨j1.toNat, by omega, f3.eq (by omega), f4.eq (by omega)⟩
  obtain ⟨F, hF⟩ := kb_T hk2
  obtain ⟨a1, -, -, e1, -⟩ := hw.get (c := 1) rfl
  obtain ⟨aI, -, -, eI, -⟩ := hw.get hF
  refine law2 (P1 := fun w z => cb_P ad tys kn v ws w z) (P2 := fun wa _ w z => mb_P ad tys kn v wa w z) (rets1 := [10, 22, 42]) (rets2 := [11, 23, 42]) C e0 e49 hi hL hw (n := 1) (cmp := false) (by decide) lr_backA lr_backB lr_backC (q1 := (143, 0, 87, 1, 5)) (tv_m169.1.1.1 (1105, .invokevirtual 143, 3) (List.mem_of_getElem? (i := 745) rfl)) (tv_m169.2 _ (List.mem_of_getElem? (i := 62) rfl)) rfl rfl rfl rfl (by decide) (Nat.le_of_ble_eq_true rfl) rfl rfl (q2 := (146, 0, 163, 1, 6)) (tv_m169.1.1.1 (1115, .invokevirtual 146, 3) (List.mem_of_getElem? (i := 753) rfl)) (tv_m169.2 _ (List.mem_of_getElem? (i := 63) rfl)) rfl rfl rfl rfl (by decide) (Nat.le_of_ble_eq_true rfl) rfl rfl r1 r2 ?_ (fun wa z1 h => h.1) ?_ ?_ ?_
  · intro p e R s m args below meth c Q w hw' hf C2 kk
    refine cb_all hk2 hv2 hkn C2 hw' e0 e1 eI (h25.fr hf rfl) (fun pcr w' z lv hpr hP => kk pcr w' z lv hpr ⟨hP.1, fun h => ⟨hf.tr (hP.2.1 h).1, (hP.2.1 h).2⟩, fun h => ⟨(wsub_ok (V := []) rfl hf).tr (hP.2.2 h).1, ⟨fun j z hj hz => (hP.2.2 h).2.1.1 j z hj (hz.fr hf rfl), fun q j z hq hj hz => (hP.2.2 h).2.1.2.1 q j z hq hj (hz.fr hf rfl), fun j z hj hz => (hP.2.2 h).2.1.2.2 j z hj (hz.fr hf rfl)⟩, (hP.2.2 h).2.2⟩⟩)
  · intro p e R s m args below meth c Q wa z1 w hP1 hw' hf C2 kk
    have h56a : vi wa 56 kn v := by
      obtain rfl | rfl : v = 0 ∨ v = 1 := by omega
      · exact h56.fr (hP1.2.1 rfl).1 rfl
      · exact h56.fr (hP1.2.2 rfl).1 rfl
    exact mb_all hk2 hv2 hkn C2 hw' e49 (h56a.fr hf rfl) (fun pcr w' z lv hpr hP => kk pcr w' z lv hpr ⟨hP.1, fun h => ⟨hf.tr (hP.2.1 h).1, (hP.2.1 h).2⟩, fun h => ⟨(wsub_ok (V := []) rfl hf).tr (hP.2.2 h).1, fun j z hj hz => (hP.2.2 h).2.1 j z hj (hz.fr hf rfl), (hP.2.2 h).2.2⟩⟩)
  · intro wa z1 wb z2 h1 h2
    refine ⟨h2.1, fun _ => Int32.toInt_inj.mp ?_⟩
    obtain rfl | rfl : v = 0 ∨ v = 1 := by omega
    · rw [(h1.2.1 rfl).2, (h2.2.1 rfl).2]
    · obtain ⟨fa, hV, hz1⟩ := h1.2.2 rfl
      obtain ⟨fb, hM, hz2⟩ := h2.2.2 rfl
      obtain ⟨E', a', P', x0, hpI⟩ : imI ws kn n := by
        obtain rfl | rfl : kn = 0 ∨ kn = 1 := by omega
        · exact hi0 (f1.fun h25)
        · exact hi1 (f3.fun h25)
      obtain ⟨⟨hc, he, hg⟩, -⟩ := hpI
      rw [hz1 _ (hV.1 2 _ (by decide) hc.2.2), hz2 _ (csV_to hM (by decide) (he.2.2.fr fa rfl))]
  · intro wa z1 wb z2 wc h1 h2 hwc hf
    refine k wc hwc ?_
    obtain rfl | rfl : v = 0 ∨ v = 1 := by omega
    · exact hI.fr0 hwc (((h1.2.1 rfl).1.tr (h2.2.1 rfl).1).tr hf)
    · obtain ⟨fa, hV, -⟩ := h1.2.2 rfl
      obtain ⟨fb, hM, -⟩ := h2.2.2 rfl
      obtain ⟨E', a', P', x0, hpI⟩ : imI ws kn n := by
        obtain rfl | rfl : kn = 0 ∨ kn = 1 := by omega
        · exact hi0 (f1.fun h25)
        · exact hi1 (f3.fun h25)
      obtain ⟨im1, im2⟩ := back_im hk2 hn4 hpI x0 hV fa hM fb hf
      have fx : ai_fr (bc_W 1 ++ [(50, 0, 27)]) ws wc := ((wsub_ok (V := bc_W 1) (by decide) fa).tr (wsub_ok (V := [(50, 0, 27)]) (by decide) fb)).tr (wsub_ok (V := []) rfl hf)
      exact Inv.gen (y' := y) hb hi0 hi1 hs hwc fx (by decide) ⟨hb.2.2.2.1.1.fr fx (by decide), hb.2.2.2.1.2.fr fx (by decide)⟩ im1 im2
end KBW
