/-! lay, in the law -/
section LYW
variable {ad : List Nat} {p : Program} {l : Launch} {e : Env} {R : Room} {s : State} {m : MethodId} {args : Array Value} {below : List Frame} {meth : Method} {c : Code} {D : va_G} {tys : ai_ty} {A : Nat → Prop} {b L : Nat} {sx : Nat → Int32} {cells slots : Nat} {Q : State → Prop}
set_option maxRecDepth 20000 in
set_option maxHeartbeats 1000000 in
theorem lw_lay {i q0 q49 : Nat} {ws : va_W} (C : ai_cx tb_m169 11 p R s m args c D tys A b L sx cells slots) (e0 : ad[0]? = some q0) (e49 : ad[49]? = some q49) (hi : i + 5 ≤ L) (hL : L ≤ 2560) (hw : ai_wd tb_TY ad tys ws) (hI : Inv ws)
    (k : ∀ wc, ai_wd tb_TY ad tys wc → Inv wc → hG tb_m169 p l e R s m args below meth c D A cells slots Q 1298 [(0, .ref b), (1, .ref q0), (2, .ref q49), (3, .int (nI i))] [] wc) : hG tb_m169 p l e R s m args below meth c D A cells slots Q 1166 [(0, .ref b), (1, .ref q0), (2, .ref q49), (3, .int (nI i))] [] ws := by
  have r1 : ∀ pcr ∈ [8, 30, 42], decode tb_m90.2.1 pcr = .ok (.ireturn, 1) := by
    intro pcr hpc
    simp only [List.mem_cons, List.not_mem_nil, or_false] at hpc
    rcases hpc with rfl | rfl | rfl
    · exact tv_m90.1.1.1 (8, .ireturn, 1) (List.mem_of_getElem? (i := 4) rfl)
    · exact tv_m90.1.1.1 (30, .ireturn, 1) (List.mem_of_getElem? (i := 16) rfl)
    · exact tv_m90.1.1.1 (42, .ireturn, 1) (List.mem_of_getElem? (i := 24) rfl)
  have r2 : ∀ pcr ∈ [13, 27, 48, 101], decode tb_m165.2.1 pcr = .ok (.ireturn, 1) := by
    intro pcr hpc
    simp only [List.mem_cons, List.not_mem_nil, or_false] at hpc
    rcases hpc with rfl | rfl | rfl | rfl
    · exact tv_m165.1.1.1 (13, .ireturn, 1) (List.mem_of_getElem? (i := 7) rfl)
    · exact tv_m165.1.1.1 (27, .ireturn, 1) (List.mem_of_getElem? (i := 15) rfl)
    · exact tv_m165.1.1.1 (48, .ireturn, 1) (List.mem_of_getElem? (i := 29) rfl)
    · exact tv_m165.1.1.1 (101, .ireturn, 1) (List.mem_of_getElem? (i := 63) rfl)
  have b1 := ai_irg (sx (i + 1))
  have b2 := ai_irg (sx (i + 2))
  have b3 := ai_irg (sx (i + 3))
  have no : ∀ {pc1 pc2 : Nat} {z : Int}, pc1 ∈ [8, 30, 42] → pc2 ∈ [13, 27, 48, 101] → (∀ {p : Program} {e : Env} {R : Room} {s : State} {m : MethodId} {args : Array Value} {below : List Frame} {meth : Method} {c : Code} {Q : State → Prop} (w : va_W), ai_wd tb_TY ad tys w → ai_fr [] ws w → ai_cx tb_m90 10 p R s m args c D tys A b L sx 0 0 → (∀ (ws' : va_W) (z' : Int32) (lv' : List (Nat × Value)), ai_wd tb_TY ad tys ws' → ai_fr [] w ws' → z'.toInt = z → hG tb_m90 p l e R s m args below meth c D A 0 0 Q pc1 lv' [.int z'] ws') → hG tb_m90 p l e R s m args below meth c D A 0 0 Q 0 [(0, .ref q0), (1, .int (sx (i + 1))), (2, .int (sx (i + 2))), (3, .int (sx (i + 3)))] [] w) → (∀ {p : Program} {e : Env} {R : Room} {s : State} {m : MethodId} {args : Array Value} {below : List Frame} {meth : Method} {c : Code} {Q : State → Prop} (w : va_W), ai_wd tb_TY ad tys w → ai_fr [] ws w → ai_cx tb_m165 10 p R s m args c D tys A b L sx 0 0 → (∀ (ws' : va_W) (z' : Int32) (lv' : List (Nat × Value)), ai_wd tb_TY ad tys ws' → ai_fr [] w ws' → z'.toInt = z → hG tb_m165 p l e R s m args below meth c D A 0 0 Q pc2 lv' [.int z'] ws') → hG tb_m165 p l e R s m args below meth c D A 0 0 Q 0 [(0, .ref q49), (1, .int (sx (i + 1))), (2, .int (sx (i + 2))), (3, .int (sx (i + 3)))] [] w) → hG tb_m169 p l e R s m args below meth c D A cells slots Q 1166 [(0, .ref b), (1, .ref q0), (2, .ref q49), (3, .int (nI i))] [] ws := fun {pc1 pc2 z} hp1 hp2 hc1 hc2 => law2 (P1 := fun w z1 => ai_wd tb_TY ad tys w ∧ ai_fr [] ws w ∧ z1.toInt = z) (P2 := fun wa _ w z1 => ai_wd tb_TY ad tys w ∧ ai_fr [] wa w ∧ z1.toInt = z) (rets1 := [8, 30, 42]) (rets2 := [13, 27, 48, 101]) C e0 e49 hi hL hw (n := 3) (cmp := false) (by decide) lr_layA lr_layB lr_layC (q1 := (151, 0, 90, 3, 5)) (tv_m169.1.1.1 (1182, .invokevirtual 151, 3) (List.mem_of_getElem? (i := 810) rfl)) (tv_m169.2 _ (List.mem_of_getElem? (i := 66) rfl)) rfl rfl rfl rfl (by decide) (Nat.le_of_ble_eq_true rfl) rfl rfl (q2 := (154, 0, 165, 3, 6)) (tv_m169.1.1.1 (1202, .invokevirtual 154, 3) (List.mem_of_getElem? (i := 828) rfl)) (tv_m169.2 _ (List.mem_of_getElem? (i := 67) rfl)) rfl rfl rfl rfl (by decide) (Nat.le_of_ble_eq_true rfl) rfl rfl r1 r2 (fun w hw' hf C2 kk => hc1 w hw' hf C2 (fun w' z' lv h1 h2 h3 => kk pc1 w' z' lv hp1 ⟨h1, hf.tr h2, h3⟩)) (fun wa z1 h => h.1) (fun wa z1 w hP1 hw' hf C2 kk => hc2 w hw' (hP1.2.1.tr hf) C2 (fun w' z' lv h1 h2 h3 => kk pc2 w' z' lv hp2 ⟨h1, hf.tr h2, h3⟩)) (fun wa z1 wb z2 h1 h2 => ⟨h2.1, fun _ => Int32.toInt_inj.mp (by rw [h1.2.2, h2.2.2])⟩) (fun wa z1 wb z2 wc h1 h2 hwc hf => k wc hwc (hI.fr0 hwc ((h1.2.1.tr h2.2.1).tr hf)))
  by_cases c1 : (sx (i + 1)).toInt < 0
  · exact no (pc1 := 8) (pc2 := 13) (by decide) (by decide) (fun w hw' _ C2 kk => s3_ret rfl rfl C2 hw' e0 lyc_b1 (by omega) (by omega) (by omega) kk) (fun w hw' _ C2 kk => s3_ret rfl rfl C2 hw' e49 lym_b1 (by omega) (by omega) (by omega) kk)
  by_cases c2 : 3 < (sx (i + 1)).toInt
  · exact no (pc1 := 8) (pc2 := 13) (by decide) (by decide) (fun w hw' _ C2 kk => s3_ret rfl rfl C2 hw' e0 lyc_b2 (by omega) (by omega) (by omega) kk) (fun w hw' _ C2 kk => s3_ret rfl rfl C2 hw' e49 lym_b2 (by omega) (by omega) (by omega) kk)
  obtain ⟨kn, hkn⟩ : ∃ kn : Nat, (sx (i + 1)).toInt = (kn : Int) := ⟨(sx (i + 1)).toInt.toNat, by omega⟩
  have hk4 : kn < 4 := by omega
  have hI' := hI
  obtain ⟨t, g, u, q, y, n, j0, j1, E, a, P, hb, hp, hi0, hi1, hs⟩ := hI'
  have hs' := hs
  obtain ⟨⟨Lk, Nk, Xk, hcs, hms⟩, hse⟩ := hs'
  obtain ⟨v42, v43, ⟨hN40, hLa⟩, vx⟩ := hcs kn hk4
  obtain ⟨w57, w58, -, wx⟩ := hms kn hk4
  by_cases c3 : Lk kn = -1
  · rw [c3] at v42
    rw [if_pos c3] at w57
    exact no (pc1 := 30) (pc2 := 27) (by decide) (by decide) (fun w hw' hf C2 kk => ly_ret rfl rfl C2 hw' e0 lyc_0 hk4 hkn (by omega) (N := (Nk kn : Int)) (by omega) (la := -1) (by omega) sb0 (ly_kc (v42.fr hf rfl) (v43.fr hf rfl)) kk) (fun w hw' hf C2 kk => ly_ret rfl rfl C2 hw' e49 lym_0 hk4 hkn (by omega) (N := (Nk kn : Int)) (by omega) (la := -4) (by omega) sb0 (ly_km (w57.fr hf rfl) (w58.fr hf rfl)) kk)
  rw [if_neg c3] at w57
  by_cases c4 : (sx (i + 2)).toInt < 0
  · exact no (pc1 := 30) (pc2 := 48) (by decide) (by decide) (fun w hw' hf C2 kk => ly_ret rfl rfl C2 hw' e0 lyc_1 hk4 hkn (by omega) (N := (Nk kn : Int)) (by omega) (la := Lk kn) (by omega) sb0 (ly_kc (v42.fr hf rfl) (v43.fr hf rfl)) kk) (fun w hw' hf C2 kk => ly_ret rfl rfl C2 hw' e49 lym_1 hk4 hkn (by omega) (N := (Nk kn : Int)) (by omega) (la := Lk kn) (by omega) sb0 (ly_km (w57.fr hf rfl) (w58.fr hf rfl)) kk)
  by_cases c5 : (Nk kn : Int) ≤ (sx (i + 2)).toInt
  · exact no (pc1 := 30) (pc2 := 48) (by decide) (by decide) (fun w hw' hf C2 kk => ly_ret rfl rfl C2 hw' e0 lyc_2 hk4 hkn (by omega) (N := (Nk kn : Int)) (by omega) (la := Lk kn) (by omega) (ly_sb (o := 0) (Or.inr ⟨rfl, c5⟩)) (ly_kc (v42.fr hf rfl) (v43.fr hf rfl)) kk) (fun w hw' hf C2 kk => ly_ret rfl rfl C2 hw' e49 lym_2 hk4 hkn (by omega) (N := (Nk kn : Int)) (by omega) (la := Lk kn) (by omega) (ly_sb (o := 0) (Or.inr ⟨rfl, c5⟩)) (ly_km (w57.fr hf rfl) (w58.fr hf rfl)) kk)
  obtain ⟨La, hLa'⟩ : ∃ La : Nat, Lk kn = (La : Int) := ⟨(Lk kn).toNat, by omega⟩
  have hL3 : La < 3 := by omega
  rw [hLa'] at v42 w57
  obtain ⟨a41, -, -, e41, -⟩ := hw.get (c := 41) rfl
  obtain ⟨a59, -, -, e59, -⟩ := hw.get (c := 59) rfl
  obtain ⟨aR, -, -, eR, -⟩ := hw.get (cd_T hk4)
  have hin : 0 ≤ (sx (i + 2)).toInt ∧ (sx (i + 2)).toInt < ((Nk kn : Nat) : Int) := by omega
  have n0 : ∀ {u v : va_W} {Wx : List (Nat × Nat × Nat)}, ai_fr [] u v → ai_fr Wx u v := fun h => fr_sub (V := []) (fun _ _ _ q hq => by cases hq) h
  obtain ⟨X, hX⟩ : ∃ X : Nat, (sx (i + 2)).toInt.toNat = X := ⟨_, rfl⟩
  have nP : ∀ {cc j : Nat}, (cc ≠ 45 + kn ∨ j ≠ X) → ai_wr [(45 + kn, X, X + 1)] cc j j = false := fun {cc j} x1 => wr_no fun q hq => by
    rw [List.mem_singleton.mp hq]
    dsimp only
    omega
  have nM : ∀ {cc j : Nat}, (cc ≠ 59 ∨ j ≠ 40 * kn + X) → ai_wr [(59, 40 * kn + X, 40 * kn + X + 1)] cc j j = false := fun {cc j} x1 => wr_no fun q hq => by
    rw [List.mem_singleton.mp hq]
    dsimp only
    omega
  refine law2 (P1 := fun w z1 => ly_P ad tys kn (sx (i + 2)) (sx (i + 3)) La ws w ∧ z1.toInt = 1) (P2 := fun wa _ w z1 => lym_P ad tys kn (sx (i + 2)) (sx (i + 3)) La wa w ∧ z1.toInt = 1) (rets1 := [8, 30, 42]) (rets2 := [13, 27, 48, 101]) C e0 e49 hi hL hw (n := 3) (cmp := false) (by decide) lr_layA lr_layB lr_layC (q1 := (151, 0, 90, 3, 5)) (tv_m169.1.1.1 (1182, .invokevirtual 151, 3) (List.mem_of_getElem? (i := 810) rfl)) (tv_m169.2 _ (List.mem_of_getElem? (i := 66) rfl)) rfl rfl rfl rfl (by decide) (Nat.le_of_ble_eq_true rfl) rfl rfl (q2 := (154, 0, 165, 3, 6)) (tv_m169.1.1.1 (1202, .invokevirtual 154, 3) (List.mem_of_getElem? (i := 828) rfl)) (tv_m169.2 _ (List.mem_of_getElem? (i := 67) rfl)) rfl rfl rfl rfl (by decide) (Nat.le_of_ble_eq_true rfl) rfl rfl r1 r2 ?_ (fun wa z1 h => h.1.1) ?_ (fun wa z1 wb z2 h1 h2 => ⟨h2.1.1, fun _ => Int32.toInt_inj.mp (by rw [h1.2, h2.2])⟩) ?_
  · intro p e R s m args below meth c Q w hw' hf C2 kk
    exact lyc_all C2 hw' e0 e41 eR hk4 hL3 hN40 hkn hin (v42.fr hf rfl) (v43.fr hf rfl) (fun w' z' lv hP hz => kk 42 w' z' lv (by decide) ⟨⟨hP.1, (n0 hf).tr hP.2.1, hP.2.2⟩, hz⟩)
  · intro p e R s m args below meth c Q wa z1 w hP1 hw' hf C2 kk
    have hfa := hP1.1.2.1
    rw [hX] at hfa
    exact lym_all C2 hw' e49 e59 hk4 hL3 hN40 hkn hin ((w57.fr hfa (nP (Or.inl (by omega)))).fr hf rfl) ((w58.fr hfa (nP (Or.inl (by omega)))).fr hf rfl) (fun w' z' lv hP hz => kk 101 w' z' lv (by decide) ⟨⟨hP.1, (n0 hf).tr hP.2.1, hP.2.2⟩, hz⟩)
  · intro wa z1 wb z2 wc h1 h2 hwc hf
    refine k wc hwc ?_
    obtain ⟨⟨-, fa, va⟩, -⟩ := h1
    obtain ⟨⟨-, fb, vb⟩, -⟩ := h2
    rw [hX] at fa fb va vb
    have fx : ai_fr shW ws wc := ((fr_sub (fun cc j h q hq => by
        have h3 := h (45, 0, 40) (by unfold shW; simp)
        have h4 := h (46, 0, 40) (by unfold shW; simp)
        have h5 := h (47, 0, 40) (by unfold shW; simp)
        have h6 := h (48, 0, 40) (by unfold shW; simp)
        rw [List.mem_singleton.mp hq]
        dsimp only at h3 h4 h5 h6 ⊢
        omega) fa).tr (fr_sub (fun cc j h q hq => by
        have h3 := h (59, 0, 160) (by unfold shW; simp)
        rw [List.mem_singleton.mp hq]
        dsimp only at h3 ⊢
        omega) fb)).tr (n0 hf)
    refine Inv.sheets hb hp hi0 hi1 hwc fx (by decide) ⟨⟨Lk, Nk, fun j x => if j = kn ∧ x = X then (ly_v La (sx (i + 3))).toInt else Xk j x, fun j hj => ?_, fun j hj => ?_⟩, hse.fr fx (by decide)⟩
    · obtain ⟨x1, x2, x3, x4⟩ := hcs j hj
      refine ⟨((x1.fr fa (nP (Or.inl (by omega)))).fr fb (nM (Or.inl (by omega)))).fr hf rfl, ((x2.fr fa (nP (Or.inl (by omega)))).fr fb (nM (Or.inl (by omega)))).fr hf rfl, x3, fun x hx => ?_⟩
      dsimp only
      by_cases hjk : j = kn ∧ x = X
      · rw [if_pos hjk, hjk.1, hjk.2]
        exact (va.fr fb (nM (Or.inl (by omega)))).fr hf rfl
      · rw [if_neg hjk]
        exact (((x4 x hx).fr fa (nP (by omega))).fr fb (nM (Or.inl (by omega)))).fr hf rfl
    · obtain ⟨x1, x2, x3, x4⟩ := hms j hj
      refine ⟨((x1.fr fa (nP (Or.inl (by omega)))).fr fb (nM (Or.inl (by omega)))).fr hf rfl, ((x2.fr fa (nP (Or.inl (by omega)))).fr fb (nM (Or.inl (by omega)))).fr hf rfl, x3, fun x hx => ?_⟩
      dsimp only
      by_cases hjk : j = kn ∧ x = X
      · rw [if_pos hjk, hjk.1, hjk.2]
        exact vb.fr hf rfl
      · rw [if_neg hjk]
        have := x3.1
        exact (((x4 x hx).fr fa (nP (Or.inl (by omega)))).fr fb (nM (Or.inr (by omega)))).fr hf rfl
end LYW
