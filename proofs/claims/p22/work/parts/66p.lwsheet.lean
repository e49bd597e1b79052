/-! sheet, in the law -/
section SHL
variable {ad : List Nat} {p : Program} {l : Launch} {e : Env} {R : Room} {s : State} {m : MethodId} {args : Array Value} {below : List Frame} {meth : Method} {c : Code} {D : va_G} {tys : ai_ty} {A : Nat → Prop} {b L : Nat} {sx : Nat → Int32} {cells slots : Nat} {Q : State → Prop}
/-- one sheet becomes another; all else stays -/
theorem Inv.sheets {ws ws' : va_W} {W : List (Nat × Nat × Nat)} {t : Nat} {g : Nat → Int} {u q y : Int} {n : Nat} {k0 k1 : Int} {E : Nat → Int} {a : Nat} {P : Nat → Int} (hb : baI ws t g u q y n k0 k1) (hp : pgI ws 1 0 n E a P) (hi0 : k0 = 1 → imI ws 0 n) (hi1 : k1 = 1 → imI ws 1 n) (hw' : ai_wd tb_TY ad tys ws') (hf : ai_fr W ws ws') (hW : ((nwr W baL && (nowr W 27 && nowr W 52)) && (((evw W 1 && nowr W 6) && pgw W 0) && (((evw W 13 && nowr W 18) && pgw W 27) && ((evw W 19 && nowr W 24) && pgw W 54)))) = true) (hs : shI ws') : Inv ws' := by
  obtain ⟨wA, wB⟩ := band hW
  obtain ⟨w1, w2⟩ := band wA
  obtain ⟨wC, wD⟩ := band wB
  obtain ⟨w3, w4⟩ := band wC
  obtain ⟨wE, wF⟩ := band wD
  obtain ⟨w5, w6⟩ := band wE
  obtain ⟨w7, w8⟩ := band wF
  have hn := hb.2.2.2.2.1.2.2
  exact ⟨t, g, u, q, y, n, k0, k1, E, a, P, hb.fr hw' hf w1 w2, hp.fr hn hf w3 w4, fun h => (hi0 h).fr hn hf w5 w6, fun h => (hi1 h).fr hn hf w7 w8, hs⟩
def shW : List (Nat × Nat × Nat) := [(42, 0, 4), (43, 0, 4), (45, 0, 40), (46, 0, 40), (47, 0, 40), (48, 0, 40), (57, 0, 4), (58, 0, 4), (59, 0, 160)]
set_option maxRecDepth 20000 in
set_option maxHeartbeats 1000000 in
theorem lw_sheet {i q0 q49 : Nat} {ws : va_W} (C : ai_cx tb_m169 11 p R s m args c D tys A b L sx cells slots) (e0 : ad[0]? = some q0) (e49 : ad[49]? = some q49) (hi : i + 5 ≤ L) (hL : L ≤ 2560) (hw : ai_wd tb_TY ad tys ws) (hI : Inv ws)
    (k : ∀ wc, ai_wd tb_TY ad tys wc → Inv wc → hG tb_m169 p l e R s m args below meth c D A cells slots Q 1297 [(0, .ref b), (1, .ref q0), (2, .ref q49), (3, .int (nI i))] [] wc) : hG tb_m169 p l e R s m args below meth c D A cells slots Q 1122 [(0, .ref b), (1, .ref q0), (2, .ref q49), (3, .int (nI i))] [] ws := by
  have r1 : ∀ pcr ∈ [23, 30, 42], decode tb_m89.2.1 pcr = .ok (.ireturn, 1) := by
    intro pcr hpc
    simp only [List.mem_cons, List.not_mem_nil, or_false] at hpc
    rcases hpc with rfl | rfl | rfl
    · exact tv_m89.1.1.1 (23, .ireturn, 1) (List.mem_of_getElem? (i := 12) rfl)
    · exact tv_m89.1.1.1 (30, .ireturn, 1) (List.mem_of_getElem? (i := 16) rfl)
    · exact tv_m89.1.1.1 (42, .ireturn, 1) (List.mem_of_getElem? (i := 24) rfl)
  have r2 : ∀ pcr ∈ [31, 38, 83], decode tb_m164.2.1 pcr = .ok (.ireturn, 1) := by
    intro pcr hpc
    simp only [List.mem_cons, List.not_mem_nil, or_false] at hpc
    rcases hpc with rfl | rfl | rfl
    · exact tv_m164.1.1.1 (31, .ireturn, 1) (List.mem_of_getElem? (i := 16) rfl)
    · exact tv_m164.1.1.1 (38, .ireturn, 1) (List.mem_of_getElem? (i := 20) rfl)
    · exact tv_m164.1.1.1 (83, .ireturn, 1) (List.mem_of_getElem? (i := 48) rfl)
  have b1 := ai_irg (sx (i + 1))
  have b2 := ai_irg (sx (i + 2))
  have b3 := ai_irg (sx (i + 3))
  have no : ∀ {pc1 pc2 : Nat} {z : Int}, pc1 ∈ [23, 30, 42] → pc2 ∈ [31, 38, 83] → (∀ {p : Program} {e : Env} {R : Room} {s : State} {m : MethodId} {args : Array Value} {below : List Frame} {meth : Method} {c : Code} {Q : State → Prop} (w : va_W), ai_wd tb_TY ad tys w → ai_cx tb_m89 10 p R s m args c D tys A b L sx 0 0 → (∀ (ws' : va_W) (z' : Int32) (lv' : List (Nat × Value)), ai_wd tb_TY ad tys ws' → ai_fr [] w ws' → z'.toInt = z → hG tb_m89 p l e R s m args below meth c D A 0 0 Q pc1 lv' [.int z'] ws') → hG tb_m89 p l e R s m args below meth c D A 0 0 Q 0 [(0, .ref q0), (1, .int (sx (i + 1))), (2, .int (sx (i + 2))), (3, .int (sx (i + 3)))] [] w) → (∀ {p : Program} {e : Env} {R : Room} {s : State} {m : MethodId} {args : Array Value} {below : List Frame} {meth : Method} {c : Code} {Q : State → Prop} (w : va_W), ai_wd tb_TY ad tys w → ai_cx tb_m164 10 p R s m args c D tys A b L sx 0 0 → (∀ (ws' : va_W) (z' : Int32) (lv' : List (Nat × Value)), ai_wd tb_TY ad tys ws' → ai_fr [] w ws' → z'.toInt = z → hG tb_m164 p l e R s m args below meth c D A 0 0 Q pc2 lv' [.int z'] ws') → hG tb_m164 p l e R s m args below meth c D A 0 0 Q 0 [(0, .ref q49), (1, .int (sx (i + 1))), (2, .int (sx (i + 2))), (3, .int (sx (i + 3)))] [] w) → hG tb_m169 p l e R s m args below meth c D A cells slots Q 1122 [(0, .ref b), (1, .ref q0), (2, .ref q49), (3, .int (nI i))] [] ws := fun {pc1 pc2 z} hp1 hp2 hc1 hc2 => law2 (P1 := fun w z1 => ai_wd tb_TY ad tys w ∧ ai_fr [] ws w ∧ z1.toInt = z) (P2 := fun wa _ w z1 => ai_wd tb_TY ad tys w ∧ ai_fr [] wa w ∧ z1.toInt = z) (rets1 := [23, 30, 42]) (rets2 := [31, 38, 83]) C e0 e49 hi hL hw (n := 3) (cmp := false) (by decide) lr_sheetA lr_sheetB lr_sheetC (q1 := (147, 0, 89, 3, 5)) (tv_m169.1.1.1 (1138, .invokevirtual 147, 3) (List.mem_of_getElem? (i := 772) rfl)) (tv_m169.2 _ (List.mem_of_getElem? (i := 64) rfl)) rfl rfl rfl rfl (by decide) (Nat.le_of_ble_eq_true rfl) rfl rfl (q2 := (150, 0, 164, 3, 6)) (tv_m169.1.1.1 (1158, .invokevirtual 150, 3) (List.mem_of_getElem? (i := 790) rfl)) (tv_m169.2 _ (List.mem_of_getElem? (i := 65) rfl)) rfl rfl rfl rfl (by decide) (Nat.le_of_ble_eq_true rfl) rfl rfl r1 r2 (fun w hw' hf C2 kk => hc1 w hw' C2 (fun w' z' lv h1 h2 h3 => kk pc1 w' z' lv hp1 ⟨h1, hf.tr h2, h3⟩)) (fun wa z1 h => h.1) (fun wa z1 w hP1 hw' hf C2 kk => hc2 w hw' C2 (fun w' z' lv h1 h2 h3 => kk pc2 w' z' lv hp2 ⟨h1, hf.tr h2, h3⟩)) (fun wa z1 wb z2 h1 h2 => ⟨h2.1, fun _ => Int32.toInt_inj.mp (by rw [h1.2.2, h2.2.2])⟩) (fun wa z1 wb z2 wc h1 h2 hwc hf => k wc hwc (hI.fr0 hwc ((h1.2.1.tr h2.2.1).tr hf)))
  by_cases c1 : (sx (i + 1)).toInt < 0
  · exact no (pc1 := 23) (pc2 := 31) (by decide) (by decide) (fun w hw' C2 kk => s3_ret rfl rfl C2 hw' e0 shc_b1 (by omega) (by omega) (by omega) kk) (fun w hw' C2 kk => s3_ret rfl rfl C2 hw' e49 shm_b1 (by omega) (by omega) (by omega) kk)
  by_cases c2 : 3 < (sx (i + 1)).toInt
  · exact no (pc1 := 23) (pc2 := 31) (by decide) (by decide) (fun w hw' C2 kk => s3_ret rfl rfl C2 hw' e0 shc_b2 (by omega) (by omega) (by omega) kk) (fun w hw' C2 kk => s3_ret rfl rfl C2 hw' e49 shm_b2 (by omega) (by omega) (by omega) kk)
  by_cases c3 : (sx (i + 2)).toInt < 0
  · exact no (pc1 := 23) (pc2 := 31) (by decide) (by decide) (fun w hw' C2 kk => s3_ret rfl rfl C2 hw' e0 shc_b3 (by omega) (by omega) (by omega) kk) (fun w hw' C2 kk => s3_ret rfl rfl C2 hw' e49 shm_b3 (by omega) (by omega) (by omega) kk)
  by_cases c4 : 2 < (sx (i + 2)).toInt
  · exact no (pc1 := 23) (pc2 := 31) (by decide) (by decide) (fun w hw' C2 kk => s3_ret rfl rfl C2 hw' e0 shc_b4 (by omega) (by omega) (by omega) kk) (fun w hw' C2 kk => s3_ret rfl rfl C2 hw' e49 shm_b4 (by omega) (by omega) (by omega) kk)
  by_cases c5 : 40 < (sx (i + 3)).toInt
  · exact no (pc1 := 23) (pc2 := 31) (by decide) (by decide) (fun w hw' C2 kk => s3_ret rfl rfl C2 hw' e0 shc_b5 (by omega) (by omega) (by omega) kk) (fun w hw' C2 kk => s3_ret rfl rfl C2 hw' e49 shm_b5 (by omega) (by omega) (by omega) kk)
  by_cases c6 : (sx (i + 3)).toInt < 0
  · exact no (pc1 := 30) (pc2 := 38) (by decide) (by decide) (fun w hw' C2 kk => s3_ret rfl rfl C2 hw' e0 shc_n (by omega) (by omega) (by omega) kk) (fun w hw' C2 kk => s3_ret rfl rfl C2 hw' e49 shm_n (by omega) (by omega) (by omega) kk)
  obtain ⟨kn, hkn⟩ : ∃ kn : Nat, (sx (i + 1)).toInt = (kn : Int) := ⟨(sx (i + 1)).toInt.toNat, by omega⟩
  obtain ⟨N, hN⟩ : ∃ N : Nat, (sx (i + 3)).toInt = (N : Int) := ⟨(sx (i + 3)).toInt.toNat, by omega⟩
  have hk4 : kn < 4 := by omega
  have hla : 0 ≤ (sx (i + 2)).toInt ∧ (sx (i + 2)).toInt ≤ 2 := by omega
  obtain ⟨a41, -, -, e41, -⟩ := hw.get (c := 41) rfl
  obtain ⟨a59, -, -, e59, -⟩ := hw.get (c := 59) rfl
  obtain ⟨aR, -, -, eR, -⟩ := hw.get (cd_T hk4)
  obtain ⟨t, g, u, q, y, n, j0, j1, E, a, P, hb, hp, hi0, hi1, hs⟩ := hI
  have n0 : ∀ {u v : va_W} {Wx : List (Nat × Nat × Nat)}, ai_fr [] u v → ai_fr Wx u v := fun h => fr_sub (V := []) (fun _ _ _ q hq => by cases hq) h
  refine law2 (P1 := fun w z1 => sn_P ad tys kn (sx (i + 2)).toInt N ws w ∧ z1.toInt = 1) (P2 := fun wa _ w z1 => shm_P ad tys kn (sx (i + 2)).toInt N wa w ∧ z1.toInt = 1) (rets1 := [23, 30, 42]) (rets2 := [31, 38, 83]) C e0 e49 hi hL hw (n := 3) (cmp := false) (by decide) lr_sheetA lr_sheetB lr_sheetC (q1 := (147, 0, 89, 3, 5)) (tv_m169.1.1.1 (1138, .invokevirtual 147, 3) (List.mem_of_getElem? (i := 772) rfl)) (tv_m169.2 _ (List.mem_of_getElem? (i := 64) rfl)) rfl rfl rfl rfl (by decide) (Nat.le_of_ble_eq_true rfl) rfl rfl (q2 := (150, 0, 164, 3, 6)) (tv_m169.1.1.1 (1158, .invokevirtual 150, 3) (List.mem_of_getElem? (i := 790) rfl)) (tv_m169.2 _ (List.mem_of_getElem? (i := 65) rfl)) rfl rfl rfl rfl (by decide) (Nat.le_of_ble_eq_true rfl) rfl rfl r1 r2 ?_ (fun wa z1 h => h.1.1) ?_ (fun wa z1 wb z2 h1 h2 => ⟨h2.1.1, fun _ => Int32.toInt_inj.mp (by rw [h1.2, h2.2])⟩) ?_
  · intro p e R s m args below meth c Q w hw' hf C2 kk
    exact shc_all C2 hw' e0 e41 eR hk4 (by omega) hkn hla hN (fun w' z' lv hP hz => kk 42 w' z' lv (by decide) ⟨⟨hP.1, (n0 hf).tr hP.2.1, hP.2.2⟩, hz⟩)
  · intro p e R s m args below meth c Q wa z1 w hP1 hw' hf C2 kk
    exact shm_all C2 hw' e49 e59 hk4 (by omega) hkn hla hN (fun w' z' lv hP hz => kk 83 w' z' lv (by decide) ⟨⟨hP.1, (n0 hf).tr hP.2.1, hP.2.2⟩, hz⟩)
  · intro wa z1 wb z2 wc h1 h2 hwc hf
    refine k wc hwc ?_
    obtain ⟨⟨-, fa, v42, v43, vx⟩, -⟩ := h1
    obtain ⟨⟨-, fb, w57, w58, wx⟩, -⟩ := h2
    have fx : ai_fr shW ws wc := ((fr_sub (fun cc j h q hq => by
        have h1 := h (42, 0, 4) (by unfold shW; simp)
        have h2 := h (43, 0, 4) (by unfold shW; simp)
        have h3 := h (45, 0, 40) (by unfold shW; simp)
        have h4 := h (46, 0, 40) (by unfold shW; simp)
        have h5 := h (47, 0, 40) (by unfold shW; simp)
        have h6 := h (48, 0, 40) (by unfold shW; simp)
        simp only [List.mem_cons, List.not_mem_nil, or_false] at hq
        rcases hq with rfl | rfl | rfl <;> dsimp only at h1 h2 h3 h4 h5 h6 ⊢ <;> omega) fa).tr (fr_sub (fun cc j h q hq => by
        have h1 := h (57, 0, 4) (by unfold shW; simp)
        have h2 := h (58, 0, 4) (by unfold shW; simp)
        have h3 := h (59, 0, 160) (by unfold shW; simp)
        simp only [List.mem_cons, List.not_mem_nil, or_false] at hq
        rcases hq with rfl | rfl | rfl <;> dsimp only at h1 h2 h3 ⊢ <;> omega) fb)).tr (n0 hf)
    have na : ∀ {cc i : Nat}, cc ≠ 42 → cc ≠ 43 → cc ≠ 45 + kn → ai_wr [(42, kn, kn + 1), (43, kn, kn + 1), (45 + kn, 0, 40)] cc i i = false := fun {cc i} x1 x2 x3 => wr_no fun q hq => by
      simp only [List.mem_cons, List.not_mem_nil, or_false] at hq
      rcases hq with rfl | rfl | rfl <;> dsimp only <;> omega
    have nb : ∀ {cc i : Nat}, cc ≠ 57 → cc ≠ 58 → cc ≠ 59 → ai_wr [(57, kn, kn + 1), (58, kn, kn + 1), (59, 40 * kn, 40 * kn + 40)] cc i i = false := fun {cc i} x1 x2 x3 => wr_no fun q hq => by
      simp only [List.mem_cons, List.not_mem_nil, or_false] at hq
      rcases hq with rfl | rfl | rfl <;> dsimp only <;> omega
    have pa : ∀ {cc j : Nat}, (cc = 42 ∨ cc = 43) → j ≠ kn → ai_wr [(42, kn, kn + 1), (43, kn, kn + 1), (45 + kn, 0, 40)] cc j j = false := fun {cc j} x1 x2 => wr_no fun q hq => by
      simp only [List.mem_cons, List.not_mem_nil, or_false] at hq
      rcases hq with rfl | rfl | rfl <;> dsimp only <;> omega
    have pb : ∀ {cc j : Nat}, (cc = 57 ∨ cc = 58) → j ≠ kn → ai_wr [(57, kn, kn + 1), (58, kn, kn + 1), (59, 40 * kn, 40 * kn + 40)] cc j j = false := fun {cc j} x1 x2 => wr_no fun q hq => by
      simp only [List.mem_cons, List.not_mem_nil, or_false] at hq
      rcases hq with rfl | rfl | rfl <;> dsimp only <;> omega
    obtain ⟨⟨Lk, Nk, Xk, hcs, hms⟩, hse⟩ := hs
    refine Inv.sheets hb hp hi0 hi1 hwc fx (by decide) ⟨⟨fun j => if j = kn then (sx (i + 2)).toInt else Lk j, fun j => if j = kn then N else Nk j, fun j => if j = kn then fun _ => 0 else Xk j, fun j hj => ?_, fun j hj => ?_⟩, hse.fr fx (by decide)⟩
    · by_cases hjk : j = kn
      · subst hjk
        dsimp only
        rw [if_pos rfl, if_pos rfl, if_pos rfl]
        exact ⟨(v42.fr fb (nb (by omega) (by omega) (by omega))).fr hf rfl, (v43.fr fb (nb (by omega) (by omega) (by omega))).fr hf rfl, ⟨by omega, Or.inr hla⟩, fun i hi => ((vx i hi).fr fb (nb (by omega) (by omega) (by omega))).fr hf rfl⟩
      · obtain ⟨x1, x2, x3, x4⟩ := hcs j hj
        dsimp only
        rw [if_neg hjk, if_neg hjk, if_neg hjk]
        exact ⟨((x1.fr fa (pa (Or.inl rfl) hjk)).fr fb (nb (by omega) (by omega) (by omega))).fr hf rfl, ((x2.fr fa (pa (Or.inr rfl) hjk)).fr fb (nb (by omega) (by omega) (by omega))).fr hf rfl, x3, fun i hi => (((x4 i hi).fr fa (na (by omega) (by omega) (by omega))).fr fb (nb (by omega) (by omega) (by omega))).fr hf rfl⟩
    · by_cases hjk : j = kn
      · subst hjk
        simp only [eq_self, if_true]
        rw [if_neg (by omega)]
        exact ⟨w57.fr hf rfl, w58.fr hf rfl, ⟨by omega, Or.inr hla⟩, fun i hi => (wx i hi).fr hf rfl⟩
      · obtain ⟨x1, x2, x3, x4⟩ := hms j hj
        simp only [if_neg hjk]
        exact ⟨((x1.fr fa (na (by omega) (by omega) (by omega))).fr fb (pb (Or.inl rfl) hjk)).fr hf rfl, ((x2.fr fa (na (by omega) (by omega) (by omega))).fr fb (pb (Or.inr rfl) hjk)).fr hf rfl, x3, fun i hi => (((x4 i hi).fr fa (na (by omega) (by omega) (by omega))).fr fb (wr_no fun q hq => by
          simp only [List.mem_cons, List.not_mem_nil, or_false] at hq
          have := x3.1
          rcases hq with rfl | rfl | rfl <;> dsimp only <;> omega)).fr hf rfl⟩
end SHL
