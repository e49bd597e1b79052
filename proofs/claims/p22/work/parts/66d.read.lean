/-! read, in the law -/
def baG : List (Nat × Nat) := [(26, 1), (49, 7), (0, 9), (49, 8), (34, 0), (49, 19), (49, 1), (25, 0), (56, 0), (25, 1), (56, 1)]
def wrG (W : List (Nat × Nat × Nat)) : Bool := (nwr W baG && (nowr W 27 && nowr W 52)) && ((((evw W 13 && nowr W 18) && pgw W 27) && ((evw W 19 && nowr W 24) && pgw W 54)) && ((nowr W 42 && (nowr W 43 && (nowr W 45 && (nowr W 46 && (nowr W 47 && nowr W 48))))) && shB W))
theorem Inv.gen {W : List (Nat × Nat × Nat)} {ad : List Nat} {tys : ai_ty} {ws ws' : va_W} {t : Nat} {g : Nat → Int} {u q y y' : Int} {n : Nat} {k0 k1 : Int} {E' : Nat → Int} {a : Nat} {P : Nat → Int} (hb : baI ws t g u q y n k0 k1) (hi0 : k0 = 1 → imI ws 0 n) (hi1 : k1 = 1 → imI ws 1 n) (hs : shI ws) (hw' : ai_wd tb_TY ad tys ws') (hf : ai_fr W ws ws') (hW : wrG W = true) (v10 : vi ws' 0 10 y' ∧ vi ws' 49 24 y') (v1 : vi ws' 1 0 n) (hp : pgI ws' 1 0 n E' a P) : Inv ws' := by
  unfold wrG at hW
  obtain ⟨wA, wD⟩ := band hW
  obtain ⟨w1, w2⟩ := band wA
  obtain ⟨w27, w52⟩ := band w2
  obtain ⟨wF, wG⟩ := band wD
  obtain ⟨wH, wI⟩ := band wF
  obtain ⟨w6, w7⟩ := band wH
  obtain ⟨w8, w9⟩ := band wI
  obtain ⟨w10, w11⟩ := band wG
  have hn := hb.2.2.2.2.1.2.2
  obtain ⟨⟨⟨a1, a2⟩, a3, a4⟩, ⟨b1, b2⟩, ⟨c1, c2⟩, -, ⟨e1, e2, e3⟩, ⟨f1, f2⟩, g1, g2⟩ := hb
  have w : ∀ {c i : Nat}, (c, i) ∈ baG → ai_wr W c i i = false := fun hm => nwr_at w1 hm
  exact ⟨t, g, u, q, y', n, k0, k1, E', a, P, ⟨⟨⟨a1.fr hf (w (by decide)), a2.fr hf (w (by decide))⟩, a3, a4.fr a3 hw' hf w27 w52⟩, ⟨b1.fr hf (w (by decide)), b2.fr hf (w (by decide))⟩, ⟨c1.fr hf (w (by decide)), c2.fr hf (w (by decide))⟩, v10, ⟨v1, e2.fr hf (w (by decide)), e3⟩, ⟨f1.fr hf (w (by decide)), f2.fr hf (w (by decide))⟩, g1.fr hf (w (by decide)), g2.fr hf (w (by decide))⟩, hp, fun h => (hi0 h).fr hn hf w6 w7, fun h => (hi1 h).fr hn hf w8 w9, hs.fr hf w10 w11⟩
section LWR
variable {ad : List Nat} {p : Program} {l : Launch} {e : Env} {R : Room} {s : State} {m : MethodId} {args : Array Value} {below : List Frame} {meth : Method} {c : Code} {D : va_G} {tys : ai_ty} {A : Nat → Prop} {b L : Nat} {sx : Nat → Int32} {cells slots : Nat} {Q : State → Prop}
theorem cd_pre {n : Nat} {E : Nat → Int} {ln : Int} {len : Nat} {X : Nat → Int} {k la f mm : Int} {ws w w' : va_W} {z : Int32} (hf : ai_fr [] ws w) (h : cd_P ad tys n E ln len X k la f mm w w' z) : cd_P ad tys n E ln len X k la f mm ws w' z := by
  refine ⟨h.1, fun hok => ?_, fun hno => ⟨hf.tr (h.2.2 hno).1, (h.2.2 hno).2⟩⟩
  have h1 := h.2.1 hok
  generalize rd n ln la f len X mm.toNat 0 E = res at h1 ⊢
  match res, h1 with
  | .inl i, h1 => exact ⟨(wsub_ok (V := []) rfl hf).tr h1.1, h1.2⟩
  | .inr (E', i, y), h1 => exact ⟨(wsub_ok (V := []) rfl hf).tr h1.1, h1.2.1, h1.2.2.1, h1.2.2.2.1, fun z hz => h1.2.2.2.2.1 z (hz.fr hf rfl), fun j z hj hz => h1.2.2.2.2.2.1 j z hj (hz.fr hf rfl), h1.2.2.2.2.2.2⟩
theorem cd_fr {n : Nat} {E : Nat → Int} {ln : Int} {len : Nat} {X : Nat → Int} {k la f mm : Int} {ws w' : va_W} {z : Int32} (h : cd_P ad tys n E ln len X k la f mm ws w' z) : ai_fr cdW ws w' := by
  by_cases hok : rd_ok k la mm
  · have h1 := h.2.1 hok
    generalize rd n ln la f len X mm.toNat 0 E = res at h1
    match res, h1 with
    | .inl i, h1 => exact wsub_ok (V := bc_W 7) (by decide) h1.1
    | .inr (E', i, y), h1 => exact h1.1
  · exact wsub_ok (V := []) rfl (h.2.2 hok).1
theorem md_pre {n : Nat} {E : Nat → Int} {ln : Int} {len : Nat} {X : Nat → Int} {k la f mm : Int} {ws w w' : va_W} {z : Int32} (hf : ai_fr [] ws w) (h : md_P ad tys n E ln len X k la f mm w w' z) : md_P ad tys n E ln len X k la f mm ws w' z := by
  refine ⟨h.1, fun hok => ?_, fun hno => ⟨hf.tr (h.2.2 hno).1, (h.2.2 hno).2⟩⟩
  have h1 := h.2.1 hok
  generalize rd n ln la f len X mm.toNat 0 E = res at h1 ⊢
  match res, h1 with
  | .inl i, h1 => exact ⟨(wsub_ok (V := []) rfl hf).tr h1.1, fun j z hj hz => h1.2.1 j z hj (hz.fr hf rfl), h1.2.2⟩
  | .inr (E', i, y), h1 => exact ⟨(wsub_ok (V := []) rfl hf).tr h1.1, h1.2⟩
set_option maxHeartbeats 1000000 in
set_option maxRecDepth 20000 in
theorem lw_read {i q0 q49 : Nat} {ws : va_W} (C : ai_cx tb_m169 11 p R s m args c D tys A b L sx cells slots) (e0 : ad[0]? = some q0) (e49 : ad[49]? = some q49) (hi : i + 5 ≤ L) (hL : L ≤ 2560) (hw : ai_wd tb_TY ad tys ws) (hI : Inv ws)
    (k : ∀ wc, ai_wd tb_TY ad tys wc → Inv wc → hG tb_m169 p l e R s m args below meth c D A cells slots Q 1297 [(0, .ref b), (1, .ref q0), (2, .ref q49), (3, .int (nI i))] [] wc) : hG tb_m169 p l e R s m args below meth c D A cells slots Q 1208 [(0, .ref b), (1, .ref q0), (2, .ref q49), (3, .int (nI i))] [] ws := by
  obtain ⟨t, g, u, q, y, n, j0, j1, E, a, P, hb, hp, hi0, hi1, hs⟩ := hI
  obtain ⟨hn1, hn2, hn4⟩ := hb.2.2.2.2.1
  obtain ⟨hc, he, hg⟩ := hp.1
  obtain ⟨hp3, hp26, hp8⟩ := hp.2.1
  have hpl := hp.2.2
  obtain ⟨Lk, Nk, Xk, hcs, hms⟩ := hs.1
  obtain ⟨a1, -, -, e1, -⟩ := hw.get (c := 1) rfl
  obtain ⟨a7, -, -, e7, -⟩ := hw.get (c := 7) rfl
  refine law2 (P1 := fun w z => cd_P ad tys n E (Lk (sx (i + 1)).toInt.toNat) (Nk (sx (i + 1)).toInt.toNat) (Xk (sx (i + 1)).toInt.toNat) (sx (i + 1)).toInt (sx (i + 2)).toInt (sx (i + 3)).toInt (sx (i + 4)).toInt ws w z) (P2 := fun wa _ w z => md_P ad tys n E (Lk (sx (i + 1)).toInt.toNat) (Nk (sx (i + 1)).toInt.toNat) (Xk (sx (i + 1)).toInt.toNat) (sx (i + 1)).toInt (sx (i + 2)).toInt (sx (i + 3)).toInt (sx (i + 4)).toInt wa w z) (rets1 := [28, 114, 153]) (rets2 := [38, 163, 181]) C e0 e49 hi hL hw (n := 4) (cmp := false) (by decide) lr_readA lr_readB lr_readC (q1 := (155, 0, 91, 4, 5)) (tv_m169.1.1.1 (1229, .invokevirtual 155, 3) (List.mem_of_getElem? (i := 851) rfl)) (tv_m169.2 _ (List.mem_of_getElem? (i := 68) rfl)) rfl rfl rfl rfl (by decide) (Nat.le_of_ble_eq_true rfl) rfl rfl (q2 := (158, 0, 166, 4, 6)) (tv_m169.1.1.1 (1254, .invokevirtual 158, 3) (List.mem_of_getElem? (i := 874) rfl)) (tv_m169.2 _ (List.mem_of_getElem? (i := 69) rfl)) rfl rfl rfl rfl (by decide) (Nat.le_of_ble_eq_true rfl) rfl rfl ?_ ?_ ?_ (fun wa z1 h => h.1) ?_ ?_ ?_
  · intro pcr hpc
    rcases List.mem_cons.mp hpc with rfl | hpc
    · exact tv_m91.1.1.1 (28, .ireturn, 1) (List.mem_of_getElem? (i := 14) rfl)
    · rcases List.mem_cons.mp hpc with rfl | hpc
      · exact tv_m91.1.1.1 (114, .ireturn, 1) (List.mem_of_getElem? (i := 60) rfl)
      · rw [List.mem_singleton.mp hpc]
        exact tv_m91.1.1.1 (153, .ireturn, 1) (List.mem_of_getElem? (i := 78) rfl)
  · intro pcr hpc
    rcases List.mem_cons.mp hpc with rfl | hpc
    · exact tv_m166.1.1.1 (38, .ireturn, 1) (List.mem_of_getElem? (i := 19) rfl)
    · rcases List.mem_cons.mp hpc with rfl | hpc
      · exact tv_m166.1.1.1 (163, .ireturn, 1) (List.mem_of_getElem? (i := 92) rfl)
      · rw [List.mem_singleton.mp hpc]
        exact tv_m166.1.1.1 (181, .ireturn, 1) (List.mem_of_getElem? (i := 100) rfl)
  · intro p e R s m args below meth c Q w hw' hf C2 kk
    exact cd_all C2 hw' e0 e1 e7 hn4 (hn1.fr hf rfl) (hc.fr hf rfl) hg (hcs.fr hf rfl) (fun pcr w' z lv hpr hP => kk pcr w' z lv hpr (cd_pre hf hP))
  · intro p e R s m args below meth c Q wa z1 w hP1 hw' hf C2 kk
    have hfa := cd_fr hP1
    exact md_all C2 hw' e49 hn4 ((hn2.fr hfa rfl).fr hf rfl) ((he.fr hn4 hfa (fun _ _ => rfl)).fr hn4 hf (fun _ _ => rfl)) hg ((hms.fr hfa rfl).fr hf rfl) (fun pcr w' z lv hpr hP => kk pcr w' z lv hpr (md_pre hf hP))
  · intro wa z1 wb z2 h1 h2
    refine ⟨h2.1, fun _ => ?_⟩
    by_cases hok : rd_ok (sx (i + 1)).toInt (sx (i + 2)).toInt (sx (i + 4)).toInt
    · have g1 := h1.2.1 hok
      have g2 := h2.2.1 hok
      generalize rd n (Lk (sx (i + 1)).toInt.toNat) (sx (i + 2)).toInt (sx (i + 3)).toInt (Nk (sx (i + 1)).toInt.toNat) (Xk (sx (i + 1)).toInt.toNat) (sx (i + 4)).toInt.toNat 0 E = res at g1 g2
      match res, g1, g2 with
      | .inl j, g1, g2 => exact Int32.toInt_inj.mp (by rw [g1.2, g2.2.2])
      | .inr (E', j, y'), g1, g2 => exact Int32.toInt_inj.mp (by rw [g1.2.2.2.2.2.2.2, g2.2.2.2])
    · exact Int32.toInt_inj.mp (by rw [(h1.2.2 hok).2, (h2.2.2 hok).2])
  · intro wa z1 wb z2 wc h1 h2 hwc hf
    refine k wc hwc ?_
    by_cases hok : rd_ok (sx (i + 1)).toInt (sx (i + 2)).toInt (sx (i + 4)).toInt
    · have g1 := h1.2.1 hok
      have g2 := h2.2.1 hok
      generalize rd n (Lk (sx (i + 1)).toInt.toNat) (sx (i + 2)).toInt (sx (i + 3)).toInt (Nk (sx (i + 1)).toInt.toNat) (Xk (sx (i + 1)).toInt.toNat) (sx (i + 4)).toInt.toNat 0 E = res at g1 g2
      match res, g1, g2 with
      | .inl j, ⟨f1, _⟩, ⟨f2, v2, _⟩ =>
        have fa : ai_fr (bc_W 7 ++ [(50, 0, 27), (50, 81, 108)]) ws wc := ((wsub_ok (V := bc_W 7) (by decide) f1).tr (wsub_ok (V := [(50, 0, 27), (50, 81, 108)]) (by decide) f2)).tr (wsub_ok (V := []) rfl hf)
        have g50 : ∀ (j : Nat) (z : Int), j < 27 → vi ws 50 j z → vi wc 50 j z := fun j z hj hz => (v2 j z hj (hz.fr f1 rfl)).fr hf rfl
        refine Inv.gen (y' := y) hb hi0 hi1 hs hwc fa (by decide) ⟨hb.2.2.2.1.1.fr fa (by decide), hb.2.2.2.1.2.fr fa (by decide)⟩ (hn1.fr fa (by decide)) (E' := E) (a := a) (P := P) ⟨⟨hc.fr fa (by decide), ⟨fun i hi => ?_, g50 16 _ (by decide) he.2.1, g50 17 _ (by decide) he.2.2⟩, hg⟩, ⟨hp3.fr fa (by decide), g50 26 _ (by decide) hp26, hp8⟩, fun j hj => ?_⟩
        · obtain ⟨x1, x2, x3, x4⟩ := he.1 i hi
          exact ⟨g50 i _ (by omega) x1, g50 (4 + i) _ (by omega) x2, g50 (8 + i) _ (by omega) x3, g50 (12 + i) _ (by omega) x4⟩
        · obtain ⟨x1, x2, x3⟩ := hpl j hj
          exact ⟨x1.fr fa (nowr_ok (c := 6) (by decide) j j), g50 (18 + j) _ (by omega) x2, x3⟩
      | .inr (E', j, y'), ⟨f1, c1, hg', n1, v13, v6, v010, _⟩, ⟨f2, p2, v49, _⟩ =>
        have f2c : ai_fr mdW wa wc := f2.tr (wsub_ok (V := []) rfl hf)
        have fa : ai_fr (cdW ++ mdW) ws wc := (wsub_ok (V := cdW) (by decide) f1).tr (wsub_ok (V := mdW) (by decide) f2c)
        refine Inv.gen (y' := y') hb hi0 hi1 hs hwc fa (by decide) ⟨v010.fr f2c (by decide), v49.fr hf rfl⟩ (n1.fr f2c (by decide)) (E' := E') (a := a) (P := P) ⟨⟨c1.fr f2c (by decide), p2.fr hn4 hf (fun _ _ => rfl), hg'⟩, ⟨(v13 _ hp3).fr f2c (by decide), hp26.fr fa (by decide), hp8⟩, fun j hj => ?_⟩
        obtain ⟨x1, x2, x3⟩ := hpl j hj
        refine ⟨(v6 j _ (by omega) x1).fr f2c (nowr_ok (c := 6) (by decide) j j), (x2.fr f1 (nowr_ok (c := 50) (by decide) _ _)).fr f2c (wr_no fun q hq => ?_), x3⟩
        unfold mdW at hq
        simp only [List.mem_cons, List.not_mem_nil, or_false] at hq
        rcases hq with rfl | rfl | rfl <;> dsimp only <;> omega
    · exact Inv.fr0 ⟨t, g, u, q, y, n, j0, j1, E, a, P, hb, hp, hi0, hi1, hs⟩ hwc (((h1.2.2 hok).1.tr (h2.2.2 hok).1).tr hf)
end LWR
