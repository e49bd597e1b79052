/-! cases of the law by contract: pull, rest, read -/
def wrP (W : List (Nat × Nat × Nat)) : Bool := (nwr W baL && (nowr W 27 && nowr W 52)) && ((!(ai_wr W 1 3 3) && (nowr W 6 && (List.range 9).all fun j => !(ai_wr W 50 (18 + j) (18 + j)))) && ((((evw W 13 && nowr W 18) && pgw W 27) && ((evw W 19 && nowr W 24) && pgw W 54)) && ((nowr W 42 && (nowr W 43 && (nowr W 45 && (nowr W 46 && (nowr W 47 && nowr W 48))))) && shB W)))
theorem band {x y : Bool} (h : (x && y) = true) : x = true ∧ y = true := by
  rw [Bool.and_eq_true] at h
  exact h
/-- the page becomes another; all else stays -/
theorem Inv.page {W : List (Nat × Nat × Nat)} {ad : List Nat} {tys : ai_ty} {ws ws' : va_W} {t : Nat} {g : Nat → Int} {u q y : Int} {n : Nat} {k0 k1 : Int} {E E' : Nat → Int} {a : Nat} {P : Nat → Int} (hb : baI ws t g u q y n k0 k1) (hp : pgI ws 1 0 n E a P) (hi0 : k0 = 1 → imI ws 0 n) (hi1 : k1 = 1 → imI ws 1 n) (hs : shI ws) (hw' : ai_wd tb_TY ad tys ws') (hf : ai_fr W ws ws') (hW : wrP W = true) (hc : cev ws' 1 n E') (he : pev ws' 0 n E') (hg : good n E') : Inv ws' := by
  unfold wrP at hW
  obtain ⟨wA, wB⟩ := band hW
  obtain ⟨w1, w2⟩ := band wA
  obtain ⟨wC, wD⟩ := band wB
  obtain ⟨w3, wE⟩ := band wC
  obtain ⟨w4, w5⟩ := band wE
  obtain ⟨wF, wG⟩ := band wD
  obtain ⟨wH, wI⟩ := band wF
  obtain ⟨w6, w7⟩ := band wH
  obtain ⟨w8, w9⟩ := band wI
  obtain ⟨w10, w11⟩ := band wG
  have hn := hb.2.2.2.2.1.2.2
  rw [Bool.not_eq_true'] at w3
  have w5' : ∀ j, j < 9 → ai_wr W 50 (18 + j) (18 + j) = false := fun j hj => by
    have := List.all_eq_true.mp w5 j (List.mem_range.mpr hj)
    rw [Bool.not_eq_true'] at this
    exact this
  obtain ⟨-, ⟨b1, b2, b3⟩, c1⟩ := hp
  refine ⟨t, g, u, q, y, n, k0, k1, E', a, P, hb.fr hw' hf w1 w2, ⟨⟨hc, he, hg⟩, ⟨b1.fr hf w3, b2.fr hf (w5' 8 (by decide)), b3⟩, fun j hj => ?_⟩, fun h => (hi0 h).fr hn hf w6 w7, fun h => (hi1 h).fr hn hf w8 w9, hs.fr hf w10 w11⟩
  obtain ⟨c2, c3, c4⟩ := c1 j hj
  exact ⟨c2.fr hf (nowr_ok w4 j j), c3.fr hf (w5' j (by omega)), c4⟩
theorem pev_up {W : List (Nat × Nat × Nat)} {ws ws' : va_W} {n : Nat} {E : Nat → Int} {z : Int} (hn : n ≤ 4) (h : pev ws 0 n E) (hf : ai_fr W ws ws') (hw : ∀ j, j < 18 → j ≠ 16 → ai_wr W 50 j j = false) (v : vi ws' 50 16 (z - 10)) : pev ws' 0 n (ev_up E 16 z) := by
  refine ⟨fun i hi => ?_, by rw [ev_up_at]; exact v, by rw [ev_up_ne (by decide)]; exact h.2.2.fr hf (hw 17 (by decide) (by decide))⟩
  obtain ⟨a1, a2, a3, a4⟩ := h.1 i hi
  rw [ev_up_ne (j := i) (by omega), ev_up_ne (j := 4 + i) (by omega), ev_up_ne (j := 8 + i) (by omega), ev_up_ne (j := 12 + i) (by omega)]
  exact ⟨a1.fr hf (hw i (by omega) (by omega)), a2.fr hf (hw (4 + i) (by omega) (by omega)), a3.fr hf (hw (8 + i) (by omega) (by omega)), a4.fr hf (hw (12 + i) (by omega) (by omega))⟩
theorem good_up {n : Nat} {E : Nat → Int} {z : Int} (h : good n E) (hn : n ≤ 4) (hz : 0 ≤ z ∧ z ≤ 20) : good n (ev_up E 16 z) := by
  obtain ⟨h1, h2, h3⟩ := h
  refine ⟨fun i hi => ?_, by rw [ev_up_at]; exact hz, by rw [ev_up_ne (by decide)]; exact h3⟩
  rw [ev_up_ne (j := i) (by omega), ev_up_ne (j := 4 + i) (by omega), ev_up_ne (j := 8 + i) (by omega), ev_up_ne (j := 12 + i) (by omega)]
  exact h1 i hi
def cpW : List (Nat × Nat × Nat) := [(1, 1, 3), (4, 0, 4), (5, 0, 4)]
theorem cp_sub {t : Nat} (ht : t < 4) {u v : va_W} (hf : ai_fr (cp_W t) u v) : ai_fr cpW u v := fr_sub (fun c i h q hq => by
  have h1 := h (1, 1, 3) (by unfold cpW; simp)
  have h2 := h (4, 0, 4) (by unfold cpW; simp)
  have h3 := h (5, 0, 4) (by unfold cpW; simp)
  dsimp only at h1 h2 h3
  unfold cp_W at hq
  simp only [List.mem_cons, List.not_mem_nil, or_false] at hq
  rcases hq with rfl | rfl | rfl <;> dsimp only <;> omega) hf
section LWC
variable {ad : List Nat} {p : Program} {l : Launch} {e : Env} {R : Room} {s : State} {m : MethodId} {args : Array Value} {below : List Frame} {meth : Method} {c : Code} {D : va_G} {tys : ai_ty} {A : Nat → Prop} {b L : Nat} {sx : Nat → Int32} {cells slots : Nat} {Q : State → Prop}
theorem lw_pull {i q0 q49 : Nat} {ws : va_W} (C : ai_cx tb_m169 11 p R s m args c D tys A b L sx cells slots) (e0 : ad[0]? = some q0) (e49 : ad[49]? = some q49) (hi : i + 5 ≤ L) (hL : L ≤ 2560) (hw : ai_wd tb_TY ad tys ws) (hI : Inv ws)
    (k : ∀ wc, ai_wd tb_TY ad tys wc → Inv wc → hG tb_m169 p l e R s m args below meth c D A cells slots Q 1297 [(0, .ref b), (1, .ref q0), (2, .ref q49), (3, .int (nI i))] [] wc) : hG tb_m169 p l e R s m args below meth c D A cells slots Q 482 [(0, .ref b), (1, .ref q0), (2, .ref q49), (3, .int (nI i))] [] ws := by
  obtain ⟨t, g, u, q, y, n, j0, j1, E, a, P, hb, hp, hi0, hi1, hs⟩ := hI
  obtain ⟨hn1, hn2, hn4⟩ := hb.2.2.2.2.1
  obtain ⟨hc, he, hg⟩ := hp.1
  refine law2 (P1 := fun w z => cp_P ad tys n E (sx (i + 1)).toInt ws w z) (P2 := fun wa _ w z => mp_P ad tys n E (sx (i + 1)).toInt wa w z) (rets1 := [12, 37]) (rets2 := [5]) C e0 e49 hi hL hw (n := 1) (cmp := false) (by decide) lr_pullA lr_pullB lr_pullC (q1 := (65, 0, 60, 1, 5)) (tv_m169.1.1.1 (488, .invokevirtual 65, 3) (List.mem_of_getElem? (i := 242) rfl)) (tv_m169.2 _ (List.mem_of_getElem? (i := 24) rfl)) rfl rfl rfl rfl (by decide) (Nat.le_of_ble_eq_true rfl) rfl rfl (q2 := (68, 0, 132, 1, 6)) (tv_m169.1.1.1 (498, .invokevirtual 68, 3) (List.mem_of_getElem? (i := 250) rfl)) (tv_m169.2 _ (List.mem_of_getElem? (i := 25) rfl)) rfl rfl rfl rfl (by decide) (Nat.le_of_ble_eq_true rfl) rfl rfl ?_ ?_ ?_ (fun wa z1 h => h.1) ?_ ?_ ?_
  · intro pcr hpc
    rcases List.mem_cons.mp hpc with rfl | hpc
    · exact tv_m60.1.1.1 (12, .ireturn, 1) (List.mem_of_getElem? (i := 6) rfl)
    · rw [List.mem_singleton.mp hpc]
      exact tv_m60.1.1.1 (37, .ireturn, 1) (List.mem_of_getElem? (i := 18) rfl)
  · intro pcr hpc
    rw [List.mem_singleton.mp hpc]
    exact tv_m132.1.1.1 (5, .ireturn, 1) (List.mem_of_getElem? (i := 3) rfl)
  · intro p e R s m args below meth c Q w hw' hf C2 kk
    refine cp_all C2 hw' e0 hn4 (hn1.fr hf rfl) (hc.fr hf rfl) hg (fun pcr w' z lv hpr hP => kk pcr w' z lv hpr ⟨hP.1, ?_⟩)
    have hP := hP.2
    by_cases hh : 0 ≤ (sx (i + 1)).toInt ∧ (sx (i + 1)).toInt < n
    · rw [if_pos hh] at hP ⊢
      exact ⟨(wsub_ok (V := []) rfl hf).tr hP.1, hP.2⟩
    · rw [if_neg hh] at hP ⊢
      exact ⟨hf.tr hP.1, hP.2⟩
  · intro p e R s m args below meth c Q wa z1 w hP1 hw' hf C2 kk
    have hfa : ai_fr cpW ws wa := by
      have hP1 := hP1.2
      by_cases hh : 0 ≤ (sx (i + 1)).toInt ∧ (sx (i + 1)).toInt < n
      · rw [if_pos hh] at hP1
        exact cp_sub (by omega) hP1.1
      · rw [if_neg hh] at hP1
        exact wsub_ok (V := []) rfl hP1.1
    refine mq_all C2 hw' e49 hn4 ((hn2.fr hfa rfl).fr hf rfl) ((he.fr hn4 hfa (fun _ _ => rfl)).fr hn4 hf (fun _ _ => rfl)) hg (fun pcr w' z lv hpr hP => kk pcr w' z lv hpr ⟨hP.1, ?_⟩)
    have hP := hP.2
    by_cases hh : 0 ≤ (sx (i + 1)).toInt ∧ (sx (i + 1)).toInt < n
    · rw [if_pos hh] at hP ⊢
      exact ⟨(wsub_ok (V := []) rfl hf).tr hP.1, hP.2⟩
    · rw [if_neg hh] at hP ⊢
      exact ⟨hf.tr hP.1, hP.2⟩
  · intro wa z1 wb z2 h1 h2
    refine ⟨h2.1, fun _ => ?_⟩
    have h1 := h1.2
    have h2 := h2.2
    by_cases hh : 0 ≤ (sx (i + 1)).toInt ∧ (sx (i + 1)).toInt < n
    · rw [if_pos hh] at h1 h2
      exact Int32.toInt_inj.mp (by rw [h1.2.2, h2.2.2])
    · rw [if_neg hh] at h1 h2
      exact Int32.toInt_inj.mp (by rw [h1.2, h2.2])
  · intro wa z1 wb z2 wc h1 h2 hwc hf
    refine k wc hwc ?_
    have h1 := h1.2
    have h2 := h2.2
    by_cases hh : 0 ≤ (sx (i + 1)).toInt ∧ (sx (i + 1)).toInt < n
    · rw [if_pos hh] at h1 h2
      have ht : (sx (i + 1)).toInt.toNat < n := by omega
      have f2 : ai_fr md_W wa wc := (mp_sub (by omega) h2.1).tr (wsub_ok (V := []) rfl hf)
      have fa : ai_fr (cpW ++ md_W) ws wc := (wsub_ok (V := cpW) (by decide) (cp_sub (by omega) h1.1)).tr (wsub_ok (V := md_W) (by decide) f2)
      exact Inv.page hb hp hi0 hi1 hs hwc fa (by decide) (h1.2.1.fr f2 rfl) (h2.2.1.fr hn4 hf (fun _ _ => rfl)) (good_pl hn4 ht hg)
    · rw [if_neg hh] at h1 h2
      exact Inv.fr0 ⟨t, g, u, q, y, n, j0, j1, E, a, P, hb, hp, hi0, hi1, hs⟩ hwc ((h1.1.tr h2.1).tr hf)
theorem lw_rest {i q0 q49 : Nat} {ws : va_W} (C : ai_cx tb_m169 11 p R s m args c D tys A b L sx cells slots) (e0 : ad[0]? = some q0) (e49 : ad[49]? = some q49) (hi : i + 5 ≤ L) (hL : L ≤ 2560) (hw : ai_wd tb_TY ad tys ws) (hI : Inv ws)
    (k : ∀ wc, ai_wd tb_TY ad tys wc → Inv wc → hG tb_m169 p l e R s m args below meth c D A cells slots Q 1297 [(0, .ref b), (1, .ref q0), (2, .ref q49), (3, .int (nI i))] [] wc) : hG tb_m169 p l e R s m args below meth c D A cells slots Q 505 [(0, .ref b), (1, .ref q0), (2, .ref q49), (3, .int (nI i))] [] ws := by
  obtain ⟨t, g, u, q, y, n, j0, j1, E, a, P, hb, hp, hi0, hi1, hs⟩ := hI
  obtain ⟨hn1, hn2, hn4⟩ := hb.2.2.2.2.1
  obtain ⟨hc, he, hg⟩ := hp.1
  have b16 := hg.2.1
  refine law2 (P1 := fun w z => cr_P ad tys (E 16) (sx (i + 1)).toInt ws w z) (P2 := fun wa _ w z => mr_P ad tys (E 16) (sx (i + 1)).toInt wa w z) (rets1 := [11, 39]) (rets2 := [13, 37]) C e0 e49 hi hL hw (n := 1) (cmp := false) (by decide) lr_restA lr_restB lr_restC (q1 := (69, 0, 61, 1, 5)) (tv_m169.1.1.1 (511, .invokevirtual 69, 3) (List.mem_of_getElem? (i := 259) rfl)) (tv_m169.2 _ (List.mem_of_getElem? (i := 26) rfl)) rfl rfl rfl rfl (by decide) (Nat.le_of_ble_eq_true rfl) rfl rfl (q2 := (72, 0, 133, 1, 6)) (tv_m169.1.1.1 (521, .invokevirtual 72, 3) (List.mem_of_getElem? (i := 267) rfl)) (tv_m169.2 _ (List.mem_of_getElem? (i := 27) rfl)) rfl rfl rfl rfl (by decide) (Nat.le_of_ble_eq_true rfl) rfl rfl ?_ ?_ ?_ (fun wa z1 h => h.1) ?_ ?_ ?_
  · intro pcr hpc
    rcases List.mem_cons.mp hpc with rfl | hpc
    · exact tv_m61.1.1.1 (11, .ireturn, 1) (List.mem_of_getElem? (i := 6) rfl)
    · rw [List.mem_singleton.mp hpc]
      exact tv_m61.1.1.1 (39, .ireturn, 1) (List.mem_of_getElem? (i := 20) rfl)
  · intro pcr hpc
    rcases List.mem_cons.mp hpc with rfl | hpc
    · exact tv_m133.1.1.1 (13, .ireturn, 1) (List.mem_of_getElem? (i := 7) rfl)
    · rw [List.mem_singleton.mp hpc]
      exact tv_m133.1.1.1 (37, .ireturn, 1) (List.mem_of_getElem? (i := 21) rfl)
  · intro p e R s m args below meth c Q w hw' hf C2 kk
    refine cr_all C2 hw' e0 b16 (hc.2.1.fr hf rfl) (fun pcr w' z lv hpr hP => kk pcr w' z lv hpr ⟨hP.1, ?_⟩)
    have hP := hP.2
    by_cases hh : 0 ≤ (sx (i + 1)).toInt ∧ (sx (i + 1)).toInt ≤ 20
    · rw [if_pos hh] at hP ⊢
      exact ⟨(wsub_ok (V := []) rfl hf).tr hP.1, hP.2⟩
    · rw [if_neg hh] at hP ⊢
      exact ⟨hf.tr hP.1, hP.2⟩
  · intro p e R s m args below meth c Q wa z1 w hP1 hw' hf C2 kk
    have hfa : ai_fr cr_W ws wa := by
      have hP1 := hP1.2
      by_cases hh : 0 ≤ (sx (i + 1)).toInt ∧ (sx (i + 1)).toInt ≤ 20
      · rw [if_pos hh] at hP1
        exact hP1.1
      · rw [if_neg hh] at hP1
        exact wsub_ok (V := []) rfl hP1.1
    refine mr_all C2 hw' e49 b16 ((he.2.1.fr hfa rfl).fr hf rfl) (fun pcr w' z lv hpr hP => kk pcr w' z lv hpr ⟨hP.1, ?_⟩)
    have hP := hP.2
    by_cases hh : 0 ≤ (sx (i + 1)).toInt ∧ (sx (i + 1)).toInt ≤ 20
    · rw [if_pos hh] at hP ⊢
      exact ⟨(wsub_ok (V := []) rfl hf).tr hP.1, hP.2⟩
    · rw [if_neg hh] at hP ⊢
      exact ⟨hf.tr hP.1, hP.2⟩
  · intro wa z1 wb z2 h1 h2
    refine ⟨h2.1, fun _ => ?_⟩
    have h1 := h1.2
    have h2 := h2.2
    by_cases hh : 0 ≤ (sx (i + 1)).toInt ∧ (sx (i + 1)).toInt ≤ 20
    · rw [if_pos hh] at h1 h2
      exact Int32.toInt_inj.mp (by rw [h1.2.2, h2.2.2])
    · rw [if_neg hh] at h1 h2
      exact Int32.toInt_inj.mp (by rw [h1.2, h2.2])
  · intro wa z1 wb z2 wc h1 h2 hwc hf
    refine k wc hwc ?_
    have h1 := h1.2
    have h2 := h2.2
    by_cases hh : 0 ≤ (sx (i + 1)).toInt ∧ (sx (i + 1)).toInt ≤ 20
    · rw [if_pos hh] at h1 h2
      have f2 : ai_fr mr_W wa wc := h2.1.tr (wsub_ok (V := []) rfl hf)
      have fa : ai_fr (cr_W ++ mr_W) ws wc := (wsub_ok (V := cr_W) (by decide) h1.1).tr (wsub_ok (V := mr_W) (by decide) f2)
      have hpe : pev wa 0 n E := he.fr hn4 h1.1 (fun _ _ => rfl)
      have hcu : cev wa 1 n (ev_up E 16 (min 20 (E 16 + 2 * (sx (i + 1)).toInt))) := cev_up (j := 1) hn4 (Or.inl rfl) hc h1.1 ⟨rfl, rfl, rfl, rfl⟩ rfl h1.2.1
      exact Inv.page hb hp hi0 hi1 hs hwc fa (by decide) (hcu.fr f2 rfl) (pev_up hn4 hpe f2 (fun j h1 h2 => wr_no fun q hq => by
        unfold mr_W at hq
        rw [List.mem_singleton.mp hq]
        dsimp only
        omega) (h2.2.1.fr hf rfl)) (good_up hg hn4 (by omega))
    · rw [if_neg hh] at h1 h2
      exact Inv.fr0 ⟨t, g, u, q, y, n, j0, j1, E, a, P, hb, hp, hi0, hi1, hs⟩ hwc ((h1.1.tr h2.1).tr hf)
end LWC
