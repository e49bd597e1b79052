/-! text, in the law -/
def tx_P (ad : List Nat) (tys : ai_ty) (g : Nat → Int) (N : Nat) (ws w : va_W) (z : Int32) : Prop := ai_wd tb_TY ad tys w ∧ z.toInt = sp_ret g N ∧ vi w 26 1 0 ∧ vi w 0 9 (sp_text g N).1 ∧ (((sp_text g N).1 ≠ 0 ∧ ai_fr tx_We ws w) ∨ ((sp_text g N).1 = 0 ∧ ai_fr tx_W ws w ∧ vi w 1 0 (sp_cnt g N) ∧ vi w 1 3 (sp_acn g N) ∧ vi w 34 0 0 ∧ vi w 25 0 0 ∧ vi w 25 1 0 ∧ cev w 1 (sp_cnt g N) (ev_text g N) ∧ ∀ i, i < sp_acn g N → vi w 6 i ((ev_acts g N).getD i 0)))
def rt_P (ad : List Nat) (tys : ai_ty) (g : Nat → Int) (N : Nat) (ws w : va_W) (z : Int32) : Prop := ai_wd tb_TY ad tys w ∧ z.toInt = sp_ret g N ∧ vi w 49 7 0 ∧ vi w 49 8 (sp_text g N).1 ∧ (((sp_text g N).1 ≠ 0 ∧ ai_fr mt_We ws w) ∨ ((sp_text g N).1 = 0 ∧ ai_fr mt_W ws w ∧ vi w 49 1 (sp_cnt g N) ∧ vi w 50 26 (sp_acn g N) ∧ vi w 49 19 0 ∧ vi w 56 0 0 ∧ vi w 56 1 0 ∧ rpg w (ev_text g N) ∧ ev_ok (sp_cnt g N) (ev_text g N) ∧ ∀ i, i < sp_acn g N → vi w 50 (18 + i) ((ev_acts g N).getD i 0)))
section LWT
variable {ad : List Nat} {p : Program} {l : Launch} {e : Env} {R : Room} {s : State} {m : MethodId} {args : Array Value} {below : List Frame} {meth : Method} {c : Code} {D : va_G} {tys : ai_ty} {A : Nat → Prop} {b L : Nat} {sx : Nat → Int32} {cells slots : Nat} {Q : State → Prop}
set_option maxHeartbeats 1000000 in
theorem lw_text {i q0 q49 : Nat} {ws : va_W} (C : ai_cx tb_m169 11 p R s m args c D tys A b L sx cells slots) (e0 : ad[0]? = some q0) (e49 : ad[49]? = some q49) (hi : i + 5 ≤ L) (hL : L ≤ 2560) (hw : ai_wd tb_TY ad tys ws) (hI : Inv ws)
    (k : ∀ wc, ai_wd tb_TY ad tys wc → Inv wc → hG tb_m169 p l e R s m args below meth c D A cells slots Q 1297 [(0, .ref b), (1, .ref q0), (2, .ref q49), (3, .int (nI i))] [] wc) : hG tb_m169 p l e R s m args below meth c D A cells slots Q 242 [(0, .ref b), (1, .ref q0), (2, .ref q49), (3, .int (nI i))] [] ws := by
  obtain ⟨t, g, u, q, y, n, j0, j1, E, a, P, hb, hp, hi0, hi1, hs⟩ := hI
  have hb' := hb
  obtain ⟨⟨⟨v1, v7⟩, ht, hT⟩, -, ⟨q1, q2⟩, ⟨y1, y2⟩, ⟨hn1, hn2, hn4⟩, ⟨f1, f2⟩, f3, f4⟩ := hb'
  refine law2 (P1 := fun w z => tx_P ad tys g t ws w z) (P2 := fun wa _ w z => rt_P ad tys g t wa w z) (rets1 := [43, 87]) (rets2 := [127, 182]) C e0 e49 hi hL hw (n := 0) (cmp := false) (by decide) lr_textA lr_textB lr_textC (q1 := (22, 0, 48, 0, 5)) (tv_m169.1.1.1 (243, .invokevirtual 22, 3) (List.mem_of_getElem? (i := 57) rfl)) (tv_m169.2 _ (List.mem_of_getElem? (i := 4) rfl)) rfl rfl rfl rfl (by decide) (Nat.le_of_ble_eq_true rfl) rfl rfl (q2 := (26, 0, 109, 0, 6)) (tv_m169.1.1.1 (248, .invokevirtual 26, 3) (List.mem_of_getElem? (i := 60) rfl)) (tv_m169.2 _ (List.mem_of_getElem? (i := 5) rfl)) rfl rfl rfl rfl (by decide) (Nat.le_of_ble_eq_true rfl) rfl rfl ?_ ?_ ?_ (fun wa z1 h => h.1) ?_ ?_ ?_
  · intro pcr hpc
    rcases List.mem_cons.mp hpc with rfl | hpc
    · exact tv_m48.1.1.1 (43, .ireturn, 1) (List.mem_of_getElem? (i := 20) rfl)
    · rw [List.mem_singleton.mp hpc]
      exact tv_m48.1.1.1 (87, .ireturn, 1) (List.mem_of_getElem? (i := 44) rfl)
  · intro pcr hpc
    rcases List.mem_cons.mp hpc with rfl | hpc
    · exact tv_m109.1.1.1 (127, .ireturn, 1) (List.mem_of_getElem? (i := 66) rfl)
    · rw [List.mem_singleton.mp hpc]
      exact tv_m109.1.1.1 (182, .ireturn, 1) (List.mem_of_getElem? (i := 100) rfl)
  · intro p e R s m args below meth c Q w hw' hf C2 kk
    exact tx_all C2 ht hw' (hT.fr ht hw' hf rfl rfl) (v1.fr hf rfl) (lv := [(0, .ref q0)]) ⟨rfl, Or.inl ⟨rfl, q0, e0, rfl⟩, trivial⟩ (fun w' lv z h1 h2 h3 h4 h5 h6 => kk 43 w' z lv (by decide) ⟨h2, h6, h4, h5, Or.inl ⟨h1, (wsub_ok (V := []) rfl hf).tr h3⟩⟩) (fun w' lv z h1 _ _ h2 h3 h4 h5 h6 h7 h8 h9 h10 h11 h12 h13 => kk 87 w' z lv (by decide) ⟨h2, h6, h4, h5, Or.inr ⟨h1, (wsub_ok (V := []) rfl hf).tr h3, h7, h8, h9, h10, h11, h12, h13⟩⟩)
  · intro p e R s m args below meth c Q wa z1 w hP1 hw' hf C2 kk
    have fa : ai_fr tx_W ws wa := by
      rcases hP1.2.2.2.2 with h | h
      · exact wsub_ok (V := tx_We) (by decide) h.2
      · exact h.2.1
    exact rt_all C2 ht hw' ((hT.fr ht hP1.1 fa (by decide) (by decide)).fr ht hw' hf rfl rfl) ((v7.fr fa (by decide)).fr hf rfl) (lv := [(0, .ref q49)]) ⟨rfl, Or.inl ⟨rfl, q49, e49, rfl⟩, trivial⟩ (fun w' lv z h1 h2 h3 h4 h5 h6 => kk 127 w' z lv (by decide) ⟨h2, h6, h4, h5, Or.inl ⟨h1, (wsub_ok (V := []) rfl hf).tr h3⟩⟩) (fun w' lv z h1 h2 h3 h4 h5 h6 h7 h8 h9 h10 h11 h12 h13 h14 => kk 182 w' z lv (by decide) ⟨h2, h6, h4, h5, Or.inr ⟨h1, (wsub_ok (V := []) rfl hf).tr h3, h7, h8, h9, h10, h11, h12, h14, h13⟩⟩)
  · intro wa z1 wb z2 h1 h2
    exact ⟨h2.1, fun _ => Int32.toInt_inj.mp (by rw [h1.2.1, h2.2.1])⟩
  · intro wa z1 wb z2 wc h1 h2 hwc hf
    refine k wc hwc ?_
    obtain ⟨hwa, -, a26, a09, h1⟩ := h1
    obtain ⟨hwb, -, b7, b8, h2⟩ := h2
    rcases h1 with ⟨hF, g1⟩ | ⟨hF, g1, c10, c13, c34, c25, c251, cE, cA⟩
    · rcases h2 with ⟨-, g2⟩ | ⟨hF2, -⟩
      · have f2c : ai_fr mt_We wa wc := g2.tr (wsub_ok (V := []) rfl hf)
        have fa : ai_fr (tx_We ++ mt_We) ws wc := (wsub_ok (V := tx_We) (by decide) g1).tr (wsub_ok (V := mt_We) (by decide) f2c)
        refine ⟨0, g, _, q, y, n, j0, j1, E, a, P, ⟨⟨⟨a26.fr f2c (by decide), b7.fr hf rfl⟩, by decide, (hT.fr ht hwc fa (by decide) (by decide)).1, fun i hi => absurd hi (Nat.not_lt_zero _)⟩, ⟨a09.fr f2c (by decide), b8.fr hf rfl⟩, ⟨q1.fr fa (by decide), q2.fr fa (by decide)⟩, ⟨y1.fr fa (by decide), y2.fr fa (by decide)⟩, ⟨hn1.fr fa (by decide), hn2.fr fa (by decide), hn4⟩, ⟨f1.fr fa (by decide), f2.fr fa (by decide)⟩, f3.fr fa (by decide), f4.fr fa (by decide)⟩, hp.fr hn4 fa (by decide) (by decide), fun h => (hi0 h).fr hn4 fa (by decide) (by decide), fun h => (hi1 h).fr hn4 fa (by decide) (by decide), hs.fr fa (by decide) (by decide)⟩
      · exact absurd hF2 hF
    · rcases h2 with ⟨hF2, -⟩ | ⟨-, g2, d1, d26, d19, d56, d561, dE, dok, dA⟩
      · exact absurd hF hF2
      · obtain ⟨hg, hc4, ha8, hacts⟩ := ev_text_gd hF dok
        have f2c : ai_fr mt_W wa wc := g2.tr (wsub_ok (V := []) rfl hf)
        have fa : ai_fr (tx_W ++ mt_W) ws wc := (wsub_ok (V := tx_W) (by decide) g1).tr (wsub_ok (V := mt_W) (by decide) f2c)
        have hpe : pev wc 0 (sp_cnt g t) (ev_text g t) := ⟨fun i hi => ⟨(dE.1 i (by omega)).fr hf rfl, (dE.1 (4 + i) (by omega)).fr hf rfl, (dE.1 (8 + i) (by omega)).fr hf rfl, (dE.1 (12 + i) (by omega)).fr hf rfl⟩, dE.2.1.fr hf rfl, dE.2.2.fr hf rfl⟩
        refine ⟨0, g, _, 0, y, sp_cnt g t, 0, 0, ev_text g t, sp_acn g t, fun j => (ev_acts g t).getD j 0, ⟨⟨⟨a26.fr f2c (by decide), b7.fr hf rfl⟩, by decide, (hT.fr ht hwc fa (by decide) (by decide)).1, fun i hi => absurd hi (Nat.not_lt_zero _)⟩, ⟨a09.fr f2c (by decide), b8.fr hf rfl⟩, ⟨c34.fr f2c (by decide), d19.fr hf rfl⟩, ⟨y1.fr fa (by decide), y2.fr fa (by decide)⟩, ⟨c10.fr f2c (by decide), d1.fr hf rfl, hc4⟩, ⟨c25.fr f2c (by decide), d56.fr hf rfl⟩, c251.fr f2c (by decide), d561.fr hf rfl⟩, ⟨⟨cE.fr f2c (by decide), hpe, hg⟩, ⟨c13.fr f2c (by decide), d26.fr hf rfl, ha8⟩, fun j hj => ⟨(cA j hj).fr f2c (nowr_ok (c := 6) (by decide) j j), (dA j hj).fr hf rfl, hacts j hj⟩⟩, fun h => absurd h (by decide), fun h => absurd h (by decide), hs.1.fr fa (by decide) (by decide), seI.zero (c34.fr f2c (by decide))⟩
end LWT
