/-! plansMissingTest against the highest act -/
theorem sp_high_go {t : Int} : ∀ (as : List Int) (h : Int), t ≤ as.foldl (fun h a => if a < 4 ∧ h < a then a else h) h ↔ t ≤ h ∨ ∃ a, a ∈ as ∧ a < 4 ∧ t ≤ a
  | [], h => by
    show t ≤ h ↔ _
    refine ⟨Or.inl, fun k => ?_⟩
    rcases k with k | ⟨a, k, -⟩
    · exact k
    · cases k
  | a :: as, h => by
    show t ≤ as.foldl _ (if a < 4 ∧ h < a then a else h) ↔ _
    rw [sp_high_go as]
    constructor
    · rintro (k | ⟨x, k1, k2⟩)
      · split at k
        · rename_i hc
          exact Or.inr ⟨a, List.mem_cons_self, hc.1, k⟩
        · exact Or.inl k
      · exact Or.inr ⟨x, List.mem_cons_of_mem _ k1, k2⟩
    · rintro (k | ⟨x, k1, k2⟩)
      · left
        split
        · omega
        · exact k
      · rcases List.mem_cons.mp k1 with rfl | k1
        · left
          split
          · exact k2.2
          · omega
        · exact Or.inr ⟨x, k1, k2⟩
theorem sp_high_iff {t : Int} (ht : 0 ≤ t) {as : List Int} : t ≤ sp_high as ↔ ∃ a, a ∈ as ∧ a < 4 ∧ t ≤ a := by
  unfold sp_high
  rw [sp_high_go]
  exact ⟨fun h => h.resolve_left (by omega), Or.inr⟩
def pm_x (i : Nat) : ai_s := (2, pm_lo i, [], [(0, 0, false, 0, 0), (0, 2555, false, 1, 0), (0, (i : Int), false, 2, 0)], [(28, 3, (1, 2, 0, 0))], [])
noncomputable def pm_xr (i : Nat) : Bool := (ai_ex (hk []) 100 30 tb_m30 6 [50] (pm_x i)).any fun xs => xs.all fun x => Nat.beq x.1 54 && decide (x.2.2.1 = [(1, 0, 0, 0)])
theorem pm_rx : ((List.range 9).all pm_xr) = true := by decide +kernel
section PMA
variable {ad : List Nat} {p : Program} {l : Launch} {e : Env} {R : Room} {s : State} {m : MethodId} {args : Array Value} {below : List Frame} {meth : Method} {c : Code} {D : va_G} {tys : ai_ty} {A : Nat → Prop} {b L : Nat} {sx : Nat → Int32} {cells slots : Nat} {Q : State → Prop}
theorem pm_back (C : ai_cx tb_m30 6 p R s m args c D tys A b L sx cells slots) {ws : va_W} {lv : List (Nat × Value)} (k : hG tb_m30 p l e R s m args below meth c D A cells slots Q 2 lv [] ws) : hG tb_m30 p l e R s m args below meth c D A cells slots Q 50 lv [] ws := by
  intro H locs ls hP hD hS hl
  exact lv_goto (tgt := 2) C.1 C.2.1 (tv_m30.1.1.1 (50, .goto (-48), 3) (List.mem_of_getElem? (i := 26) rfl)) (by decide) (k H locs ls hP hD hS hl)
def pm_P (t : Nat) (as : List Int) (z : Int32) : Prop := (z = 1 ∧ (t : Int) ≤ sp_high as) ∨ (z = 0 ∧ ¬ (t : Int) ≤ sp_high as)
theorem pm_all (C : ai_cx tb_m30 6 p R s m args c D tys A b L sx cells slots) {ws : va_W} {t : Nat} {as : List Int} (hw : ai_wd tb_TY ad tys ws) (h3 : vi ws 28 3 as.length) (h0 : vi ws 28 0 t) (ht : t ≤ 4) (hlen : as.length ≤ 8) (ha : ∀ i, i < as.length → vi ws 33 i (as.getD i 0)) (hb : ∀ a, a ∈ as → 0 ≤ a ∧ a ≤ 4) {lv : List (Nat × Value)} (hlv : ai_lo ad b [0] tn_lo lv)
    (k : ∀ (pcr : Nat) (ws' : va_W) (lv' : List (Nat × Value)) (z : Int32), (pcr = 46 ∨ pcr = 54) → ai_wd tb_TY ad tys ws' → ai_fr [] ws ws' → pm_P t as z → hG tb_m30 p l e R s m args below meth c D A cells slots Q pcr lv' [.int z] ws') : hG tb_m30 p l e R s m args below meth c D A cells slots Q 0 lv [] ws := by
  have wn : ∀ (k i : Nat), ai_wr [] k i i = false := fun _ _ => rfl
  have one : ∀ {x : ai_s} {r' : List Int} {sk' : List Value} {o : Int}, x.2.2.1 = [(1, 0, 0, o)] → r'[0]? = some 0 → ai_sk ad b r' x.2.2.1 sk' → ∃ z : Int32, sk' = [.int z] ∧ z.toInt = o := fun {x r' sk' o} hx r0 g4 => by
    rw [hx] at g4
    obtain ⟨y, s1, rfl, dy, g4⟩ := g4.cons
    have hs1 := g4.nil
    subst hs1
    obtain ⟨z, rfl, hz⟩ := dvn dy r0
    exact ⟨z, rfl, by omega⟩
  have last : ∀ (i : Nat), i ≤ 8 → as.length ≤ i → (∀ j, j < i → j < as.length → ¬ (as.getD j 0 < 4 ∧ (t : Int) ≤ as.getD j 0)) → ∀ (ws' : va_W) (lv' : List (Nat × Value)), ai_wd tb_TY ad tys ws' → ai_fr [] ws ws' → ai_lo ad b [0] (pm_lo i) lv' → hG tb_m30 p l e R s m args below meth c D A cells slots Q 2 lv' [] ws' := by
    intro i hi him hpre ws' lv' hw' hf' hlv'
    obtain ⟨xs, hx1, hx2⟩ := ai_anyE (List.all_eq_true.mp pm_rx i (List.mem_range.mpr (by omega)))
    have gm : ai_gm tb_TY [] ws' ad b L sx tys tb_m30.2.2.2.2.1 [0, 0, (as.length : Int)] (pm_x i) lv' [] ws' := by
      refine ⟨en_mk (by simp only [pm_x, en_b, and_true]; omega) rfl, sb0, lo0_ok (r := [0]) rfl rfl rfl hlv', trivial, hw', kc ((h3.fr hf' (wn _ _)).kn (n := 2) (t := (as.length : Int)) rfl (by omega)) k0, fun _ _ _ _ h => h, fun h => by cases h⟩
    refine hseg (st := pm_x i) hx1 rfl C gm (fun x hx r' lv2 sk' ws2 hx' g' => ?_)
    obtain ⟨g1, g2, g3, g4, g5, g6, g7, g8⟩ := g'
    have hox := List.all_eq_true.mp hx2 x hx
    rw [Bool.and_eq_true, ai_beq, decide_eq_true_eq] at hox
    obtain ⟨z, rfl, hz⟩ := one hox.2 (hx'.at rfl) g4
    rw [hox.1]
    refine k 54 ws2 lv2 z (Or.inr rfl) g5 (hf'.tr g7) (Or.inr ⟨Int32.toInt_inj.mp (by rw [hz]; rfl), fun hc => ?_⟩)
    obtain ⟨a, a1, a2, a3⟩ := (sp_high_iff (by omega)).mp hc
    obtain ⟨j, hj, rfl⟩ := List.mem_iff_getElem.mp a1
    refine hpre j (by omega) hj ?_
    rw [List.getD_eq_getElem?_getD, List.getElem?_eq_getElem hj]
    exact ⟨a2, a3⟩
  have loop : ∀ (N i : Nat), i + N = 8 → (∀ j, j < i → j < as.length → ¬ (as.getD j 0 < 4 ∧ (t : Int) ≤ as.getD j 0)) → ∀ (ws' : va_W) (lv' : List (Nat × Value)), ai_wd tb_TY ad tys ws' → ai_fr [] ws ws' → ai_lo ad b [0] (pm_lo i) lv' → hG tb_m30 p l e R s m args below meth c D A cells slots Q 2 lv' [] ws' := by
    intro N
    induction N with
    | zero =>
      intro i hi hpre ws' lv' hw' hf' hlv'
      exact last i (by omega) (by omega) hpre ws' lv' hw' hf' hlv'
    | succ N ih =>
      intro i hi hpre ws' lv' hw' hf' hlv'
      by_cases him : as.length ≤ i
      · exact last i (by omega) him hpre ws' lv' hw' hf' hlv'
      · have hmem : as.getD i 0 ∈ as := by
          rw [List.getD_eq_getElem?_getD, List.getElem?_eq_getElem (by omega)]
          exact List.getElem_mem _
        obtain ⟨b1, b2⟩ := hb _ hmem
        obtain ⟨xs, hx1, hx2⟩ := ai_anyE (List.all_eq_true.mp pm_r0 i (List.mem_range.mpr (by omega)))
        have gm : ai_gm tb_TY [] ws' ad b L sx tys tb_m30.2.2.2.2.1 [0, 0, (as.length : Int), (t : Int), as.getD i 0] (pm_st i) lv' [] ws' := by
          refine ⟨en_mk (by simp only [pm_st, en_b, and_true]; omega) rfl, sb0, lo0_ok (r := [0]) rfl rfl rfl hlv', trivial, hw', kc ((h3.fr hf' (wn _ _)).kn (n := 2) (t := (as.length : Int)) rfl (by omega)) (kc ((h0.fr hf' (wn _ _)).kn (n := 3) (t := (t : Int)) rfl (by omega)) (kc (((ha i (by omega)).fr hf' (wn _ _)).kn (n := 4) (t := as.getD i 0) rfl (by omega)) k0)), fun _ _ _ _ h => h, fun h => by cases h⟩
        refine hseg (st := pm_st i) hx1 rfl C gm (fun x hx r' lv2 sk' ws2 hx' g' => ?_)
        obtain ⟨g1, g2, g3, g4, g5, g6, g7, g8⟩ := g'
        have r0 : r'[0]? = some 0 := hx'.at rfl
        have r2 : r'[2]? = some (as.length : Int) := hx'.at rfl
        have r3 : r'[3]? = some (t : Int) := hx'.at rfl
        have r4 : r'[4]? = some (as.getD i 0) := hx'.at rfl
        have hox := List.all_eq_true.mp hx2 x hx
        unfold pm_ok at hox
        rw [Bool.or_eq_true] at hox
        rcases hox with hox | hox
        · rw [Bool.and_eq_true, Bool.and_eq_true] at hox
          obtain ⟨e0, c1, c2, c3⟩ := ai_any g1 r2 hox.2.2
          rw [decide_eq_true_eq] at c1
          omega
        · rw [Bool.and_eq_true, Bool.or_eq_true] at hox
          obtain ⟨-, hox⟩ := hox
          rcases hox with hox | hox
          · rw [Bool.and_eq_true, Bool.and_eq_true, Bool.and_eq_true, ai_beq, decide_eq_true_eq, Bool.or_eq_true] at hox
            obtain ⟨p1, p2, p3, p4⟩ := hox
            obtain ⟨z, rfl, hz⟩ := one p2 r0 g4
            obtain ⟨e0, c1, c2, c3⟩ := ai_any g1 r4 p3
            rw [decide_eq_true_eq] at c1
            have hta : (t : Int) ≤ as.getD i 0 := by
              rcases p4 with p4 | p4
              · have := av_f5 g2 r4 r3 p4
                omega
              · have := av_f4 g2 r3 r4 p4
                omega
            rw [p1]
            exact k 46 ws2 lv2 z (Or.inl rfl) g5 (hf'.tr g7) (Or.inl ⟨Int32.toInt_inj.mp (by rw [hz]; rfl), (sp_high_iff (by omega)).mpr ⟨_, hmem, by omega, hta⟩⟩)
          · rw [Bool.and_eq_true, Bool.and_eq_true, Bool.and_eq_true, Bool.and_eq_true, ai_beq, decide_eq_true_eq, decide_eq_true_eq, Bool.or_eq_true, Bool.or_eq_true] at hox
            obtain ⟨p1, hs, p2, p3, p4⟩ := hox
            have hsk : sk' = [] := by
              rw [List.isEmpty_iff.mp hs] at g4
              exact g4.nil
            subst hsk
            rw [p1]
            refine hG_this2 g3 r0 p2 p3 (fun lv3 hlv3 => pm_back C (ih (i + 1) (by omega) (fun j hj hj2 => ?_) ws2 lv3 g5 (hf'.tr g7) hlv3))
            by_cases hji : j < i
            · exact hpre j hji hj2
            · rw [show j = i by omega]
              rcases p4 with p4 | p4 | p4
              · obtain ⟨e0, c1, c2, c3⟩ := ai_any g1 r4 p4
                rw [decide_eq_true_eq] at c1
                omega
              · have := av_f4 g2 r4 r3 p4
                omega
              · have := av_f5 g2 r3 r4 p4
                omega
  obtain ⟨xs, h1, h3'⟩ := ai_anyE pm_r00
  have gm : ai_gm tb_TY [] ws ad b L sx tys tb_m30.2.2.2.2.1 [0, 0] pm_0 lv [] ws := by
    refine ⟨en_mk (by simp only [pm_0, en_b, and_true]; omega) rfl, sb0, lo0_ok (r := [0]) rfl rfl rfl hlv, trivial, hw, k0, fun _ _ _ _ h => h, fun h => by cases h⟩
  refine hseg (st := pm_0) h1 rfl C gm (fun x hx r' lv2 sk' ws2 hx' g' => ?_)
  obtain ⟨g1, g2, g3, g4, g5, g6, g7, g8⟩ := g'
  have r0 : r'[0]? = some 0 := hx'.at rfl
  have hox := List.all_eq_true.mp h3' x hx
  rw [Bool.and_eq_true, Bool.and_eq_true, Bool.and_eq_true, ai_beq, decide_eq_true_eq, decide_eq_true_eq] at hox
  obtain ⟨p1, hs, p2, p3⟩ := hox
  have hsk : sk' = [] := by
    rw [List.isEmpty_iff.mp hs] at g4
    exact g4.nil
  subst hsk
  rw [p1]
  exact hG_this2 g3 r0 p2 p3 (fun lv1 hlv1 => loop 8 0 rfl (fun j hj => absurd hj (Nat.not_lt_zero _)) ws2 lv1 g5 g7 hlv1)
end PMA
