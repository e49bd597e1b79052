/-! readLine of the reference is sp_line -/
/-- the page that is read is E -/
def rev (ws : va_W) (E : Nat → Int) : Prop := (∀ j, j < 16 → vi ws 51 j (E j)) ∧ vi ws 51 16 (E 16 - 10) ∧ vi ws 51 17 (E 17)
theorem rev.fr {W : List (Nat × Nat × Nat)} {ws ws' : va_W} {E : Nat → Int} (h : rev ws E) (hf : ai_fr W ws ws') (hw : ∀ j, j < 18 → ai_wr W 51 j j = false) : rev ws' E := ⟨fun j hj => (h.1 j hj).fr hf (hw j (by omega)), h.2.1.fr hf (hw 16 (by omega)), h.2.2.fr hf (hw 17 (by omega))⟩
theorem rev_test {W : List (Nat × Nat × Nat)} {ws ws' : va_W} {t : Nat} {E : Nat → Int} (ht : t < 4) (h : rev ws E) (hf : ai_fr W ws ws') (hw : ∀ j, j < 18 → j ≠ t → j ≠ 4 + t → j ≠ 8 + t → j ≠ 12 + t → ai_wr W 51 j j = false) {k s m p : Int} (v1 : vi ws' 51 t k) (v2 : vi ws' 51 (4 + t) s) (v3 : vi ws' 51 (8 + t) m) (v4 : vi ws' 51 (12 + t) p) : rev ws' (ev_test E t k s m p) := by
  refine ⟨fun j hj => ?_, ?_, ?_⟩
  · by_cases h1 : j = t
    · rw [h1, ev_test_k]
      exact v1
    · by_cases h2 : j = 4 + t
      · rw [h2, ev_test_s]
        exact v2
      · by_cases h3 : j = 8 + t
        · rw [h3, ev_test_m]
          exact v3
        · by_cases h4 : j = 12 + t
          · rw [h4, ev_test_p]
            exact v4
          · rw [ev_test_ne h1 h2 h3 h4]
            exact (h.1 j hj).fr hf (hw j (by omega) h1 h2 h3 h4)
  · rw [ev_test_ne (by omega) (by omega) (by omega) (by omega)]
    exact h.2.1.fr hf (hw 16 (by omega) (by omega) (by omega) (by omega) (by omega))
  · rw [ev_test_ne (by omega) (by omega) (by omega) (by omega)]
    exact h.2.2.fr hf (hw 17 (by omega) (by omega) (by omega) (by omega) (by omega))
def rf_is (n : Nat) (ws : va_W) (S : sp_S) : Prop := vi ws 49 7 n ∧ rf_tk ws S.1 ∧ vi ws 49 3 S.2.1 ∧ (∃ O : Nat, vi ws 49 4 O ∧ S.2.2.1 ≤ O ∧ O ≤ S.2.2.1 + 15) ∧ vi ws 49 5 (sp_high S.2.2.2) ∧ vi ws 51 26 S.2.2.2.length ∧ pac ws S.2.2.2
def rl_W : List (Nat × Nat × Nat) := [(49, 3, 6), (49, 9, 15), (51, 0, 27)]
/-- at 171: a fault, or a stop behind which E is -/
def rl_at (g : Nat → Int) (n : Nat) (S : sp_S) (Ev : Nat → Int) (ws : va_W) : Prop :=
  (∃ c P : Nat, sp_line g n S = .inl (c, P) ∧ vi ws 49 9 c ∧ vi ws 49 10 P) ∨
  (∃ (E t' T' : Nat) (as' : List Int), sp_line g n S = .inr (sp_tok g n E, t', T', as') ∧ vi ws 49 9 0 ∧ vi ws 49 11 E ∧ vi ws 49 7 n ∧ vi ws 49 3 t' ∧ (∃ O : Nat, vi ws 49 4 O ∧ T' ≤ O ∧ O ≤ T' + 15) ∧ vi ws 49 5 (sp_high as') ∧ vi ws 51 26 as'.length ∧ pac ws as' ∧ rev ws Ev)
section RLN
variable {ad : List Nat} {p : Program} {l : Launch} {e : Env} {R : Room} {s : State} {m : MethodId} {args : Array Value} {below : List Frame} {meth : Method} {c : Code} {D : va_G} {tys : ai_ty} {A : Nat → Prop} {b L : Nat} {sx : Nat → Int32} {cells slots : Nat} {Q : State → Prop}
theorem f49v {ws : va_W} {i : Nat} {z lo hi : Int} (h : ai_wd tb_TY ad tys ws) (hs : vi ws 49 i z) (hF : (tb_TY[49]?).bind (fun t => t.2.2[i]?) = some (1, 0, lo, hi)) : lo ≤ z ∧ z ≤ hi := by
  obtain ⟨j, h1, h2⟩ := hs
  have := f49 h h1 hF
  omega
set_option maxHeartbeats 1000000 in
theorem rl_171 (C : ai_cx tb_m108 9 p R s m args c D tys A b L sx cells slots) {w00 ws : va_W} {g : Nat → Int} {n : Nat} {S : sp_S} {Ev : Nat → Int} (hn : n ≤ 160) (hw : ai_wd tb_TY ad tys ws) (hT : sp_tape g n ws) (hF : ai_fr rl_W w00 ws) (hv : sp_inv2 n S) (hat : rl_at g n S Ev ws) {lv : List (Nat × Value)} (hlv : ai_lo ad b [0] ms_lo lv)
    (k1 : ∀ (pcr : Nat) (ws' : va_W) (lv' : List (Nat × Value)) (c1 P : Nat), pcr ∈ [22, 86, 175] → ai_wd tb_TY ad tys ws' → ai_fr rl_W w00 ws' → sp_line g n S = .inl (c1, P) → vi ws' 49 9 c1 → vi ws' 49 10 P → hG tb_m108 p l e R s m args below meth c D A cells slots Q pcr lv' [] ws')
    (k2 : ∀ (ws' : va_W) (lv' : List (Nat × Value)) (S' : sp_S), ai_wd tb_TY ad tys ws' → ai_fr rl_W w00 ws' → sp_line g n S = .inr S' → rf_is n ws' S' → rev ws' Ev → hG tb_m108 p l e R s m args below meth c D A cells slots Q 175 lv' [] ws') : hG tb_m108 p l e R s m args below meth c D A cells slots Q 171 lv [] ws := by
  have hgo := sp_line_go (g := g) hv
  rcases hat with ⟨c1, P, e1, e2, e3⟩ | ⟨E, t', T', as', e1, h9, h11, h7, h3, ⟨O, h4, hO1, hO2⟩, h5, h26, hpa, hrv⟩
  · rw [e1] at hgo
    obtain ⟨o1, o2, o3⟩ := hgo
    obtain ⟨xs, hx1, hx2⟩ := ai_anyE rl_Dbr
    have gm : ai_gm tb_TY [] ws ad b L sx tys tb_m108.2.2.2.2.1 [0, 0, (c1 : Int)] rl_Db lv [] ws := by
      refine ⟨en_mk (by simp only [rl_Db, en_b, and_true]; omega) rfl, sb0, lo0_ok (r := [0]) rfl rfl rfl hlv, trivial, hw, kc (e2.kn (n := 2) (t := (c1 : Int)) rfl (by omega)) k0, fun _ _ _ _ h => h, fun h => by cases h⟩
    refine hsegT (st := rl_Db) hx1 rfl C gm (fun x hx r' lv1 sk' ws1 hx' g' => ?_)
    obtain ⟨-, -, -, g4, hw1, -, f1, -⟩ := g'
    have hox := List.all_eq_true.mp hx2 x hx
    rw [Bool.and_eq_true, ai_beq] at hox
    have hsk : sk' = [] := by
      rw [List.isEmpty_iff.mp hox.2] at g4
      exact g4.nil
    subst hsk
    rw [hox.1]
    exact k1 175 ws1 lv1 c1 P (by decide) hw1 (hF.tr (wsub_ok (by decide) f1)) e1 (e2.fr f1 rfl) (e3.fr f1 rfl)
  · obtain ⟨xs, hx1, hx2⟩ := ai_anyE rl_Dr
    obtain ⟨b0, b1⟩ := f49v (i := 11) hw h11 rfl
    have gm : ai_gm tb_TY st_WR ws ad b L sx tys tb_m108.2.2.2.2.1 [0, 0, (n : Int), (E : Int)] rl_D lv [] ws := by
      refine ⟨en_mk (by simp only [rl_D, en_b, and_true]; omega) rfl, f350 rfl hT.1 hT.2, lo0_ok (r := [0]) rfl rfl rfl hlv, trivial, hw, kc (h7.kn (n := 2) (t := (n : Int)) rfl (by omega)) (kc (h11.kn (n := 3) (t := (E : Int)) rfl (by omega)) (kc (h9.kn (n := 0) (t := 0) rfl (by omega)) k0)), fun _ _ _ _ h => h, fun h => by cases h⟩
    refine hsegT (st := rl_D) hx1 rfl C gm (fun x hx r' lv1 sk' ws1 hx' g' => ?_)
    obtain ⟨g1, g2, g3, g4, hw1, g6, f1, -⟩ := g'
    have hox := List.all_eq_true.mp hx2 x hx
    rw [Bool.and_eq_true, Bool.and_eq_true, ai_beq] at hox
    obtain ⟨o1, o2, o3⟩ := hox
    have hsk : sk' = [] := by
      rw [List.isEmpty_iff.mp o2] at g4
      exact g4.nil
    subst hsk
    obtain ⟨kb, hkb, o3⟩ := ai_anyE o3
    have htk := rp_tkok g6 (hx'.at rfl) (sy_tk_ok (N := n) (P := E) g2 hT.1 (hx'.at rfl) (hx'.at rfl) hkb) o3
    rw [o1]
    exact k2 ws1 lv1 _ hw1 (hF.tr (wsub_ok (by decide) f1)) e1 ⟨h7.fr f1 (by decide), htk, h3.fr f1 (by decide), ⟨O, h4.fr f1 (by decide), hO1, hO2⟩, h5.fr f1 (by decide), h26.fr f1 (by decide), hpa.fr f1 (by decide)⟩ (hrv.fr f1 (fun j _ => nowr_ok (by decide) j j))
theorem rl_resok {ws : va_W} {x : ai_s} {r : List Int} {g : Nat → Int} {n t' T' O : Nat} {as' : List Int} {S : sp_S} {tests : Option Int} {y : sy_r} {Ev : Nat → Int} (g6 : ai_kn ad b r ws x.2.2.2.2.1) (r0 : r[0]? = some 0) (hy : sy_ok r g n t' T' as' y (sp_line g n S)) (hres : rl_res x tests y = true) (h7 : vi ws 49 7 n) (h3 : tests = some (t' : Int) ∨ vi ws 49 3 t') (h4 : vi ws 49 4 O) (hO1 : T' ≤ O) (hO2 : O ≤ T' + 15) (h5 : vi ws 49 5 (sp_high as')) (h26 : vi ws 51 26 as'.length) (hpa : pac ws as') (hev : ∀ bb, y = .inr bb → rev ws Ev) : rl_at g n S Ev ws := by
  cases y with
  | inl y =>
    obtain ⟨P, hP1, hP2⟩ := hy
    unfold rl_res at hres
    rw [Bool.and_eq_true] at hres
    exact Or.inl ⟨y.1, P, hP2, vi.lk g6 (decide_eq_true_eq.mp hres.1) r0 (by omega), vi.lk g6 (decide_eq_true_eq.mp hres.2) hP1 (by omega)⟩
  | inr bb =>
    obtain ⟨E, hE1, hE2⟩ := hy
    unfold rl_res at hres
    rw [Bool.and_eq_true, Bool.and_eq_true] at hres
    obtain ⟨o1, o2, o3⟩ := hres
    refine Or.inr ⟨E, t', T', as', hE2, vi.lk g6 (decide_eq_true_eq.mp o1) r0 (by omega), vi.lk g6 (decide_eq_true_eq.mp o2) hE1 (by omega), h7, ?_, ⟨O, h4, hO1, hO2⟩, h5, h26, hpa, hev bb rfl⟩
    rcases h3 with h3 | h3
    · rw [h3] at o3
      exact vi.lk g6 (decide_eq_true_eq.mp o3) r0 (by omega)
    · exact h3
theorem rl_errok {ws : va_W} {x : ai_s} {r : List Int} {sk : List Value} {pcs : List Nat} {cd nm : Nat} {P : Int} (g4 : ai_sk ad b r x.2.2.1 sk) (g6 : ai_kn ad b r ws x.2.2.2.2.1) (r0 : r[0]? = some 0) (hP : r[nm]? = some P) (h : rl_err x pcs cd nm = true) : x.1 ∈ pcs ∧ sk = [] ∧ vi ws 49 9 cd ∧ vi ws 49 10 P := by
  unfold rl_err at h
  rw [Bool.and_eq_true, Bool.and_eq_true, Bool.and_eq_true] at h
  obtain ⟨h1, h2, h3, h4⟩ := h
  obtain ⟨q, hq, h1⟩ := List.any_eq_true.mp h1
  rw [ai_beq.mp h1]
  refine ⟨hq, ?_, vi.lk g6 (decide_eq_true_eq.mp h3) r0 (by omega), vi.lk g6 (decide_eq_true_eq.mp h4) hP (by omega)⟩
  rw [List.isEmpty_iff.mp h2] at g4
  exact g4.nil
theorem rl_kn {r : List Int} {ws : va_W} {n : Nat} {t : sp_T} (h7 : vi ws 49 7 n) (ht : rf_tk ws t) (h4 : t.1 ≠ 4) (q0 : r[0]? = some 0) (q2 : r[2]? = some (n : Int)) (q3 : r[3]? = some (t.2.1 : Int)) (q4 : r[4]? = some (t.2.2.1 : Int)) {kk : Int} (hk : kk = (t.1 : Int)) : ai_kn ad b r ws (rl_k kk) := by
  obtain ⟨h9, h11, h12, h13, h14⟩ := ht.2 h4
  exact kc (h7.kn q2 (by omega)) (kc (h12.kn q3 (by omega)) (kc (h11.kn q4 (by omega)) (kc (h13.kn q0 (by omega)) (kc (h9.kn q0 (by omega)) k0))))
end RLN
