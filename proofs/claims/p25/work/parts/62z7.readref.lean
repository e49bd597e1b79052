def md_S0 (k : Nat) : List sm_t := [
  (173, [(0, (0, 49, 0, 0)), (5, (1, 0, 0, 0)), (6, (1, 5, 0, 0))], [], [], [(0, 0, false, 0, 0), (0, 2555, false, 1, 0), (0, 2, false, 2, 0), (-2147483648, 2147483647, false, 3, 0), (0, 20, false, 4, 0), (0, 20, false, 5, 0), (0, 40, false, 6, 0), (0, 2, false, 7, 0)], [(5, 5, 4, 5, 0)]),
  (173, [(0, (0, 49, 0, 0)), (5, (1, 0, 0, 1)), (6, (1, 5, 0, 0))], [], [], [(0, 0, false, 0, 0), (0, 2555, false, 1, 0), (0, 2, false, 2, 0), (-2147483648, 2147483647, false, 3, 0), (1, 20, false, 4, 0), (0, 19, false, 5, 0), (0, 40, false, 6, 0), (0, 2, false, 7, 0)], [(5, 5, 4, 5, -1), (4, 5, 4, 5, 0)]),
  (173, [(0, (0, 49, 0, 0)), (5, (1, 0, 0, 1)), (6, (1, 5, 0, 0))], [], [], [(0, 0, false, 0, 0), (0, 2555, false, 1, 0), (0, 2, false, 2, 0), (-2147483648, 2147483647, false, 3, 0), (2, 20, false, 4, 0), (0, 18, false, 5, 0), (0, 40, false, 6, 0), (0, 2, false, 7, 0)], [(4, 5, 4, 5, -1), (4, 5, 4, 5, 0)])]
def md_S1 (k : Nat) : List sm_t := [
  (173, [(0, (0, 49, 0, 0)), (5, (1, 0, 0, 0)), (6, (1, 5, 0, 0))], [], [], [(0, 0, false, 0, 0), (0, 2555, false, 1, 0), (0, 2, false, 2, 0), (-2147483648, 2147483647, false, 3, 0), (0, 20, false, 4, 0), (0, 20, false, 5, 0), (0, 40, false, 6, 0), (0, 2, false, 7, 0)], [(5, 5, 4, 5, 0), (140, 7, 2, 7, 0)]),
  (173, [(0, (0, 49, 0, 0)), (5, (1, 0, 0, 3)), (6, (1, 5, 0, 0))], [], [], [(0, 0, false, 0, 0), (0, 2555, false, 1, 0), (0, 2, false, 2, 0), (-2147483648, 2147483647, false, 3, 0), (1, 20, false, 4, 0), (0, 19, false, 5, 0), (0, 40, false, 6, 0), (0, 2, false, 7, 0)], [(5, 5, 4, 5, -1), (140, 7, 2, 7, 0), (140, 7, 0, 7, -4), (4, 5, 4, 5, 0), (140, 7, 2, 7, 0)]),
  (173, [(0, (0, 49, 0, 0)), (5, (1, 0, 0, 3)), (6, (1, 5, 0, 0))], [], [], [(0, 0, false, 0, 0), (0, 2555, false, 1, 0), (0, 2, false, 2, 0), (-2147483648, 2147483647, false, 3, 0), (2, 20, false, 4, 0), (0, 18, false, 5, 0), (0, 40, false, 6, 0), (0, 2, false, 7, 0)], [(4, 5, 4, 5, -1), (140, 7, 2, 7, 0), (140, 7, 0, 7, -4), (4, 5, 4, 5, 0), (140, 7, 2, 7, 0)])]
def md_S2 (k : Nat) : List sm_t := [
  (173, [(0, (0, 49, 0, 0)), (5, (1, 0, 0, 0)), (6, (1, 5, 0, 0))], [], [], [(0, 0, false, 0, 0), (0, 2555, false, 1, 0), (0, 2, false, 2, 0), (-2147483648, 2147483647, false, 3, 0), (0, 20, false, 4, 0), (0, 20, false, 5, 0), (0, 40, false, 6, 0), (0, 2, false, 7, 0)], [(5, 5, 4, 5, 0)]),
  (173, [(0, (0, 49, 0, 0)), (5, (1, 0, 0, 2)), (6, (1, 5, 0, 0))], [], [], [(0, 0, false, 0, 0), (0, 2555, false, 1, 0), (0, 2, false, 2, 0), (-2147483648, 2147483647, false, 3, 0), (1, 20, false, 4, 0), (0, 19, false, 5, 0), (0, 40, false, 6, 0), (0, 2, false, 7, 0), (-2147483648, -1, false, 8, 0)], [(5, 5, 4, 5, -1), (2, 3, 5, 8, 0), (4, 2, 2, 2, 1), (5, 2, 2, 2, 0), (140, 2, 0, 2, -4), (4, 5, 4, 5, 0)]),
  (173, [(0, (0, 49, 0, 0)), (5, (1, 0, 0, 2)), (6, (1, 5, 0, 0))], [], [], [(0, 0, false, 0, 0), (0, 2555, false, 1, 0), (0, 2, false, 2, 0), (-2147483648, 2147483647, false, 3, 0), (2, 20, false, 4, 0), (0, 18, false, 5, 0), (0, 40, false, 6, 0), (0, 2, false, 7, 0), (-2147483648, -1, false, 8, 0)], [(4, 5, 4, 5, -1), (2, 3, 5, 8, 0), (4, 2, 2, 2, 1), (5, 2, 2, 2, 0), (140, 2, 0, 2, -4), (4, 5, 4, 5, 0)]),
  (173, [(0, (0, 49, 0, 0)), (5, (1, 0, 0, 2)), (6, (1, 5, 0, 0))], [], [], [(0, 0, false, 0, 0), (0, 2555, false, 1, 0), (0, 2, false, 2, 0), (-2147483648, 2147483647, false, 3, 0), (1, 20, false, 4, 0), (0, 19, false, 5, 0), (0, 40, false, 6, 0), (0, 2, false, 7, 0), (0, 2147483666, false, 8, 0)], [(5, 5, 4, 5, -1), (5, 8, 6, 8, 0), (2, 3, 5, 8, 0), (4, 2, 2, 2, 1), (5, 2, 2, 2, 0), (140, 2, 0, 2, -4), (4, 5, 4, 5, 0)]),
  (173, [(0, (0, 49, 0, 0)), (5, (1, 0, 0, 2)), (6, (1, 5, 0, 0))], [], [], [(0, 0, false, 0, 0), (0, 2555, false, 1, 0), (0, 2, false, 2, 0), (-2147483648, 2147483647, false, 3, 0), (2, 20, false, 4, 0), (0, 18, false, 5, 0), (0, 40, false, 6, 0), (0, 2, false, 7, 0), (0, 2147483666, false, 8, 0)], [(4, 5, 4, 5, -1), (5, 8, 6, 8, 0), (2, 3, 5, 8, 0), (4, 2, 2, 2, 1), (5, 2, 2, 2, 0), (140, 2, 0, 2, -4), (4, 5, 4, 5, 0)]),
  (145, [(0, (0, 49, 0, 0)), (1, (1, 0, 0, (k : Int))), (2, (1, 2, 0, 0)), (3, (1, 3, 0, 0)), (4, (1, 4, 0, 0)), (5, (1, 0, 0, 0)), (6, (1, 5, 0, 0)), (7, (1, 5, 0, 0))], [(1, 9, 0, 0), (0, 49, 0, 0)], [], [(0, 0, false, 0, 0), (0, 2555, false, 1, 0), (0, 2, false, 2, 0), (-2147483648, 2147483647, false, 3, 0), (1, 20, false, 4, 0), (0, 19, false, 5, 0), (1, 40, false, 6, 0), (0, 2, false, 7, 0), (0, 39, false, 8, 0), (-2147483648, 2147483647, false, 9, 0)], [(1059, 8, 8, 9, 40 * (k : Int)), (4, 8, 6, 8, 0), (2, 3, 5, 8, 0), (4, 2, 2, 2, 1), (5, 2, 2, 2, 0), (140, 2, 0, 2, -4), (4, 5, 4, 5, 0)]),
  (145, [(0, (0, 49, 0, 0)), (1, (1, 0, 0, (k : Int))), (2, (1, 2, 0, 0)), (3, (1, 3, 0, 0)), (4, (1, 4, 0, 0)), (5, (1, 0, 0, 0)), (6, (1, 5, 0, 0)), (7, (1, 5, 0, 0))], [(1, 10, 0, 0), (0, 49, 0, 0)], [], [(0, 0, false, 0, 0), (0, 2555, false, 1, 0), (0, 2, false, 2, 0), (-2147483648, 2147483647, false, 3, 0), (1, 20, false, 4, 0), (0, 19, false, 5, 0), (1, 40, false, 6, 0), (0, 2, false, 7, 0), (0, 39, false, 8, 0), (-2147483648, 2147483647, false, 9, 0), (-2147483648, 2147483647, false, 10, 0)], [(1059, 8, 8, 10, 40 * (k : Int)), (1, 0, 3, 9, 40 * (k : Int)), (4, 8, 6, 8, 0), (2, 3, 5, 8, 0), (4, 2, 2, 2, 1), (5, 2, 2, 2, 0), (140, 2, 0, 2, -4), (4, 5, 4, 5, 0)])]
def md_S148 : List sm_t := [(55, [(0, (0, 49, 0, 0)), (1, (1, 7, 0, 0)), (2, (1, 2, 0, 0)), (3, (1, 3, 0, 0)), (4, (1, 4, 0, 0)), (5, (1, 0, 0, 0)), (6, (1, 5, 0, 1)), (7, (1, 5, 0, 1))], [], [], [(0, 0, false, 0, 0), (0, 2555, false, 1, 0), (0, 2, false, 2, 0), (-2147483648, 2147483647, false, 3, 0), (0, 20, false, 4, 0), (0, 19, false, 5, 0), (0, 2147483647, false, 6, 0), (0, 3, false, 7, 0)], [])]
def md_S148n : List sm_t := [(155, [(0, (0, 49, 0, 0)), (6, (1, 5, 0, 0))], [(1, 0, 0, 0), (1, 0, 0, 81), (0, 49, 0, 0)], [], [(0, 0, false, 0, 0), (0, 2555, false, 1, 0), (0, 2, false, 2, 0), (-2147483648, 2147483647, false, 3, 0), (0, 20, false, 4, 0), (0, 19, false, 5, 0), (-2147483648, -1, false, 6, 0), (0, 3, false, 7, 0)], [])]
def md_S158 : List sm_t := [(163, [], [(1, 3, 0, 0)], [], [(0, 0, false, 0, 0), (0, 2555, false, 1, 0), (0, 20, false, 2, 0), (-40, -20, false, 3, 0)], [(0, 0, 2, 3, 20)])]
/-! the reference's loop -/
def md_lo (k : Nat) : List (Nat × ai_v) := [(0, (0, 49, 0, 0)), (1, (1, 0, 0, (k : Int))), (2, (1, 2, 0, 0)), (3, (1, 3, 0, 0)), (4, (1, 4, 0, 0)), (5, (1, 0, 0, 0)), (6, (1, 5, 0, 0)), (7, (1, 5, 0, 0))]
def md_h0 (k : Nat) : ai_s := (55, md_lo k, [], cd_en, [(57, k, (1, 0, 0, -4)), (58, k, (1, 6, 0, 0))], [])
def md_h1 (k : Nat) : ai_s := (55, md_lo k, [], cd_en, [(57, k, (1, 7, 0, 0)), (58, k, (1, 6, 0, 0))], [(140, 7, 2, 7, 0)])
def md_h2 (k : Nat) : ai_s := (55, md_lo k, [], cd_en, [(57, k, (1, 2, 0, 0)), (58, k, (1, 6, 0, 0))], [])
noncomputable def md_run (S : Nat → List sm_t) (h : Nat → ai_s) (k : Nat) : Bool := (ai_ex (hk []) 200 166 tb_m166 10 [145, 173] (h k)).any fun xs => xs.all fun x => (S k).any fun t => sm_is [] x t
theorem md_r0 : ((List.range 4).all (md_run md_S0 md_h0)) = true := by decide +kernel
theorem md_r1 : ((List.range 4).all (md_run md_S1 md_h1)) = true := by decide +kernel
theorem md_r2 : ((List.range 4).all (md_run md_S2 md_h2)) = true := by decide +kernel
def md_l8 : List (Nat × ai_v) := [(0, (0, 49, 0, 0)), (1, (1, 7, 0, 0)), (2, (1, 2, 0, 0)), (3, (1, 3, 0, 0)), (4, (1, 4, 0, 0)), (5, (1, 0, 0, 0)), (6, (1, 5, 0, 0)), (7, (1, 5, 0, 0))]
def md_e8 (lo hi : Int) : List ai_e := [(0, 0, false, 0, 0), (0, 2555, false, 1, 0), (0, 2, false, 2, 0), (-2147483648, 2147483647, false, 3, 0), (0, 20, false, 4, 0), (0, 19, false, 5, 0), (lo, hi, false, 6, 0), (0, 3, false, 7, 0)]
theorem md_r148 : ((ai_ex (hk []) 20 166 tb_m166 10 [55] (148, md_l8, [(1, 6, 0, 0)], md_e8 0 2147483647, [], [])).any fun xs => xs.all fun x => md_S148.any fun t => sm_is [] x t) = true := by decide +kernel
theorem md_r148n : ((ai_ex (hk []) 20 166 tb_m166 10 [155] (148, md_l8, [(1, 6, 0, 0)], md_e8 (-2147483648) (-1), [], [])).any fun xs => xs.all fun x => md_S148n.any fun t => sm_is [] x t) = true := by decide +kernel
theorem md_r158 : ((ai_ex (hk []) 20 166 tb_m166 10 [] (158, [(0, (0, 49, 0, 0)), (6, (1, 2, 0, 0))], [], [(0, 0, false, 0, 0), (0, 2555, false, 1, 0), (0, 20, false, 2, 0)], [], [])).any fun xs => xs.all fun x => md_S158.any fun t => sm_is [] x t) = true := by decide +kernel
def md_W : List (Nat × Nat × Nat) := [(50, 8, 18)]
theorem mp_sub {t : Nat} (ht : t < 4) {u v : va_W} (hf : ai_fr (mp_W t) u v) : ai_fr md_W u v := fr_sub (fun c i h q hq => by
  have h1 := h (50, 8, 18) (by unfold md_W; simp)
  dsimp only at h1
  unfold mp_W at hq
  simp only [List.mem_cons, List.not_mem_nil, or_false] at hq
  rcases hq with rfl | rfl | rfl <;> dsimp only <;> omega) hf
theorem ev_pr_can {n t : Nat} {E : Nat → Int} (ht : t < n) (hg : good n E) : (1 ≤ E 16 ∧ E (8 + t) < E (4 + t) → 0 ≤ ev_pr E t) ∧ (¬ (1 ≤ E 16 ∧ E (8 + t) < E (4 + t)) → ev_pr E t = -2) := by
  have hy := yl_nn (k := E t) (p := E (12 + t)) hg.2.1.1
  unfold ev_pr
  refine ⟨fun h => ?_, fun h => ?_⟩
  · rw [if_pos h]
    omega
  · rw [if_neg h]
section RDM
variable {ad : List Nat} {p : Program} {l : Launch} {e : Env} {R : Room} {s : State} {m : MethodId} {args : Array Value} {below : List Frame} {meth : Method} {c : Code} {D : va_G} {tys : ai_ty} {A : Nat → Prop} {b L : Nat} {sx : Nat → Int32} {cells slots : Nat} {Q : State → Prop}
theorem md_pull {a k n N i : Nat} {la f : Int} {E Ar : Nat → Int} {zk zl zf zm z5 z6 z7 zt : Int32} {ws : va_W} (C : ai_cx tb_m166 10 p R s m args c D tys A b L sx cells slots) (ha : ad[49]? = some a) (hk : k < 4) (hn4 : n ≤ 4) (hN : N ≤ 20) (hi : i < N) (hla : 0 ≤ la ∧ la ≤ 2) (ek : zk.toInt = k) (el : zl.toInt = la) (ef : zf.toInt = f) (em : zm.toInt = N) (e5 : z5.toInt = 0) (e6 : z6.toInt = i) (e7 : z7.toInt = i) (hw : ai_wd tb_TY ad tys ws) (hn : vi ws 49 1 n) (hc : pev ws 0 n E) (hg : good n E) (hA : ∀ j, j < 27 → vi ws 50 (81 + j) (Ar j))
    (k1 : ∀ (ws' : va_W) (z' : Int32) (lv' : List (Nat × Value)), ¬ ev_can n E zt.toInt → ai_wd tb_TY ad tys ws' → ai_fr [(50, 0, 27)] ws ws' → (∀ j, j < 27 → vi ws' 50 j (Ar j)) → z'.toInt = -20 - i → hG tb_m166 p l e R s m args below meth c D A cells slots Q 163 lv' [.int z'] ws')
    (k2 : ∀ (ws' : va_W) (y5 y6 y7 : Int32), ev_can n E zt.toInt → ai_wd tb_TY ad tys ws' → ai_fr (mp_W zt.toInt.toNat) ws ws' → pev ws' 0 n (ev_pl E zt.toInt.toNat) → y5.toInt = 0 → y6.toInt = i + 1 → y7.toInt = i + 1 → hG tb_m166 p l e R s m args below meth c D A cells slots Q 55 [(0, .ref a), (1, .int zk), (2, .int zl), (3, .int zf), (4, .int zm), (5, .int y5), (6, .int y6), (7, .int y7)] [] ws') :
    hG tb_m166 p l e R s m args below meth c D A cells slots Q 145 [(0, .ref a), (1, .int zk), (2, .int zl), (3, .int zf), (4, .int zm), (5, .int z5), (6, .int z6), (7, .int z7)] [.int zt, .ref a] ws := by
  have bf := ai_irg zf
  refine hcallI (q := (171, 0, 131, 1, 6)) (M' := tb_m131) (cl := 49) (a := a) (As := [.int zt]) (rest := []) (rets := [9, 31]) (P := mp_P ad tys n E zt.toInt ws) C (by decide) (tv_m166.1.1.1 (145, .invokevirtual 171, 3) (List.mem_of_getElem? (i := 83) rfl)) (tv_m166.2 _ (List.mem_of_getElem? (i := 20) rfl)) rfl rfl rfl rfl (by decide) (Nat.le_of_ble_eq_true rfl) rfl rfl rfl rfl hw ha (by decide) ?_ ?_ ?_
  · intro pcr hp
    rcases List.mem_cons.mp hp with rfl | hp
    · exact tv_m131.1.1.1 (9, .ireturn, 1) (List.mem_of_getElem? (i := 5) rfl)
    · rw [List.mem_singleton.mp hp]
      exact tv_m131.1.1.1 (31, .ireturn, 1) (List.mem_of_getElem? (i := 18) rfl)
  · intro p2 e2 R2 s2 m2 args2 below2 meth2 c2 Q2 C2 kk
    exact mp_all C2 hw ha hn4 hn hc hg (fun pcr w z' lv2 hp hP => kk pcr w z' lv2 hp hP)
  · rintro ws2 z' ⟨hw2, hP⟩
    have bz := ai_irg z'
    have lo8 : ∀ {rr : List Int}, ai_lo ad b ([0, 0, la, f, (N : Int), (i : Int), z'.toInt, (k : Int)] ++ rr) md_l8 [(0, .ref a), (1, .int zk), (2, .int zl), (3, .int zf), (4, .int zm), (5, .int z5), (6, .int z6), (7, .int z7)] := fun {rr} => ⟨rfl, Or.inl ⟨rfl, a, ha, rfl⟩, rfl, int_dv (z := (k : Int)) rfl (by omega), rfl, int_dv (z := la) rfl (by omega), rfl, int_dv (z := f) rfl (by omega), rfl, int_dv (z := (N : Int)) rfl (by omega), rfl, int_dv (z := 0) rfl (by omega), rfl, int_dv (z := (i : Int)) rfl (by omega), rfl, int_dv (z := (i : Int)) rfl (by omega), trivial⟩
    by_cases hcan : ev_can n E zt.toInt
    · have hin : 0 ≤ zt.toInt ∧ zt.toInt < n := ⟨hcan.1, hcan.2.1⟩
      rw [if_pos hin] at hP
      obtain ⟨hf2, hc2, hz⟩ := hP
      have ht : zt.toInt.toNat < n := by omega
      have hz0 := (ev_pr_can ht hg).1 hcan.2.2
      refine hsum (st := (148, md_l8, [(1, 6, 0, 0)], md_e8 0 2147483647, [], [])) md_r148 rfl C (r := [0, 0, la, f, (N : Int), (i : Int), z'.toInt, (k : Int)]) ⟨en_mk (by simp only [md_e8, en_b, and_true]; omega) rfl, sb0, lo8 (rr := []), ⟨int_dv (z := z'.toInt) rfl (by omega), trivial⟩, hw2, k0, fun _ _ _ _ h => h, fun h => by cases h⟩ (fun x hx r' lv' sk' ws5 hx' hb hl hs hlo hsk hw5 hv hf5 _ => ?_)
      rw [List.mem_singleton.mp hx] at hlo hsk ⊢
      cases hsk.nil
      obtain ⟨lv1, rfl, pz1⟩ := lo_ref ha hlo
      obtain ⟨q1, lv2, rfl, g1, pz2⟩ := lo_int rfl pz1
      obtain ⟨q2, lv3, rfl, g2, pz3⟩ := lo_int rfl pz2
      obtain ⟨q3, lv4, rfl, g3, pz4⟩ := lo_int rfl pz3
      obtain ⟨q4, lv5, rfl, g4, pz5⟩ := lo_int rfl pz4
      obtain ⟨q5, lv6, rfl, g5, pz6⟩ := lo_int rfl pz5
      obtain ⟨q6, lv7, rfl, g6, pz7⟩ := lo_int rfl pz6
      obtain ⟨q7, lv8, rfl, g7, pz8⟩ := lo_int rfl pz7
      cases lo_nil pz8
      unfold vn at g1 g2 g3 g4 g5 g6 g7
      rw [nm_x hx' (k := 7) rfl] at g1
      rw [nm_x hx' (k := 2) rfl] at g2
      rw [nm_x hx' (k := 3) rfl] at g3
      rw [nm_x hx' (k := 4) rfl] at g4
      rw [nm_x hx' (k := 0) rfl] at g5
      rw [nm_x hx' (k := 5) rfl] at g6 g7
      dsimp only at g1 g2 g3 g4 g5 g6 g7
      have r1 : q1 = zk := Int32.toInt_inj.mp (by omega)
      have r2 : q2 = zl := Int32.toInt_inj.mp (by omega)
      have r3 : q3 = zf := Int32.toInt_inj.mp (by omega)
      have r4 : q4 = zm := Int32.toInt_inj.mp (by omega)
      subst r1 r2 r3 r4
      exact k2 ws5 q5 q6 q7 hcan hw5 (hf2.tr (wsub_ok (V := []) rfl hf5)) (hc2.fr hn4 hf5 (fun _ _ => rfl)) (by omega) (by omega) (by omega)
    · have hneg : z'.toInt < 0 ∧ ai_fr md_W ws ws2 := by
        by_cases hin : 0 ≤ zt.toInt ∧ zt.toInt < n
        · rw [if_pos hin] at hP
          have ht : zt.toInt.toNat < n := by omega
          have hno : ¬ (1 ≤ E 16 ∧ E (8 + zt.toInt.toNat) < E (4 + zt.toInt.toNat)) := fun h => hcan ⟨hin.1, hin.2, h.1, h.2⟩
          have := (ev_pr_can ht hg).2 hno
          exact ⟨by rw [hP.2.2]; omega, mp_sub (by omega) hP.1⟩
        · rw [if_neg hin] at hP
          exact ⟨by rw [hP.2]; omega, wsub_ok (V := []) rfl hP.1⟩
      refine hsum (st := (148, md_l8, [(1, 6, 0, 0)], md_e8 (-2147483648) (-1), [], [])) md_r148n rfl C (r := [0, 0, la, f, (N : Int), (i : Int), z'.toInt, (k : Int)]) ⟨en_mk (by simp only [md_e8, en_b, and_true]; omega) rfl, sb0, lo8 (rr := []), ⟨int_dv (z := z'.toInt) rfl (by omega), trivial⟩, hw2, k0, fun _ _ _ _ h => h, fun h => by cases h⟩ (fun x hx r' lv' sk' ws5 hx' hb hl hs hlo hsk hw5 hv hf5 _ => ?_)
      rw [List.mem_singleton.mp hx] at hlo hsk ⊢
      obtain ⟨lv1, rfl, pz1⟩ := lo_ref ha hlo
      obtain ⟨q6, lv7, rfl, g6, pz2⟩ := lo_int rfl pz1
      cases lo_nil pz2
      unfold vn at g6
      rw [nm_x hx' (k := 5) rfl] at g6
      dsimp only at g6
      obtain ⟨x1, s1, rfl, d1, g4⟩ := hsk.cons
      obtain ⟨x2, s2, rfl, d2, g4⟩ := g4.cons
      obtain ⟨x3, s3, rfl, d3, g4⟩ := g4.cons
      cases g4.nil
      obtain ⟨zto, rfl, hzto⟩ := dvn d1 (hx'.at (k := 0) rfl)
      obtain ⟨zfr, rfl, hzfr⟩ := dvn d2 (hx'.at (k := 0) rfl)
      have hx3 : x3 = .ref a := by
        rcases d3 with ⟨-, q, q1, q2⟩ | ⟨q, -⟩ | ⟨q, -⟩ | ⟨q, -⟩ | ⟨q, -⟩
        · rw [q2, Option.some.inj (q1.symm.trans ha)]
        all_goals exact absurd q (by decide)
      subst hx3
      have fr5 : ai_fr md_W ws ws5 := hneg.2.tr (wsub_ok (V := []) rfl hf5)
      refine hcallV (q := (174, 0, 134, 2, 6)) (M' := tb_m134) (cl := 49) (a := a) (As := [.int zfr, .int zto]) (rest := []) (rets := [30]) (P := cs_P ad tys 81 0 ws5) C (by decide) (tv_m166.1.1.1 (155, .invokevirtual 174, 3) (List.mem_of_getElem? (i := 88) rfl)) (tv_m166.2 _ (List.mem_of_getElem? (i := 21) rfl)) rfl rfl rfl rfl (by decide) (Nat.le_of_ble_eq_true rfl) rfl rfl rfl rfl hw5 ha (by decide) ?_ ?_ ?_
      · intro pcr hp
        rw [List.mem_singleton.mp hp]
        exact tv_m134.1.1.1 (30, .return_, 1) (List.mem_of_getElem? (i := 19) rfl)
      · intro p2 e2 R2 s2 m2 args2 below2 meth2 c2 Q2 C2 kk
        exact cs_all cs_r2 (by decide +kernel) (by decide) (mm_cx (by decide) C2) hw5 ha (by omega) (by omega) (fun pcr w lv2 hp hP => kk pcr w lv2 hp hP)
      · rintro ws6 ⟨hw6, hf6, hv6⟩
        refine hsum (st := (158, [(0, (0, 49, 0, 0)), (6, (1, 2, 0, 0))], [], [(0, 0, false, 0, 0), (0, 2555, false, 1, 0), (0, 20, false, 2, 0)], [], [])) md_r158 rfl C (r := [0, 0, (i : Int)]) ⟨en_mk (by simp only [en_b, and_true]; omega) rfl, sb0, ⟨rfl, Or.inl ⟨rfl, a, ha, rfl⟩, rfl, int_dv (z := (i : Int)) rfl (by omega), trivial⟩, trivial, hw6, k0, fun _ _ _ _ h => h, fun h => by cases h⟩ (fun x hx r2 lv2 sk2 ws7 hx2 hb2 hl2 hs2 hlo2 hsk2 hw7 hv7 hf7 _ => ?_)
        have hx2' := List.mem_singleton.mp hx
        subst hx2'
        simp (config := { decide := true }) only [bnd_b, lin_b, lin_q, Nat.reduceAdd, Nat.zero_add, Nat.reduceEqDiff, reduceIte, and_true, Int.add_zero] at hb2 hl2
        have h0 := nm_x hx2 (k := 0) rfl
        have h5 := nm_x hx2 (k := 2) rfl
        obtain ⟨zz, rfl, hzz⟩ := sk1 rfl hsk2
        unfold vn at hzz
        dsimp only at hzz
        have f17 : ai_fr [(50, 0, 27)] ws ws7 := ((wsub_ok (V := md_W) (by decide) fr5).tr hf6).tr (wsub_ok (V := []) rfl hf7)
        refine k1 ws7 zz lv2 hcan hw7 f17 (fun j hj => ?_) (by omega)
        have v5 : vi ws5 50 (81 + j) (Ar j) := (hA j hj).fr fr5 (wr_no fun q hq => by
          unfold md_W at hq
          rw [List.mem_singleton.mp hq]
          dsimp only
          omega)
        have v6 := hv6 j _ hj v5
        rw [Nat.zero_add] at v6
        exact v6.fr hf7 rfl
end RDM
section RDI
variable {ad : List Nat} {b : Nat}
theorem int_of {r : List Int} {v : ai_v} {x : Value} (hv : v.1 = 1) (h : ai_dv ad b r v x) : ∃ i : Int32, x = .int i ∧ i.toInt = vn r v := by
  rcases h with ⟨q, -⟩ | ⟨-, z, i, h3, rfl, h5⟩ | ⟨q, -⟩ | ⟨q, -⟩ | ⟨q, -⟩
  · omega
  · refine ⟨i, rfl, ?_⟩
    unfold vn
    rw [nm_of h3]
    exact h5
  all_goals omega
end RDI
section RDN
variable {ad : List Nat} {p : Program} {l : Launch} {e : Env} {R : Room} {s : State} {m : MethodId} {args : Array Value} {below : List Frame} {meth : Method} {c : Code} {D : va_G} {tys : ai_ty} {A : Nat → Prop} {b L : Nat} {sx : Nat → Int32} {cells slots : Nat} {Q : State → Prop}
set_option maxHeartbeats 2000000 in
theorem md_loop {a k n len N : Nat} {ln lr la f : Int} {X Ar : Nat → Int} {zk zl zf zm : Int32} {ws0 : va_W} {res : Nat ⊕ ((Nat → Int) × Nat × Int)} (C : ai_cx tb_m166 10 p R s m args c D tys A b L sx cells slots) (ha : ad[49]? = some a) (hlr : lr = if ln = -1 then -4 else ln) (hk : k < 4) (hn4 : n ≤ 4) (hN : N ≤ 20) (hla : 0 ≤ la ∧ la ≤ 2) (hln : ln = -1 ∨ (0 ≤ ln ∧ ln ≤ 2)) (hlen : len ≤ 40) (ek : zk.toInt = k) (el : zl.toInt = la) (ef : zf.toInt = f) (em : zm.toInt = N)
    (k1 : ∀ (ws' : va_W) (z' : Int32) (lv' : List (Nat × Value)) (i' : Nat), res = .inl i' → ai_wd tb_TY ad tys ws' → ai_fr [(50, 0, 27)] ws0 ws' → (∀ j, j < 27 → vi ws' 50 j (Ar j)) → z'.toInt = -20 - i' → hG tb_m166 p l e R s m args below meth c D A cells slots Q 163 lv' [.int z'] ws')
    (k2 : ∀ (ws' : va_W) (E' : Nat → Int) (i' : Nat) (y : Int) (z5 z6 : Int32), res = .inr (E', i', y) → ai_wd tb_TY ad tys ws' → ai_fr md_W ws0 ws' → pev ws' 0 n E' → good n E' → i' ≤ 20 → (0 ≤ y ∧ y ≤ 3) → z5.toInt = y → z6.toInt = i' → hG tb_m166 p l e R s m args below meth c D A cells slots Q 173 [(0, .ref a), (5, .int z5), (6, .int z6)] [] ws') :
    ∀ (q i : Nat) (E : Nat → Int) (z5 z6 z7 : Int32) (ws : va_W), i + q = N → z5.toInt = 0 → z6.toInt = i → z7.toInt = i → rd n ln la f len X q i E = res → ai_wd tb_TY ad tys ws → ai_fr md_W ws0 ws → vi ws 49 1 n → vi ws 57 k lr → vi ws 58 k len → (∀ j, j < len → vi ws 59 (40 * k + j) (X j)) → (∀ j, j < 27 → vi ws 50 (81 + j) (Ar j)) → pev ws 0 n E → good n E →
      hG tb_m166 p l e R s m args below meth c D A cells slots Q 55 [(0, .ref a), (1, .int zk), (2, .int zl), (3, .int zf), (4, .int zm), (5, .int z5), (6, .int z6), (7, .int z7)] [] ws := by
  intro q
  induction q with
  | zero =>
    intro i E z5 z6 z7 ws hiq e5 e6 e7 hres hw hfr hn hv42 hv43 hX hA hc hg
    have bf := ai_irg zf
    have stop : ∀ {r' : List Int} {lv' : List (Nat × Value)} {sk' : List Value} {ws' : va_W}, nm r' 0 = 0 → nm r' 5 = i → ai_lo ad b r' [(0, (0, 49, 0, 0)), (5, (1, 0, 0, 0)), (6, (1, 5, 0, 0))] lv' → ai_sk ad b r' [] sk' → ai_wd tb_TY ad tys ws' → ai_fr [] ws ws' → hG tb_m166 p l e R s m args below meth c D A cells slots Q 173 lv' sk' ws' := fun {r' lv' sk' ws'} h0 h5 hlo hsk hw' hf => by
      obtain ⟨lv1, rfl, pz1⟩ := lo_ref ha hlo
      obtain ⟨y5, lv2, rfl, g5, pz2⟩ := lo_int rfl pz1
      obtain ⟨y6, lv3, rfl, g6, pz3⟩ := lo_int rfl pz2
      cases lo_nil pz3
      cases hsk.nil
      unfold vn at g5 g6
      dsimp only at g5 g6
      exact k2 ws' E i 0 y5 y6 hres.symm hw' (hfr.tr (wsub_ok (V := []) rfl hf)) (hc.fr hn4 hf (fun _ _ => rfl)) hg (by omega) (by omega) (by omega) (by omega)
    by_cases c0 : ln = -1
    · have hlr2 : lr = -4 := by rw [hlr, if_pos c0]
      refine hsum (st := md_h0 k) (List.all_eq_true.mp md_r0 k (List.mem_range.mpr hk)) rfl C (r := [0, 0, la, f, (N : Int), (i : Int), (len : Int), 0]) ⟨en_mk (by simp only [md_h0, cd_en, en_b, and_true]; omega) rfl, sb0, ⟨rfl, Or.inl ⟨rfl, a, ha, rfl⟩, rfl, int_dv (z := 0) rfl (by omega), rfl, int_dv (z := la) rfl (by omega), rfl, int_dv (z := f) rfl (by omega), rfl, int_dv (z := (N : Int)) rfl (by omega), rfl, int_dv (z := 0) rfl (by omega), rfl, int_dv (z := (i : Int)) rfl (by omega), rfl, int_dv (z := (i : Int)) rfl (by omega), trivial⟩, trivial, hw, kc (hv42.kn (n := 0) (t := 0) rfl (by omega)) (kc (hv43.kn (n := 6) (t := (len : Int)) rfl (by omega)) k0), fun _ _ _ _ h => h, fun h => by cases h⟩ (fun x hx r' lv' sk' ws' hx' hb hl hs hlo hsk hw' hv hf _ => ?_)
      have h0 := nm_x hx' (k := 0) rfl
      have h2 := nm_x hx' (k := 2) rfl
      have h3 := nm_x hx' (k := 3) rfl
      have h4 := nm_x hx' (k := 4) rfl
      have h5 := nm_x hx' (k := 5) rfl
      have h6 := nm_x hx' (k := 6) rfl
      unfold md_S0 at hx
      rcases List.mem_cons.mp hx with rfl | hx
      · simp (config := { decide := true }) only [bnd_b, lin_b, lin_q, Nat.reduceAdd, Nat.zero_add, Nat.reduceEqDiff, reduceIte, and_true, Int.add_zero] at hb hl
        exact stop h0 h5 hlo hsk hw' hf
      rcases List.mem_cons.mp hx with rfl | hx
      · simp (config := { decide := true }) only [bnd_b, lin_b, lin_q, Nat.reduceAdd, Nat.zero_add, Nat.reduceEqDiff, reduceIte, and_true, Int.add_zero] at hb hl
        exfalso
        omega
      rcases List.mem_cons.mp hx with rfl | hx
      · simp (config := { decide := true }) only [bnd_b, lin_b, lin_q, Nat.reduceAdd, Nat.zero_add, Nat.reduceEqDiff, reduceIte, and_true, Int.add_zero] at hb hl
        exfalso
        omega
      · cases hx
    by_cases c1 : ln = la
    · have hlr2 : lr = ln := by rw [hlr, if_neg c0]
      refine hsum (st := md_h2 k) (List.all_eq_true.mp md_r2 k (List.mem_range.mpr hk)) rfl C (r := [0, 0, la, f, (N : Int), (i : Int), (len : Int), 0]) ⟨en_mk (by simp only [md_h2, cd_en, en_b, and_true]; omega) rfl, sb0, ⟨rfl, Or.inl ⟨rfl, a, ha, rfl⟩, rfl, int_dv (z := 0) rfl (by omega), rfl, int_dv (z := la) rfl (by omega), rfl, int_dv (z := f) rfl (by omega), rfl, int_dv (z := (N : Int)) rfl (by omega), rfl, int_dv (z := 0) rfl (by omega), rfl, int_dv (z := (i : Int)) rfl (by omega), rfl, int_dv (z := (i : Int)) rfl (by omega), trivial⟩, trivial, hw, kc (hv42.kn (n := 2) (t := la) rfl (by omega)) (kc (hv43.kn (n := 6) (t := (len : Int)) rfl (by omega)) k0), fun _ _ _ _ h => h, fun h => by cases h⟩ (fun x hx r' lv' sk' ws' hx' hb hl hs hlo hsk hw' hv hf _ => ?_)
      have h0 := nm_x hx' (k := 0) rfl
      have h2 := nm_x hx' (k := 2) rfl
      have h3 := nm_x hx' (k := 3) rfl
      have h4 := nm_x hx' (k := 4) rfl
      have h5 := nm_x hx' (k := 5) rfl
      have h6 := nm_x hx' (k := 6) rfl
      unfold md_S2 at hx
      rcases List.mem_cons.mp hx with rfl | hx
      · simp (config := { decide := true }) only [bnd_b, lin_b, lin_q, Nat.reduceAdd, Nat.zero_add, Nat.reduceEqDiff, reduceIte, and_true, Int.add_zero] at hb hl
        exact stop h0 h5 hlo hsk hw' hf
      rcases List.mem_cons.mp hx with rfl | hx
      · simp (config := { decide := true }) only [bnd_b, lin_b, lin_q, Nat.reduceAdd, Nat.zero_add, Nat.reduceEqDiff, reduceIte, and_true, Int.add_zero] at hb hl
        exfalso
        omega
      rcases List.mem_cons.mp hx with rfl | hx
      · simp (config := { decide := true }) only [bnd_b, lin_b, lin_q, Nat.reduceAdd, Nat.zero_add, Nat.reduceEqDiff, reduceIte, and_true, Int.add_zero] at hb hl
        exfalso
        omega
      rcases List.mem_cons.mp hx with rfl | hx
      · simp (config := { decide := true }) only [bnd_b, lin_b, lin_q, Nat.reduceAdd, Nat.zero_add, Nat.reduceEqDiff, reduceIte, and_true, Int.add_zero] at hb hl
        exfalso
        omega
      rcases List.mem_cons.mp hx with rfl | hx
      · simp (config := { decide := true }) only [bnd_b, lin_b, lin_q, Nat.reduceAdd, Nat.zero_add, Nat.reduceEqDiff, reduceIte, and_true, Int.add_zero] at hb hl
        exfalso
        omega
      rcases List.mem_cons.mp hx with rfl | hx
      · simp (config := { decide := true }) only [bnd_b, lin_b, lin_q, Nat.reduceAdd, Nat.zero_add, Nat.reduceEqDiff, reduceIte, and_true, Int.add_zero] at hb hl
        exfalso
        omega
      rcases List.mem_cons.mp hx with rfl | hx
      · simp (config := { decide := true }) only [bnd_b, lin_b, lin_q, Nat.reduceAdd, Nat.zero_add, Nat.reduceEqDiff, reduceIte, and_true, Int.add_zero] at hb hl
        exfalso
        omega
      · cases hx
    · have hlr2 : lr = ln := by rw [hlr, if_neg c0]
      refine hsum (st := md_h1 k) (List.all_eq_true.mp md_r1 k (List.mem_range.mpr hk)) rfl C (r := [0, 0, la, f, (N : Int), (i : Int), (len : Int), ln]) ⟨en_mk (by simp only [md_h1, cd_en, en_b, and_true]; omega) rfl, f140 (za := ln) (zb := la) rfl rfl (by omega), ⟨rfl, Or.inl ⟨rfl, a, ha, rfl⟩, rfl, int_dv (z := 0) rfl (by omega), rfl, int_dv (z := la) rfl (by omega), rfl, int_dv (z := f) rfl (by omega), rfl, int_dv (z := (N : Int)) rfl (by omega), rfl, int_dv (z := 0) rfl (by omega), rfl, int_dv (z := (i : Int)) rfl (by omega), rfl, int_dv (z := (i : Int)) rfl (by omega), trivial⟩, trivial, hw, kc (hv42.kn (n := 7) (t := ln) rfl (by omega)) (kc (hv43.kn (n := 6) (t := (len : Int)) rfl (by omega)) k0), fun _ _ _ _ h => h, fun h => by cases h⟩ (fun x hx r' lv' sk' ws' hx' hb hl hs hlo hsk hw' hv hf _ => ?_)
      have h0 := nm_x hx' (k := 0) rfl
      have h2 := nm_x hx' (k := 2) rfl
      have h3 := nm_x hx' (k := 3) rfl
      have h4 := nm_x hx' (k := 4) rfl
      have h5 := nm_x hx' (k := 5) rfl
      have h6 := nm_x hx' (k := 6) rfl
      unfold md_S1 at hx
      rcases List.mem_cons.mp hx with rfl | hx
      · simp (config := { decide := true }) only [bnd_b, lin_b, lin_q, Nat.reduceAdd, Nat.zero_add, Nat.reduceEqDiff, reduceIte, and_true, Int.add_zero] at hb hl
        exact stop h0 h5 hlo hsk hw' hf
      rcases List.mem_cons.mp hx with rfl | hx
      · simp (config := { decide := true }) only [bnd_b, lin_b, lin_q, Nat.reduceAdd, Nat.zero_add, Nat.reduceEqDiff, reduceIte, and_true, Int.add_zero] at hb hl
        exfalso
        omega
      rcases List.mem_cons.mp hx with rfl | hx
      · simp (config := { decide := true }) only [bnd_b, lin_b, lin_q, Nat.reduceAdd, Nat.zero_add, Nat.reduceEqDiff, reduceIte, and_true, Int.add_zero] at hb hl
        exfalso
        omega
      · cases hx
  | succ q ih =>
    intro i E z5 z6 z7 ws hiq e5 e6 e7 hres hw hfr hn hv42 hv43 hX hA hc hg
    have bf := ai_irg zf
    have stop : ∀ {r' : List Int} {lv' : List (Nat × Value)} {sk' : List Value} {ws' : va_W} {y : Int}, nm r' 0 = 0 → nm r' 5 = i → rd_by ln la len (f + i) = y → y ≠ 0 → (0 ≤ y ∧ y ≤ 3) → ai_lo ad b r' [(0, (0, 49, 0, 0)), (5, (1, 0, 0, y)), (6, (1, 5, 0, 0))] lv' → ai_sk ad b r' [] sk' → ai_wd tb_TY ad tys ws' → ai_fr [] ws ws' → hG tb_m166 p l e R s m args below meth c D A cells slots Q 173 lv' sk' ws' := fun {r' lv' sk' ws' y} h0 h5 hby hy0 hy3 hlo hsk hw' hf => by
      obtain ⟨lv1, rfl, pz1⟩ := lo_ref ha hlo
      obtain ⟨y5, lv2, rfl, g5, pz2⟩ := lo_int rfl pz1
      obtain ⟨y6, lv3, rfl, g6, pz3⟩ := lo_int rfl pz2
      cases lo_nil pz3
      cases hsk.nil
      unfold vn at g5 g6
      dsimp only at g5 g6
      exact k2 ws' E i y y5 y6 (by rw [← hres]; exact rd_end hby hy0) hw' (hfr.tr (wsub_ok (V := []) rfl hf)) (hc.fr hn4 hf (fun _ _ => rfl)) hg (by omega) hy3 (by omega) (by omega)
    by_cases c0 : ln = -1
    · have hlr2 : lr = -4 := by rw [hlr, if_pos c0]
      refine hsum (st := md_h0 k) (List.all_eq_true.mp md_r0 k (List.mem_range.mpr hk)) rfl C (r := [0, 0, la, f, (N : Int), (i : Int), (len : Int), 0]) ⟨en_mk (by simp only [md_h0, cd_en, en_b, and_true]; omega) rfl, sb0, ⟨rfl, Or.inl ⟨rfl, a, ha, rfl⟩, rfl, int_dv (z := 0) rfl (by omega), rfl, int_dv (z := la) rfl (by omega), rfl, int_dv (z := f) rfl (by omega), rfl, int_dv (z := (N : Int)) rfl (by omega), rfl, int_dv (z := 0) rfl (by omega), rfl, int_dv (z := (i : Int)) rfl (by omega), rfl, int_dv (z := (i : Int)) rfl (by omega), trivial⟩, trivial, hw, kc (hv42.kn (n := 0) (t := 0) rfl (by omega)) (kc (hv43.kn (n := 6) (t := (len : Int)) rfl (by omega)) k0), fun _ _ _ _ h => h, fun h => by cases h⟩ (fun x hx r' lv' sk' ws' hx' hb hl hs hlo hsk hw' hv hf _ => ?_)
      have h0 := nm_x hx' (k := 0) rfl
      have h2 := nm_x hx' (k := 2) rfl
      have h3 := nm_x hx' (k := 3) rfl
      have h4 := nm_x hx' (k := 4) rfl
      have h5 := nm_x hx' (k := 5) rfl
      have h6 := nm_x hx' (k := 6) rfl
      unfold md_S0 at hx
      rcases List.mem_cons.mp hx with rfl | hx
      · simp (config := { decide := true }) only [bnd_b, lin_b, lin_q, Nat.reduceAdd, Nat.zero_add, Nat.reduceEqDiff, reduceIte, and_true, Int.add_zero] at hb hl
        exfalso
        omega
      rcases List.mem_cons.mp hx with rfl | hx
      · simp (config := { decide := true }) only [bnd_b, lin_b, lin_q, Nat.reduceAdd, Nat.zero_add, Nat.reduceEqDiff, reduceIte, and_true, Int.add_zero] at hb hl
        exact stop (y := 1) h0 h5 (by unfold rd_by; rw [if_pos c0]) (by decide) (by decide) hlo hsk hw' hf
      rcases List.mem_cons.mp hx with rfl | hx
      · simp (config := { decide := true }) only [bnd_b, lin_b, lin_q, Nat.reduceAdd, Nat.zero_add, Nat.reduceEqDiff, reduceIte, and_true, Int.add_zero] at hb hl
        exact stop (y := 1) h0 h5 (by unfold rd_by; rw [if_pos c0]) (by decide) (by decide) hlo hsk hw' hf
      · cases hx
    by_cases c1 : ln = la
    · have hlr2 : lr = ln := by rw [hlr, if_neg c0]
      refine hsum (st := md_h2 k) (List.all_eq_true.mp md_r2 k (List.mem_range.mpr hk)) rfl C (r := [0, 0, la, f, (N : Int), (i : Int), (len : Int), 0]) ⟨en_mk (by simp only [md_h2, cd_en, en_b, and_true]; omega) rfl, sb0, ⟨rfl, Or.inl ⟨rfl, a, ha, rfl⟩, rfl, int_dv (z := 0) rfl (by omega), rfl, int_dv (z := la) rfl (by omega), rfl, int_dv (z := f) rfl (by omega), rfl, int_dv (z := (N : Int)) rfl (by omega), rfl, int_dv (z := 0) rfl (by omega), rfl, int_dv (z := (i : Int)) rfl (by omega), rfl, int_dv (z := (i : Int)) rfl (by omega), trivial⟩, trivial, hw, kc (hv42.kn (n := 2) (t := la) rfl (by omega)) (kc (hv43.kn (n := 6) (t := (len : Int)) rfl (by omega)) k0), fun _ _ _ _ h => h, fun h => by cases h⟩ (fun x hx r' lv' sk' ws' hx' hb hl hs hlo hsk hw' hv hf _ => ?_)
      have h0 := nm_x hx' (k := 0) rfl
      have h2 := nm_x hx' (k := 2) rfl
      have h3 := nm_x hx' (k := 3) rfl
      have h4 := nm_x hx' (k := 4) rfl
      have h5 := nm_x hx' (k := 5) rfl
      have h6 := nm_x hx' (k := 6) rfl
      unfold md_S2 at hx
      rcases List.mem_cons.mp hx with rfl | hx
      · simp (config := { decide := true }) only [bnd_b, lin_b, lin_q, Nat.reduceAdd, Nat.zero_add, Nat.reduceEqDiff, reduceIte, and_true, Int.add_zero] at hb hl
        exfalso
        omega
      rcases List.mem_cons.mp hx with rfl | hx
      · simp (config := { decide := true }) only [bnd_b, lin_b, lin_q, Nat.reduceAdd, Nat.zero_add, Nat.reduceEqDiff, reduceIte, and_true, Int.add_zero] at hb hl
        exact stop (y := 2) h0 h5 (by unfold rd_by; rw [if_neg c0, if_pos c1, if_neg (by omega)]) (by decide) (by decide) hlo hsk hw' hf
      rcases List.mem_cons.mp hx with rfl | hx
      · simp (config := { decide := true }) only [bnd_b, lin_b, lin_q, Nat.reduceAdd, Nat.zero_add, Nat.reduceEqDiff, reduceIte, and_true, Int.add_zero] at hb hl
        exact stop (y := 2) h0 h5 (by unfold rd_by; rw [if_neg c0, if_pos c1, if_neg (by omega)]) (by decide) (by decide) hlo hsk hw' hf
      rcases List.mem_cons.mp hx with rfl | hx
      · simp (config := { decide := true }) only [bnd_b, lin_b, lin_q, Nat.reduceAdd, Nat.zero_add, Nat.reduceEqDiff, reduceIte, and_true, Int.add_zero] at hb hl
        exact stop (y := 2) h0 h5 (by unfold rd_by; rw [if_neg c0, if_pos c1, if_neg (by omega)]) (by decide) (by decide) hlo hsk hw' hf
      rcases List.mem_cons.mp hx with rfl | hx
      · simp (config := { decide := true }) only [bnd_b, lin_b, lin_q, Nat.reduceAdd, Nat.zero_add, Nat.reduceEqDiff, reduceIte, and_true, Int.add_zero] at hb hl
        exact stop (y := 2) h0 h5 (by unfold rd_by; rw [if_neg c0, if_pos c1, if_neg (by omega)]) (by decide) (by decide) hlo hsk hw' hf
      rcases List.mem_cons.mp hx with rfl | hx
      · simp (config := { decide := true }) only [bnd_b, lin_b, lin_q, Nat.reduceAdd, Nat.zero_add, Nat.reduceEqDiff, reduceIte, and_true, Int.add_zero] at hb hl
        have hs8 : nm r' 8 = f + i := by omega
        have hX9 : nm r' 9 = X (f + i).toNat := fx_row (c := 59) (a := 8) (o := 40 * (k : Int)) hs List.mem_cons_self (by
          rw [hs8, show (f + (i : Int) + 40 * (k : Int)).toNat = 40 * k + (f + i).toNat by omega]
          exact fx_vi' hw rfl (hX _ (by omega)))
        have hby : rd_by ln la len (f + i) = 0 := by unfold rd_by; rw [if_neg c0, if_pos c1, if_pos (by omega)]
        obtain ⟨lv1, rfl, pz1⟩ := lo_ref ha hlo
        obtain ⟨y1, lv2, rfl, d1, pz2⟩ := lo_int rfl pz1
        obtain ⟨y2, lv3, rfl, d2, pz3⟩ := lo_int rfl pz2
        obtain ⟨y3, lv4, rfl, d3, pz4⟩ := lo_int rfl pz3
        obtain ⟨y4, lv5, rfl, d4, pz5⟩ := lo_int rfl pz4
        obtain ⟨y5, lv6, rfl, d5, pz6⟩ := lo_int rfl pz5
        obtain ⟨y6, lv7, rfl, d6, pz7⟩ := lo_int rfl pz6
        obtain ⟨y7, lv8, rfl, d7, pz8⟩ := lo_int rfl pz7
        cases lo_nil pz8
        obtain ⟨x1, s1, rfl, w8, g4⟩ := hsk.cons
        obtain ⟨x2, s2, rfl, d9, g4⟩ := g4.cons
        cases g4.nil
        obtain ⟨y8, rfl, d8⟩ := int_of rfl w8
        have hx2 : x2 = .ref a := by
          rcases d9 with ⟨-, q, q1, q2⟩ | ⟨q, -⟩ | ⟨q, -⟩ | ⟨q, -⟩ | ⟨q, -⟩
          · rw [q2, Option.some.inj (q1.symm.trans ha)]
          all_goals exact absurd q (by decide)
        subst hx2
        unfold vn at d1 d2 d3 d4 d5 d6 d7 d8
        dsimp only at d1 d2 d3 d4 d5 d6 d7 d8
        have r1 : y1 = zk := Int32.toInt_inj.mp (by omega)
        have r2 : y2 = zl := Int32.toInt_inj.mp (by omega)
        have r3 : y3 = zf := Int32.toInt_inj.mp (by omega)
        have r4 : y4 = zm := Int32.toInt_inj.mp (by omega)
        subst r1 r2 r3 r4
        have hXx : X (f + i).toNat = y8.toInt := by rw [← hX9]; omega
        refine md_pull (zt := y8) C ha hk hn4 hN (by omega) hla ek el ef em (by omega) (by omega) (by omega) hw' (hn.fr hf rfl) (hc.fr hn4 hf (fun _ _ => rfl)) hg (fun j hj => (hA j hj).fr hf rfl) (fun ws2 z' lv2 hcan hw2 hf2 hA2 hz => k1 ws2 z' lv2 i (by rw [← hres]; exact rd_no hby hXx hcan) hw2 ((wsub_ok (V := md_W) (by decide) hfr).tr ((wsub_ok (V := []) rfl hf).tr hf2)) hA2 hz) (fun ws2 u5 u6 u7 hcan hw2 hf2 hc2 g5 g6 g7 => ?_)
        have ht : y8.toInt.toNat < n := by
          have := hcan.1
          have := hcan.2.1
          omega
        exact ih (i + 1) (ev_pl E y8.toInt.toNat) u5 u6 u7 ws2 (by omega) g5 (by omega) (by omega) (by rw [← hres]; exact (rd_go hby hXx hcan).symm) hw2 ((hfr.tr (wsub_ok (V := []) rfl hf)).tr (mp_sub (by omega) hf2)) ((hn.fr hf rfl).fr hf2 rfl) ((hv42.fr hf rfl).fr hf2 rfl) ((hv43.fr hf rfl).fr hf2 rfl) (fun j hj => ((hX j hj).fr hf rfl).fr hf2 rfl) (fun j hj => ((hA j hj).fr hf rfl).fr hf2 (wr_no fun q hq => by
          unfold mp_W at hq
          simp only [List.mem_cons, List.not_mem_nil, or_false] at hq
          rcases hq with rfl | rfl | rfl <;> dsimp only <;> omega)) hc2 (good_pl hn4 ht hg)
      rcases List.mem_cons.mp hx with rfl | hx
      · simp (config := { decide := true }) only [bnd_b, lin_b, lin_q, Nat.reduceAdd, Nat.zero_add, Nat.reduceEqDiff, reduceIte, and_true, Int.add_zero] at hb hl
        have hs8 : nm r' 8 = f + i := by omega
        have hX9 : nm r' 10 = X (f + i).toNat := fx_row (c := 59) (a := 8) (o := 40 * (k : Int)) hs List.mem_cons_self (by
          rw [hs8, show (f + (i : Int) + 40 * (k : Int)).toNat = 40 * k + (f + i).toNat by omega]
          exact fx_vi' hw rfl (hX _ (by omega)))
        have hby : rd_by ln la len (f + i) = 0 := by unfold rd_by; rw [if_neg c0, if_pos c1, if_pos (by omega)]
        obtain ⟨lv1, rfl, pz1⟩ := lo_ref ha hlo
        obtain ⟨y1, lv2, rfl, d1, pz2⟩ := lo_int rfl pz1
        obtain ⟨y2, lv3, rfl, d2, pz3⟩ := lo_int rfl pz2
        obtain ⟨y3, lv4, rfl, d3, pz4⟩ := lo_int rfl pz3
        obtain ⟨y4, lv5, rfl, d4, pz5⟩ := lo_int rfl pz4
        obtain ⟨y5, lv6, rfl, d5, pz6⟩ := lo_int rfl pz5
        obtain ⟨y6, lv7, rfl, d6, pz7⟩ := lo_int rfl pz6
        obtain ⟨y7, lv8, rfl, d7, pz8⟩ := lo_int rfl pz7
        cases lo_nil pz8
        obtain ⟨x1, s1, rfl, w8, g4⟩ := hsk.cons
        obtain ⟨x2, s2, rfl, d9, g4⟩ := g4.cons
        cases g4.nil
        obtain ⟨y8, rfl, d8⟩ := int_of rfl w8
        have hx2 : x2 = .ref a := by
          rcases d9 with ⟨-, q, q1, q2⟩ | ⟨q, -⟩ | ⟨q, -⟩ | ⟨q, -⟩ | ⟨q, -⟩
          · rw [q2, Option.some.inj (q1.symm.trans ha)]
          all_goals exact absurd q (by decide)
        subst hx2
        unfold vn at d1 d2 d3 d4 d5 d6 d7 d8
        dsimp only at d1 d2 d3 d4 d5 d6 d7 d8
        have r1 : y1 = zk := Int32.toInt_inj.mp (by omega)
        have r2 : y2 = zl := Int32.toInt_inj.mp (by omega)
        have r3 : y3 = zf := Int32.toInt_inj.mp (by omega)
        have r4 : y4 = zm := Int32.toInt_inj.mp (by omega)
        subst r1 r2 r3 r4
        have hXx : X (f + i).toNat = y8.toInt := by rw [← hX9]; omega
        refine md_pull (zt := y8) C ha hk hn4 hN (by omega) hla ek el ef em (by omega) (by omega) (by omega) hw' (hn.fr hf rfl) (hc.fr hn4 hf (fun _ _ => rfl)) hg (fun j hj => (hA j hj).fr hf rfl) (fun ws2 z' lv2 hcan hw2 hf2 hA2 hz => k1 ws2 z' lv2 i (by rw [← hres]; exact rd_no hby hXx hcan) hw2 ((wsub_ok (V := md_W) (by decide) hfr).tr ((wsub_ok (V := []) rfl hf).tr hf2)) hA2 hz) (fun ws2 u5 u6 u7 hcan hw2 hf2 hc2 g5 g6 g7 => ?_)
        have ht : y8.toInt.toNat < n := by
          have := hcan.1
          have := hcan.2.1
          omega
        exact ih (i + 1) (ev_pl E y8.toInt.toNat) u5 u6 u7 ws2 (by omega) g5 (by omega) (by omega) (by rw [← hres]; exact (rd_go hby hXx hcan).symm) hw2 ((hfr.tr (wsub_ok (V := []) rfl hf)).tr (mp_sub (by omega) hf2)) ((hn.fr hf rfl).fr hf2 rfl) ((hv42.fr hf rfl).fr hf2 rfl) ((hv43.fr hf rfl).fr hf2 rfl) (fun j hj => ((hX j hj).fr hf rfl).fr hf2 rfl) (fun j hj => ((hA j hj).fr hf rfl).fr hf2 (wr_no fun q hq => by
          unfold mp_W at hq
          simp only [List.mem_cons, List.not_mem_nil, or_false] at hq
          rcases hq with rfl | rfl | rfl <;> dsimp only <;> omega)) hc2 (good_pl hn4 ht hg)
      · cases hx
    · have hlr2 : lr = ln := by rw [hlr, if_neg c0]
      refine hsum (st := md_h1 k) (List.all_eq_true.mp md_r1 k (List.mem_range.mpr hk)) rfl C (r := [0, 0, la, f, (N : Int), (i : Int), (len : Int), ln]) ⟨en_mk (by simp only [md_h1, cd_en, en_b, and_true]; omega) rfl, f140 (za := ln) (zb := la) rfl rfl (by omega), ⟨rfl, Or.inl ⟨rfl, a, ha, rfl⟩, rfl, int_dv (z := 0) rfl (by omega), rfl, int_dv (z := la) rfl (by omega), rfl, int_dv (z := f) rfl (by omega), rfl, int_dv (z := (N : Int)) rfl (by omega), rfl, int_dv (z := 0) rfl (by omega), rfl, int_dv (z := (i : Int)) rfl (by omega), rfl, int_dv (z := (i : Int)) rfl (by omega), trivial⟩, trivial, hw, kc (hv42.kn (n := 7) (t := ln) rfl (by omega)) (kc (hv43.kn (n := 6) (t := (len : Int)) rfl (by omega)) k0), fun _ _ _ _ h => h, fun h => by cases h⟩ (fun x hx r' lv' sk' ws' hx' hb hl hs hlo hsk hw' hv hf _ => ?_)
      have h0 := nm_x hx' (k := 0) rfl
      have h2 := nm_x hx' (k := 2) rfl
      have h3 := nm_x hx' (k := 3) rfl
      have h4 := nm_x hx' (k := 4) rfl
      have h5 := nm_x hx' (k := 5) rfl
      have h6 := nm_x hx' (k := 6) rfl
      unfold md_S1 at hx
      rcases List.mem_cons.mp hx with rfl | hx
      · simp (config := { decide := true }) only [bnd_b, lin_b, lin_q, Nat.reduceAdd, Nat.zero_add, Nat.reduceEqDiff, reduceIte, and_true, Int.add_zero] at hb hl
        exfalso
        omega
      rcases List.mem_cons.mp hx with rfl | hx
      · simp (config := { decide := true }) only [bnd_b, lin_b, lin_q, Nat.reduceAdd, Nat.zero_add, Nat.reduceEqDiff, reduceIte, and_true, Int.add_zero] at hb hl
        exact stop (y := 3) h0 h5 (by unfold rd_by; rw [if_neg c0, if_neg c1]) (by decide) (by decide) hlo hsk hw' hf
      rcases List.mem_cons.mp hx with rfl | hx
      · simp (config := { decide := true }) only [bnd_b, lin_b, lin_q, Nat.reduceAdd, Nat.zero_add, Nat.reduceEqDiff, reduceIte, and_true, Int.add_zero] at hb hl
        exact stop (y := 3) h0 h5 (by unfold rd_by; rw [if_neg c0, if_neg c1]) (by decide) (by decide) hlo hsk hw' hf
      · cases hx
end RDN
