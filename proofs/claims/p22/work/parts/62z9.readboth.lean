section RDB
variable {ad : List Nat} {p : Program} {l : Launch} {e : Env} {R : Room} {s : State} {m : MethodId} {args : Array Value} {below : List Frame} {meth : Method} {c : Code} {D : va_G} {tys : ai_ty} {A : Nat → Prop} {b L : Nat} {sx : Nat → Int32} {cells slots : Nat} {Q : State → Prop}
theorem ra8_un {r' : List Int} {lv' : List (Nat × Value)} {a cl : Nat} {z1 z2 z3 z4 : Int32} (ha : ad[cl]? = some a) (hx' : ai_x [0, 0, z1.toInt, z2.toInt, z3.toInt, z4.toInt] r') (hlo : ai_lo ad b r' [(0, (0, cl, 0, 0)), (1, (1, 2, 0, 0)), (2, (1, 3, 0, 0)), (3, (1, 4, 0, 0)), (4, (1, 5, 0, 0)), (5, (1, 0, 0, 0)), (6, (1, 0, 0, 0)), (7, (1, 0, 0, 0))] lv') : ∃ y5 y6 y7 : Int32, lv' = [(0, .ref a), (1, .int z1), (2, .int z2), (3, .int z3), (4, .int z4), (5, .int y5), (6, .int y6), (7, .int y7)] ∧ y5.toInt = 0 ∧ y6.toInt = 0 ∧ y7.toInt = 0 := by
  obtain ⟨lv1, rfl, pz1⟩ := lo_ref ha hlo
  obtain ⟨y1, lv2, rfl, d1, pz2⟩ := lo_int rfl pz1
  obtain ⟨y2, lv3, rfl, d2, pz3⟩ := lo_int rfl pz2
  obtain ⟨y3, lv4, rfl, d3, pz4⟩ := lo_int rfl pz3
  obtain ⟨y4, lv5, rfl, d4, pz5⟩ := lo_int rfl pz4
  obtain ⟨y5, lv6, rfl, d5, pz6⟩ := lo_int rfl pz5
  obtain ⟨y6, lv7, rfl, d6, pz7⟩ := lo_int rfl pz6
  obtain ⟨y7, lv8, rfl, d7, pz8⟩ := lo_int rfl pz7
  cases lo_nil pz8
  unfold vn at d1 d2 d3 d4 d5 d6 d7
  rw [nm_x hx' (k := 2) rfl] at d1
  rw [nm_x hx' (k := 3) rfl] at d2
  rw [nm_x hx' (k := 4) rfl] at d3
  rw [nm_x hx' (k := 5) rfl] at d4
  rw [nm_x hx' (k := 0) rfl] at d5 d6 d7
  dsimp only at d1 d2 d3 d4 d5 d6 d7
  refine ⟨y5, y6, y7, ?_, by omega, by omega, by omega⟩
  rw [Int32.toInt_inj.mp (show y1.toInt = z1.toInt by omega), Int32.toInt_inj.mp (show y2.toInt = z2.toInt by omega), Int32.toInt_inj.mp (show y3.toInt = z3.toInt by omega), Int32.toInt_inj.mp (show y4.toInt = z4.toInt by omega)]
/-- the sheets, as the class has them -/
def csh (ws : va_W) (Lk : Nat → Int) (Nk : Nat → Nat) (Xk : Nat → Nat → Int) : Prop := ∀ k, k < 4 → vi ws 42 k (Lk k) ∧ vi ws 43 k (Nk k) ∧ (Nk k ≤ 40 ∧ (Lk k = -1 ∨ (0 ≤ Lk k ∧ Lk k ≤ 2))) ∧ ∀ j, j < Nk k → vi ws (45 + k) j (Xk k j)
/-- .. as the reference has them -/
def msh (ws : va_W) (Lk : Nat → Int) (Nk : Nat → Nat) (Xk : Nat → Nat → Int) : Prop := ∀ k, k < 4 → vi ws 57 k (if Lk k = -1 then -4 else Lk k) ∧ vi ws 58 k (Nk k) ∧ (Nk k ≤ 40 ∧ (Lk k = -1 ∨ (0 ≤ Lk k ∧ Lk k ≤ 2))) ∧ ∀ j, j < Nk k → vi ws 59 (40 * k + j) (Xk k j)
theorem csh.fr {W : List (Nat × Nat × Nat)} {ws ws' : va_W} {Lk : Nat → Int} {Nk : Nat → Nat} {Xk : Nat → Nat → Int} (h : csh ws Lk Nk Xk) (hf : ai_fr W ws ws') (hw : (nowr W 42 && (nowr W 43 && (nowr W 45 && (nowr W 46 && (nowr W 47 && nowr W 48))))) = true) : csh ws' Lk Nk Xk := by
  rw [Bool.and_eq_true, Bool.and_eq_true, Bool.and_eq_true, Bool.and_eq_true, Bool.and_eq_true] at hw
  obtain ⟨w1, w2, w5, w6, w7, w8⟩ := hw
  intro k hk
  obtain ⟨a1, a2, a3, a4⟩ := h k hk
  refine ⟨a1.fr hf (nowr_ok w1 k k), a2.fr hf (nowr_ok w2 k k), a3, fun j hj => (a4 j hj).fr hf ?_⟩
  match k, hk with
  | 0, _ => exact nowr_ok w5 j j
  | 1, _ => exact nowr_ok w6 j j
  | 2, _ => exact nowr_ok w7 j j
  | 3, _ => exact nowr_ok w8 j j
  | k + 4, h => exact absurd h (by omega)
theorem msh.fr {W : List (Nat × Nat × Nat)} {ws ws' : va_W} {Lk : Nat → Int} {Nk : Nat → Nat} {Xk : Nat → Nat → Int} (h : msh ws Lk Nk Xk) (hf : ai_fr W ws ws') (hw : (nowr W 57 && (nowr W 58 && nowr W 59)) = true) : msh ws' Lk Nk Xk := by
  rw [Bool.and_eq_true, Bool.and_eq_true] at hw
  obtain ⟨w1, w2, w3⟩ := hw
  intro k hk
  obtain ⟨a1, a2, a3, a4⟩ := h k hk
  exact ⟨a1.fr hf (nowr_ok w1 k k), a2.fr hf (nowr_ok w2 k k), a3, fun j hj => (a4 j hj).fr hf (nowr_ok w3 _ _)⟩
set_option maxHeartbeats 1000000 in
theorem cd_all {a a1 a7 n : Nat} {E : Nat → Int} {Lk : Nat → Int} {Nk : Nat → Nat} {Xk : Nat → Nat → Int} {z1 z2 z3 z4 : Int32} {ws : va_W} (C : ai_cx tb_m91 10 p R s m args c D tys A b L sx cells slots) (hw : ai_wd tb_TY ad tys ws) (ha : ad[0]? = some a) (ha1 : ad[1]? = some a1) (ha7 : ad[7]? = some a7) (hn4 : n ≤ 4) (hn : vi ws 1 0 n) (hc : cev ws 1 n E) (hg : good n E) (hsh : csh ws Lk Nk Xk)
    (k : ∀ (pcr : Nat) (ws' : va_W) (z' : Int32) (lv' : List (Nat × Value)), pcr ∈ [28, 114, 153] → cd_P ad tys n E (Lk z1.toInt.toNat) (Nk z1.toInt.toNat) (Xk z1.toInt.toNat) z1.toInt z2.toInt z3.toInt z4.toInt ws ws' z' → hG tb_m91 p l e R s m args below meth c D A cells slots Q pcr lv' [.int z'] ws') : hG tb_m91 p l e R s m args below meth c D A cells slots Q 0 [(0, .ref a), (1, .int z1), (2, .int z2), (3, .int z3), (4, .int z4)] [] ws := by
  by_cases hok : rd_ok z1.toInt z2.toInt z4.toInt
  rotate_left
  · exact cd_bad C hw ha hok (fun ws' z' lv' h1 h2 h3 => k 28 ws' z' lv' (by decide) ⟨h1, fun h => absurd h hok, fun _ => ⟨h2, h3⟩⟩)
  · have hok' := hok
    obtain ⟨q1, q2, q3, q4⟩ := hok'
    obtain ⟨o1, o2⟩ := ra5_ok (ad := ad) (b := b) (z3 := z3) ha q1 q2 ⟨q3, q4⟩
    refine hsum (st := ra5_st 0 0 0 3 0 2 0 20) cd_c1 rfl C ⟨o1, sb0, o2, trivial, hw, k0, fun _ _ _ _ h => h, fun h => by cases h⟩ (fun x hx r' lv' sk' ws1 hx' hb hl hs hlo hsk hw1 hv hf1 _ => ?_)
    rw [List.mem_singleton.mp hx] at hlo hsk ⊢
    have e1 := ra5_un ha hx' hlo
    subst e1
    obtain ⟨x1, s1, rfl, d1, g4⟩ := hsk.cons
    obtain ⟨x2, s2, rfl, d2, g5⟩ := g4.cons
    cases g5.nil
    have e2 := ref_of ha1 d1
    have e3 := ref_of ha7 d2
    subst e2 e3
    refine hcallV (q := (84, 0, 1, 1, 0)) (M' := tb_m1) (cl := 7) (a := a7) (As := [.ref a1]) (rest := []) (rets := [103]) (P := bc_P ad tys 1 7 ws1) C (by decide) (tv_m91.1.1.1 (37, .invokevirtual 84, 3) (List.mem_of_getElem? (i := 19) rfl)) (tv_m91.2 _ (List.mem_of_getElem? (i := 3) rfl)) rfl rfl rfl rfl (by decide) (Nat.le_of_ble_eq_true rfl) rfl rfl rfl rfl hw1 ha7 (by decide) ?_ ?_ ?_
    · intro pcr hp
      rw [List.mem_singleton.mp hp]
      exact tv_m1.1.1.1 (103, .return_, 1) (List.mem_of_getElem? (i := 56) rfl)
    · intro p2 e2 R2 s2 m2 args2 below2 meth2 c2 Q2 C2 kk
      exact bc_all bc_r1 bc_T1 (mm_cx (by decide) C2) hw1 ha7 ha1 (fun pcr w lv2 hp hP => kk pcr w lv2 hp hP)
    · intro ws2 hbc
      refine hsum (st := ra5_st 0 40 0 3 0 2 0 20) cd_c2 rfl C ⟨o1, sb0, o2, trivial, hbc.1, k0, fun _ _ _ _ h => h, fun h => by cases h⟩ (fun x hx r' lv' sk' ws3 hx' hb hl hs hlo hsk hw3 hv hf3 _ => ?_)
      rw [List.mem_singleton.mp hx] at hlo hsk ⊢
      obtain ⟨y5, y6, y7, e1, t5, t6, t7⟩ := ra8_un ha hx' hlo
      subst e1
      cases hsk.nil
      obtain ⟨kk, hkk⟩ : ∃ kk : Nat, z1.toInt = (kk : Int) := ⟨z1.toInt.toNat, by omega⟩
      have hk4 : kk < 4 := by omega
      have hkt : z1.toInt.toNat = kk := by omega
      have f02 : ai_fr (bc_W 7) ws ws2 := (wsub_ok (V := []) rfl hf1).tr hbc.2.1
      have f03 : ai_fr (bc_W 7) ws ws3 := f02.tr (wsub_ok (V := []) rfl hf3)
      obtain ⟨u1, u2, u3, u4⟩ := (hsh.fr f03 (by decide)) kk hk4
      have hn3 : vi ws3 7 0 n := (hbc.2.2.1 0 _ (by decide) (hn.fr hf1 rfl)).fr hf3 rfl
      have hc3 : cev ws3 7 n E := (cev_bc hn4 hbc (hc.fr hf1 rfl)).fr hf3 rfl
      refine cd_loop (ws0 := ws3) (N := z4.toInt.toNat) (res := rd n (Lk kk) z2.toInt z3.toInt (Nk kk) (Xk kk) z4.toInt.toNat 0 E) C ha ha7 hk4 hn4 (by omega) q2 u3.2 u3.1 hkk rfl rfl (by omega) (fun ws' z' lv' i' hres hw' hfr hz => ?_) (fun ws' E' i' y w5 w6 hres hw' hfr hc' hg' hi' hy v5 v6 => ?_) z4.toInt.toNat 0 E y5 y6 y7 ws3 (by omega) t5 t6 t7 rfl hw3 (fun _ _ _ _ h => h) hn3 u1 u2 u4 hc3 hg
      · refine k 114 ws' z' lv' (by decide) ⟨hw', fun _ => ?_, fun h => absurd hok h⟩
        rw [hkt, hres]
        exact ⟨f03.tr (wsub_ok (V := cd_W) (by decide) hfr), hz⟩
      · refine hsum (st := (134, ra5_l3 0, [], ra5_e3, [], [])) cd_c3 rfl C (r := [0, 0, y, (i' : Int)]) ⟨en_mk (by simp only [ra5_e3, en_b, and_true]; omega) rfl, sb0, ⟨rfl, Or.inl ⟨rfl, a, ha, rfl⟩, rfl, int_dv (z := y) rfl (by omega), rfl, int_dv (z := (i' : Int)) rfl (by omega), trivial⟩, trivial, hw', k0, fun _ _ _ _ h => h, fun h => by cases h⟩ (fun x hx r2 lv2 sk2 ws5 hx2 hb2 hl2 hs2 hlo2 hsk2 hw5 hv2 hf5 _ => ?_)
        rw [List.mem_singleton.mp hx] at hlo2 hsk2 ⊢
        obtain ⟨lv1, rfl, pz1⟩ := lo_ref ha hlo2
        obtain ⟨b5, lv3, rfl, d5, pz2⟩ := lo_int rfl pz1
        obtain ⟨b6, lv4, rfl, d6, pz3⟩ := lo_int rfl pz2
        cases lo_nil pz3
        unfold vn at d5 d6
        rw [nm_x hx2 (k := 2) rfl] at d5
        rw [nm_x hx2 (k := 3) rfl] at d6
        dsimp only at d5 d6
        obtain ⟨x1, s1, rfl, d1, g4⟩ := hsk2.cons
        obtain ⟨x2, s2, rfl, d2, g5⟩ := g4.cons
        cases g5.nil
        have e2 := ref_of ha7 d1
        have e3 := ref_of ha1 d2
        subst e2 e3
        refine hcallV (q := (84, 0, 1, 1, 0)) (M' := tb_m1) (cl := 1) (a := a1) (As := [.ref a7]) (rest := []) (rets := [103]) (P := bc_P ad tys 7 1 ws5) C (by decide) (tv_m91.1.1.1 (142, .invokevirtual 84, 3) (List.mem_of_getElem? (i := 73) rfl)) (tv_m91.2 _ (List.mem_of_getElem? (i := 3) rfl)) rfl rfl rfl rfl (by decide) (Nat.le_of_ble_eq_true rfl) rfl rfl rfl rfl hw5 ha1 (by decide) ?_ ?_ ?_
        · intro pcr hp
          rw [List.mem_singleton.mp hp]
          exact tv_m1.1.1.1 (103, .return_, 1) (List.mem_of_getElem? (i := 56) rfl)
        · intro p2 e2 R2 s2 m2 args2 below2 meth2 c2 Q2 C2 kk
          exact bc_all bc_r2 bc_T7 (mm_cx (by decide) C2) hw5 ha1 ha7 (fun pcr w lv2 hp hP => kk pcr w lv2 hp hP)
        · intro ws6 hbc6
          refine hsum (st := (145, ra5_l3 0, [], ra5_e3, [], [])) cd_c4 rfl C (r := [0, 0, y, (i' : Int)]) ⟨en_mk (by simp only [ra5_e3, en_b, and_true]; omega) rfl, sb0, ⟨rfl, Or.inl ⟨rfl, a, ha, rfl⟩, rfl, int_dv (z := y) rfl (by omega), rfl, int_dv (z := (i' : Int)) rfl (by omega), trivial⟩, trivial, hbc6.1, k0, fun _ _ _ _ h => h, fun h => by cases h⟩ (fun x hx r3 lv5 sk3 ws7 hx3 hb3 hl3 hs3 hlo3 hsk3 hw7 hv3 hf7 _ => ?_)
          have hx4 := List.mem_singleton.mp hx
          subst hx4
          obtain ⟨zz, rfl, hzz⟩ := sk1 rfl hsk3
          unfold vn at hzz
          rw [nm_x hx3 (k := 3) rfl] at hzz
          dsimp only at hzz
          obtain ⟨w10, -⟩ := hv3
          have w10' : vi ws7 0 10 y := w10.eq (by rw [nm_x hx3 (k := 2) rfl]; show y + 0 = y; omega)
          have f35 : ai_fr cd_W ws3 ws5 := hfr.tr (wsub_ok (V := []) rfl hf5)
          refine k 153 ws7 zz lv5 (by decide) ⟨hw7, fun _ => ?_, fun h => absurd hok h⟩
          rw [hkt, hres]
          refine ⟨?_, (cev_bc hn4 hbc6 (hc'.fr hf5 rfl)).fr hf7 rfl, hg', ?_, fun z hz => ?_, fun j z hj hz => ?_, w10', by omega⟩
          · exact ((wsub_ok (V := bc_W 7) (by decide) (f03.tr (wsub_ok (V := cd_W) (by decide) f35))).tr (wsub_ok (V := bc_W 1) (by decide) hbc6.2.1)).tr (wsub_ok (by decide) hf7)
          · exact (hbc6.2.2.1 0 _ (by decide) (hn3.fr f35 rfl)).fr hf7 rfl
          · exact (hbc6.2.2.1 3 _ (by decide) (((hbc.2.2.1 3 _ (by decide) (hz.fr hf1 rfl)).fr hf3 rfl).fr f35 rfl)).fr hf7 rfl
          · exact (hbc6.2.2.2.2 j _ hj (((hbc.2.2.2.2 j _ hj (hz.fr hf1 rfl)).fr hf3 rfl).fr f35 rfl)).fr hf7 rfl
set_option maxHeartbeats 1000000 in
theorem md_all {a n : Nat} {E : Nat → Int} {Lk : Nat → Int} {Nk : Nat → Nat} {Xk : Nat → Nat → Int} {z1 z2 z3 z4 : Int32} {ws : va_W} (C : ai_cx tb_m166 10 p R s m args c D tys A b L sx cells slots) (hw : ai_wd tb_TY ad tys ws) (ha : ad[49]? = some a) (hn4 : n ≤ 4) (hn : vi ws 49 1 n) (hc : pev ws 0 n E) (hg : good n E) (hsh : msh ws Lk Nk Xk)
    (k : ∀ (pcr : Nat) (ws' : va_W) (z' : Int32) (lv' : List (Nat × Value)), pcr ∈ [38, 163, 181] → md_P ad tys n E (Lk z1.toInt.toNat) (Nk z1.toInt.toNat) (Xk z1.toInt.toNat) z1.toInt z2.toInt z3.toInt z4.toInt ws ws' z' → hG tb_m166 p l e R s m args below meth c D A cells slots Q pcr lv' [.int z'] ws') : hG tb_m166 p l e R s m args below meth c D A cells slots Q 0 [(0, .ref a), (1, .int z1), (2, .int z2), (3, .int z3), (4, .int z4)] [] ws := by
  by_cases hok : rd_ok z1.toInt z2.toInt z4.toInt
  rotate_left
  · exact md_bad C hw ha hok (fun ws' z' lv' h1 h2 h3 => k 38 ws' z' lv' (by decide) ⟨h1, fun h => absurd h hok, fun _ => ⟨h2, h3⟩⟩)
  · have hok' := hok
    obtain ⟨q1, q2, q3, q4⟩ := hok'
    obtain ⟨o1, o2⟩ := ra5_ok (ad := ad) (b := b) (z3 := z3) ha q1 q2 ⟨q3, q4⟩
    obtain ⟨K, hK⟩ := vi_rowsP (k := 50) hw rfl
    refine hsum (st := ra5_st 49 0 0 3 0 2 0 20) md_c1 rfl C ⟨o1, sb0, o2, trivial, hw, k0, fun _ _ _ _ h => h, fun h => by cases h⟩ (fun x hx r' lv' sk' ws1 hx' hb hl hs hlo hsk hw1 hv hf1 _ => ?_)
    rw [List.mem_singleton.mp hx] at hlo hsk ⊢
    have e1 := ra5_un ha hx' hlo
    subst e1
    obtain ⟨x1, s1, rfl, d1, g4⟩ := hsk.cons
    obtain ⟨x2, s2, rfl, d2, g5⟩ := g4.cons
    obtain ⟨x3, s3, rfl, d3, g6⟩ := g5.cons
    cases g6.nil
    obtain ⟨zto, rfl, hzto⟩ := dvn d1 (hx'.at (k := 0) rfl)
    obtain ⟨zfr, rfl, hzfr⟩ := dvn d2 (hx'.at (k := 0) rfl)
    have e3 := ref_of ha d3
    subst e3
    refine hcallV (q := (174, 0, 134, 2, 6)) (M' := tb_m134) (cl := 49) (a := a) (As := [.int zfr, .int zto]) (rest := []) (rets := [30]) (P := cs_P ad tys 0 81 ws1) C (by decide) (tv_m166.1.1.1 (43, .invokevirtual 174, 3) (List.mem_of_getElem? (i := 23) rfl)) (tv_m166.2 _ (List.mem_of_getElem? (i := 21) rfl)) rfl rfl rfl rfl (by decide) (Nat.le_of_ble_eq_true rfl) rfl rfl rfl rfl hw1 ha (by decide) ?_ ?_ ?_
    · intro pcr hp
      rw [List.mem_singleton.mp hp]
      exact tv_m134.1.1.1 (30, .return_, 1) (List.mem_of_getElem? (i := 19) rfl)
    · intro p2 e2 R2 s2 m2 args2 below2 meth2 c2 Q2 C2 kk
      exact cs_all cs_r1 (by decide +kernel) (by decide) (mm_cx (by decide) C2) hw1 ha (by omega) (by omega) (fun pcr w lv2 hp hP => kk pcr w lv2 hp hP)
    · intro ws2 hcs
      refine hsum (st := ra5_st 49 46 0 3 0 2 0 20) md_c2 rfl C ⟨o1, sb0, o2, trivial, hcs.1, k0, fun _ _ _ _ h => h, fun h => by cases h⟩ (fun x hx r' lv' sk' ws3 hx' hb hl hs hlo hsk hw3 hv hf3 _ => ?_)
      rw [List.mem_singleton.mp hx] at hlo hsk ⊢
      obtain ⟨y5, y6, y7, e1, t5, t6, t7⟩ := ra8_un ha hx' hlo
      subst e1
      cases hsk.nil
      obtain ⟨kk, hkk⟩ : ∃ kk : Nat, z1.toInt = (kk : Int) := ⟨z1.toInt.toNat, by omega⟩
      have hk4 : kk < 4 := by omega
      have hkt : z1.toInt.toNat = kk := by omega
      have f03 : ai_fr [(50, 81, 108)] ws ws3 := ((wsub_ok (V := []) rfl hf1).tr hcs.2.1).tr (wsub_ok (V := []) rfl hf3)
      obtain ⟨u1, u2, u3, u4⟩ := (hsh.fr f03 (by decide)) kk hk4
      have hn3 : vi ws3 49 1 n := hn.fr f03 rfl
      have hc3 : pev ws3 0 n E := hc.fr hn4 f03 (fun j hj => wr_no fun q hq => by
        rw [List.mem_singleton.mp hq]
        dsimp only
        omega)
      have hA : ∀ j, j < 27 → vi ws3 50 (81 + j) (K j) := fun j hj => (hcs.2.2 j _ hj (by rw [Nat.zero_add]; exact (hK j (by omega)).1.fr hf1 rfl)).fr hf3 rfl
      refine md_loop (ws0 := ws3) (N := z4.toInt.toNat) (Ar := K) (res := rd n (Lk kk) z2.toInt z3.toInt (Nk kk) (Xk kk) z4.toInt.toNat 0 E) C ha rfl hk4 hn4 (by omega) q2 u3.2 u3.1 hkk rfl rfl (by omega) (fun ws' z' lv' i' hres hw' hfr hA' hz => ?_) (fun ws' E' i' y w5 w6 hres hw' hfr hc' hg' hi' hy v5 v6 => ?_) z4.toInt.toNat 0 E y5 y6 y7 ws3 (by omega) t5 t6 t7 rfl hw3 (fun _ _ _ _ h => h) hn3 u1 u2 u4 hA hc3 hg
      · refine k 163 ws' z' lv' (by decide) ⟨hw', fun _ => ?_, fun h => absurd hok h⟩
        rw [hkt, hres]
        refine ⟨(wsub_ok (V := [(50, 81, 108)]) (by decide) f03).tr (wsub_ok (V := [(50, 0, 27)]) (by decide) hfr), fun j z hj hz2 => ?_, hz⟩
        rw [hz2.fun (hK j (by omega)).1]
        exact hA' j hj
      · refine hsum (st := (173, ra5_l3 49, [], ra5_e3, [], [])) md_c3 rfl C (r := [0, 0, y, (i' : Int)]) ⟨en_mk (by simp only [ra5_e3, en_b, and_true]; omega) rfl, sb0, ⟨rfl, Or.inl ⟨rfl, a, ha, rfl⟩, rfl, int_dv (z := y) rfl (by omega), rfl, int_dv (z := (i' : Int)) rfl (by omega), trivial⟩, trivial, hw', k0, fun _ _ _ _ h => h, fun h => by cases h⟩ (fun x hx r3 lv5 sk3 ws7 hx3 hb3 hl3 hs3 hlo3 hsk3 hw7 hv3 hf7 _ => ?_)
        have hx4 := List.mem_singleton.mp hx
        subst hx4
        obtain ⟨zz, rfl, hzz⟩ := sk1 rfl hsk3
        unfold vn at hzz
        rw [nm_x hx3 (k := 3) rfl] at hzz
        dsimp only at hzz
        obtain ⟨w10, -⟩ := hv3
        have w10' : vi ws7 49 24 y := w10.eq (by rw [nm_x hx3 (k := 2) rfl]; show y + 0 = y; omega)
        refine k 181 ws7 zz lv5 (by decide) ⟨hw7, fun _ => ?_, fun h => absurd hok h⟩
        rw [hkt, hres]
        exact ⟨((wsub_ok (V := [(50, 81, 108)]) (by decide) f03).tr (wsub_ok (V := md_W) (by decide) hfr)).tr (wsub_ok (by decide) hf7), hc'.fr hn4 hf7 (fun _ _ => rfl), w10', by omega⟩
end RDB
