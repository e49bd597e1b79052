theorem lr_meanA : lw_A 795 816 4 = true := by decide +kernel
theorem lr_meanB : lw_BJ 816 840 4 true = true := by decide +kernel
theorem lr_meanC : lw_CJ 840 true = true := by decide +kernel
/-! mean, compared -/
theorem sum_moved {F : Nat → Int} {Z : Nat} : sumN (fun x => F x * slF Z 1 x) (Z + 1) = sumN (fun x => F x * (x : Int)) (Z + 1) := sumN_ext fun x _ => by
  try dsimp only
  unfold slF
  rw [if_pos rfl]
theorem me_ans {W X A : Int} {u a n i f : Nat} (w : Int) (eu : X = u) (ea : A = a) (hA : A = tenP i) (hn : n = i + f) (hW : tenP f * X = W) : ansF u a w = ansF W.toNat (tenP n).toNat w := by
  have tp := tenP_pos f
  obtain ⟨k, hk⟩ : ∃ k : Nat, tenP f = (k : Int) := ⟨(tenP f).toNat, by omega⟩
  have e1 : W.toNat = u * k := by
    rw [← hW, hk, eu, ← Int.natCast_mul, Int.toNat_natCast, Nat.mul_comm]
  have e2 : (tenP n).toNat = a * k := by
    rw [hn, tenP_add, ← hA, hk, ea, ← Int.natCast_mul, Int.toNat_natCast]
  rw [e1, e2, ansF_k w (by omega)]
theorem me_c0 : ((List.range 4).all fun t => (ai_ex (hk []) 300 77 tb_m77 10 [27] (0, [(0, (0, 0, 0, 0)), (1, (1, 2, 0, 0)), (2, (1, 0, 0, (t : Int))), (3, (1, 3, 0, 0)), (4, (1, 4, 0, 0))], [], [(0, 0, false, 0, 0), (0, 2555, false, 1, 0), (0, 10, false, 2, 0), (0, 8, false, 3, 0), (0, 1, false, 4, 0), ((t : Int) + 1, 4, false, 5, 0)], [(1, 0, (1, 5, 0, 0))], [])).any fun xs => xs.all fun x => ([(27, [(0, (0, 0, 0, 0)), (1, (1, 2, 0, 0)), (2, (1, 0, 0, (t : Int))), (3, (1, 3, 0, 0)), (4, (1, 4, 0, 0))], [(1, 2, 0, 0), (1, 3, 0, 0), (1, 0, 0, (t : Int)), (0, 1, 0, 0), (0, 39, 0, 0)], [], [(0, 0, false, 0, 0), (0, 2555, false, 1, 0), (0, 10, false, 2, 0), (0, 8, false, 3, 0), (0, 1, false, 4, 0), ((t : Int) + 1, 4, false, 5, 0)], [])] : List sm_t).any fun y => sm_is [] x y) = true := by decide +kernel
theorem me_c1 : ((ai_ex (hk []) 300 77 tb_m77 10 [38] (30, [(0, (0, 0, 0, 0)), (4, (1, 2, 0, 0))], [], [(0, 0, false, 0, 0), (0, 2555, false, 1, 0), (0, 1, false, 2, 0)], [], [])).any fun xs => xs.all fun x => ([(38, [(0, (0, 0, 0, 0)), (4, (1, 2, 0, 0))], [(0, 39, 0, 0), (0, 39, 0, 0)], [], [(0, 0, false, 0, 0), (0, 2555, false, 1, 0), (0, 1, false, 2, 0)], [])] : List sm_t).any fun y => sm_is [] x y) = true := by decide +kernel
theorem me_c2 : ((ai_ex (hk []) 300 77 tb_m77 10 [43] (41, [(0, (0, 0, 0, 0)), (4, (1, 2, 0, 0))], [(2, 3, 0, 0), (0, 39, 0, 0)], [(0, 0, false, 0, 0), (0, 2555, false, 1, 0), (0, 1, false, 2, 0), (-9223372036854775808, 9223372036854775807, false, 3, 0)], [], [])).any fun xs => xs.all fun x => ([(43, [], [(1, 2, 0, 0), (2, 3, 0, 0), (0, 39, 0, 0)], [], [(0, 0, false, 0, 0), (0, 2555, false, 1, 0), (0, 1, false, 2, 0), (-9223372036854775808, 9223372036854775807, false, 3, 0)], [])] : List sm_t).any fun y => sm_is [] x y) = true := by decide +kernel
theorem me_m0 : ((List.range 4).all fun t => (ai_ex (hk []) 300 154 tb_m154 10 [19] (0, [(0, (0, 49, 0, 0)), (1, (1, 2, 0, 0)), (2, (1, 0, 0, (t : Int))), (3, (1, 3, 0, 0)), (4, (1, 4, 0, 0))], [], [(0, 0, false, 0, 0), (0, 2555, false, 1, 0), (0, 10, false, 2, 0), (0, 8, false, 3, 0), (0, 1, false, 4, 0), ((t : Int) + 1, 4, false, 5, 0)], [(49, 1, (1, 5, 0, 0))], [])).any fun xs => xs.all fun x => ([(19, [], [(1, 4, 0, 0), (1, 0, 0, 1), (1, 3, 0, 0), (1, 0, 0, (t : Int)), (1, 2, 0, 0), (0, 49, 0, 0)], [], [(0, 0, false, 0, 0), (0, 2555, false, 1, 0), (0, 10, false, 2, 0), (0, 8, false, 3, 0), (0, 1, false, 4, 0), ((t : Int) + 1, 4, false, 5, 0)], [])] : List sm_t).any fun y => sm_is [] x y) = true := by decide +kernel
def me_m1_S : List sm_t := [
  (28, [], [(2, 2, 0, 0)], [], [(0, 0, false, 0, 0), (0, 2555, false, 1, 0), (-9223372036854775808, 9223372036854775807, false, 2, 0)], [])]
theorem me_m1 : ((ai_ex (hk []) 300 154 tb_m154 10 [] (22, [], [(2, 2, 0, 0)], [(0, 0, false, 0, 0), (0, 2555, false, 1, 0), (-9223372036854775808, 9223372036854775807, false, 2, 0)], [], [])).any fun xs => xs.all fun x => (me_m1_S : List sm_t).any fun y => sm_is [] x y) = true := by decide +kernel
theorem me_off {j : Nat} (hj : j < 81) : ai_wr tb_WR7 50 j j = false := wr_no fun q hq => by
  unfold tb_WR7 at hq
  simp only [List.mem_cons, List.not_mem_nil, or_false] at hq
  rcases hq with rfl | rfl | rfl | rfl | rfl | rfl | rfl | rfl | rfl | rfl <;> dsimp only <;> omega
section Xme1
variable {ad : List Nat} {M : ai_m} {d : Nat} {p : Program} {l : Launch} {e : Env} {R9 : Room} {s : State} {m : MethodId} {args : Array Value} {below : List Frame} {meth : Method} {c : Code} {D : va_G} {tys : ai_ty} {A9 : Nat → Prop} {b L : Nat} {sx : Nat → Int32} {cells slots : Nat} {Q : State → Prop}
theorem me_cls {a0 a1 a39 a40 t n nT Z M0 : Nat} {K v PP SS : Int} {zv zt zn zw : Int32} {ws : va_W} (C : ai_cx tb_m77 10 p R9 s m args c D tys A9 b L sx cells slots) (h0 : ad[0]? = some a0) (h1 : ad[1]? = some a1) (h39 : ad[39]? = some a39) (h40 : ad[40]? = some a40) (ht4 : t < 4) (et : zt.toInt = t) (ev : zv.toInt = v) (bv : 0 ≤ v ∧ v ≤ 10) (en : zn.toInt = n) (bn : n < 9) (bw : 0 ≤ zw.toInt ∧ zw.toInt ≤ 1) (hT : t < nT) (hT4 : nT ≤ 4) (hZ : 1 ≤ Z ∧ Z ≤ 99) (hM : M0 ≤ Z) (hK : 0 ≤ K ∧ K ≤ 3) (bP : 0 ≤ PP ∧ PP ≤ 99) (bS : 0 ≤ SS ∧ SS ≤ 20) (hw : ai_wd tb_TY ad tys ws) (v0 : vi ws 1 0 nT) (k1 : vi ws 2 t K) (k2 : vi ws 3 t Z) (k3 : vi ws 4 t M0) (k4 : vi ws 5 t PP) (k5 : vi ws 1 1 SS)
    (kk : ∀ (ws' : va_W) (z : Int64) (lv' : List (Nat × Value)), ai_wd tb_TY ad tys ws' → ai_fr spw_W ws ws' → z.toInt = ansF (wv K v Z (slF Z 1) n M0 PP SS).toNat (tenP n).toNat zw.toInt → hG tb_m77 p l e R9 s m args below meth c D A9 cells slots Q 46 lv' [.long z] ws') : hG tb_m77 p l e R9 s m args below meth c D A9 cells slots Q 0 [(0, .ref a0), (1, .int zv), (2, .int zt), (3, .int zn), (4, .int zw)] [] ws := by
  refine hsum (st := (0, [(0, (0, 0, 0, 0)), (1, (1, 2, 0, 0)), (2, (1, 0, 0, (t : Int))), (3, (1, 3, 0, 0)), (4, (1, 4, 0, 0))], [], [(0, 0, false, 0, 0), (0, 2555, false, 1, 0), (0, 10, false, 2, 0), (0, 8, false, 3, 0), (0, 1, false, 4, 0), ((t : Int) + 1, 4, false, 5, 0)], [(1, 0, (1, 5, 0, 0))], [])) (List.all_eq_true.mp me_c0 t (List.mem_range.mpr (by omega))) rfl C (r := [0, 0, zv.toInt, zn.toInt, zw.toInt, (nT : Int)]) ⟨en_mk (by simp only [en_b, and_true]; omega) rfl, sb0, ⟨rfl, Or.inl ⟨rfl, a0, h0, rfl⟩, rfl, int_dv (z := zv.toInt) rfl (by omega), rfl, int_dv (z := 0) rfl (by omega), rfl, int_dv (z := zn.toInt) rfl (by omega), rfl, int_dv (z := zw.toInt) rfl (by omega), trivial⟩, trivial, hw, kc (v0.kn (n := 5) (t := (nT : Int)) rfl (by omega)) (k0), fun _ _ _ _ h => h, fun h => by cases h⟩ (fun x hx r1 lv1 st1 ws1 hx1 hb1 hl1 hs1 hlo1 hsk1 hw1 hV1 hf1 _ => ?_)
  have hx9 := List.mem_singleton.mp hx
  subst hx9
  dsimp only at hlo1 hsk1 ⊢
  obtain ⟨l10, rfl, p10⟩ := lo_ref h0 hlo1
  obtain ⟨y11, l11, rfl, d11, p11⟩ := lo_int rfl p10
  obtain ⟨y12, l12, rfl, d12, p12⟩ := lo_int rfl p11
  obtain ⟨y13, l13, rfl, d13, p13⟩ := lo_int rfl p12
  obtain ⟨y14, l14, rfl, d14, p14⟩ := lo_int rfl p13
  cases lo_nil p14
  rw [vn_at hx1 (n := 2) (z := zv.toInt) rfl] at d11
  have e11 : zv = y11 := Int32.toInt_inj.mp (by omega)
  subst e11
  rw [vn_at hx1 (n := 0) (z := 0) rfl] at d12
  have e12 : zt = y12 := Int32.toInt_inj.mp (by omega)
  subst e12
  rw [vn_at hx1 (n := 3) (z := zn.toInt) rfl] at d13
  have e13 : zn = y13 := Int32.toInt_inj.mp (by omega)
  subst e13
  rw [vn_at hx1 (n := 4) (z := zw.toInt) rfl] at d14
  have e14 : zw = y14 := Int32.toInt_inj.mp (by omega)
  subst e14
  obtain ⟨x10, s10, rfl, c10, g10⟩ := hsk1.cons
  obtain ⟨x11, s11, rfl, c11, g11⟩ := g10.cons
  obtain ⟨x12, s12, rfl, c12, g12⟩ := g11.cons
  obtain ⟨x13, s13, rfl, c13, g13⟩ := g12.cons
  obtain ⟨x14, s14, rfl, c14, g14⟩ := g13.cons
  cases g14.nil
  obtain ⟨u10, rfl, w10⟩ := dvn c10 (hx1.at (k := 2) rfl)
  obtain ⟨u11, rfl, w11⟩ := dvn c11 (hx1.at (k := 3) rfl)
  obtain ⟨u12, rfl, w12⟩ := dvn c12 (hx1.at (k := 0) rfl)
  have f13 := ref_of h1 c13
  subst f13
  have f14 := ref_of h39 c14
  subst f14
  refine hcallV (q := (192, 0, 18, 4, 1)) (M' := tb_m18) (cl := 39) (a := a39) (As := [.ref a1, .int u12, .int u11, .int u10]) (rest := []) (rets := [122]) (P := fun w => ∃ (F : Nat → Int) (A : Int) (i f : Nat), ai_wd tb_TY ad tys w ∧ ai_fr spw_W ws1 w ∧ vi w 39 2 Z ∧ i + f = n ∧ A = tenP i ∧ vl w 39 1 A ∧ (∀ x, x < 100 → vl w 40 x (F x)) ∧ (∀ x, x < 100 → 0 ≤ F x) ∧ sumN F (Z + 1) = A ∧ ∀ fn, tenP f * sumN (fun x => F x * fn x) (Z + 1) = wv K v Z fn n M0 PP SS) C (by decide) (tv_m77.1.1.1 (27, .invokevirtual 192, 3) (List.mem_of_getElem? (i := 16) rfl)) (tv_m77.2 _ (List.mem_of_getElem? (i := 24) rfl)) rfl rfl rfl rfl (by decide) (Nat.le_of_ble_eq_true rfl) rfl rfl rfl rfl hw1 h39 (Nat.le_of_ble_eq_true rfl) ?_ ?_ ?_
  · intro pcr hp
    simp only [List.mem_cons, List.not_mem_nil, or_false] at hp
    rcases hp with rfl
    · exact tv_m18.1.1.1 (122, .return_, 1) (List.mem_of_getElem? (i := 66) rfl)
  · intro p2 e2 R2 s2 m2 args2 below2 meth2 c2 Q2 C2 kk2
    exact sp_all (v := v) (mm_cx (by decide) C2) h39 h40 h1 (by omega) (by omega) (by omega) ht4 (by omega) (by omega) hZ hM hK bP bS hw1 (k1.fr hf1 rfl) (k2.fr hf1 rfl) (k3.fr hf1 rfl) (k4.fr hf1 rfl) (k5.fr hf1 rfl) (fun w F A i f q1 q2 q3 q4 q5 q6 q7 q8 q9 q10 => kk2 122 w [] (by decide) ⟨F, A, i, f, q1, q2, q3, by omega, q5, q6, q7, q8, q9, fun fn => by rw [q10 fn, show u11.toInt.toNat = n by omega]⟩)
  · intro ws2 hP
    obtain ⟨F, A, i, f, hw2, hf2, t2, hif, hA, vA, hF, nn, hS, hfn⟩ := hP
    have t8 := tenP_8 i (by omega)
    have t1 := tenP_pos i
    refine hG_sub (lv2 := [(0, .ref a0), (4, .int zw)]) (by
      intro q hq
      simp only [List.mem_cons, List.not_mem_nil, or_false] at hq ⊢
      rcases hq with rfl | rfl <;> simp) ?_
    refine hsum (st := (30, [(0, (0, 0, 0, 0)), (4, (1, 2, 0, 0))], [], [(0, 0, false, 0, 0), (0, 2555, false, 1, 0), (0, 1, false, 2, 0)], [], [])) me_c1 rfl C (r := [0, 0, zw.toInt]) ⟨en_mk (by simp only [en_b, and_true]; omega) rfl, sb0, ⟨rfl, Or.inl ⟨rfl, a0, h0, rfl⟩, rfl, int_dv (z := zw.toInt) rfl (by omega), trivial⟩, trivial, hw2, k0, fun _ _ _ _ h => h, fun h => by cases h⟩ (fun x hx r3 lv3 st3 ws3 hx3 hb3 hl3 hs3 hlo3 hsk3 hw3 hV3 hf3 _ => ?_)
    have hx9 := List.mem_singleton.mp hx
    subst hx9
    dsimp only at hlo3 hsk3 ⊢
    obtain ⟨l30, rfl, p30⟩ := lo_ref h0 hlo3
    obtain ⟨y31, l31, rfl, d31, p31⟩ := lo_int rfl p30
    cases lo_nil p31
    rw [vn_at hx3 (n := 2) (z := zw.toInt) rfl] at d31
    have e31 : zw = y31 := Int32.toInt_inj.mp (by omega)
    subst e31
    obtain ⟨x30, s30, rfl, c30, g30⟩ := hsk3.cons
    obtain ⟨x31, s31, rfl, c31, g31⟩ := g30.cons
    cases g31.nil
    have f30 := ref_of h39 c30
    subst f30
    have f31 := ref_of h39 c31
    subst f31
    refine hcallJ (q := (204, 0, 21, 0, 1)) (M' := tb_m21) (cl := 39) (a := a39) (As := []) (rest := [.ref a39]) (rets := [31]) (P := fun w z => ai_wd tb_TY ad tys w ∧ ai_fr [] ws3 w ∧ z.toInt = sumN (fun x => F x * (x : Int)) (Z + 1)) C (by decide) (tv_m77.1.1.1 (38, .invokevirtual 204, 3) (List.mem_of_getElem? (i := 21) rfl)) (tv_m77.2 _ (List.mem_of_getElem? (i := 27) rfl)) rfl rfl rfl rfl (by decide) (Nat.le_of_ble_eq_true rfl) rfl rfl rfl rfl hw3 h39 (Nat.le_of_ble_eq_true rfl) ?_ ?_ ?_
    · intro pcr hp
      simp only [List.mem_cons, List.not_mem_nil, or_false] at hp
      rcases hp with rfl
      · exact tv_m21.1.1.1 (31, .lreturn, 1) (List.mem_of_getElem? (i := 21) rfl)
    · intro p2 e2 R2 s2 m2 args2 below2 meth2 c2 Q2 C2 kk2
      exact mw_all (mm_cx (by decide) C2) h39 h40 hZ (t2.fr hf3 rfl) (fun x hx => (hF x hx).fr hf3 rfl) nn hS (by omega) hw3 (fun w z lv2 r1 r2 r3 => kk2 31 w z lv2 (by decide) ⟨r1, r2, r3⟩)
    · intro ws4 zx hP4
      obtain ⟨hw4, hf4, ex⟩ := hP4
      have bx := ai_lrg zx
      have x0 : 0 ≤ sumN (fun x => F x * (x : Int)) (Z + 1) := sumN_nn fun x hx => Int.mul_nonneg (nn x (by omega)) (by omega)
      refine hsum (st := (41, [(0, (0, 0, 0, 0)), (4, (1, 2, 0, 0))], [(2, 3, 0, 0), (0, 39, 0, 0)], [(0, 0, false, 0, 0), (0, 2555, false, 1, 0), (0, 1, false, 2, 0), (-9223372036854775808, 9223372036854775807, false, 3, 0)], [], [])) me_c2 rfl C (r := [0, 0, zw.toInt, zx.toInt]) ⟨en_mk (by simp only [en_b, and_true]; omega) rfl, sb0, ⟨rfl, Or.inl ⟨rfl, a0, h0, rfl⟩, rfl, int_dv (z := zw.toInt) rfl (by omega), trivial⟩, ⟨lng_dv (z := zx.toInt) rfl (by omega), Or.inl ⟨rfl, a39, h39, rfl⟩, trivial⟩, hw4, k0, fun _ _ _ _ h => h, fun h => by cases h⟩ (fun x hx r5 lv5 st5 ws5 hx5 hb5 hl5 hs5 hlo5 hsk5 hw5 hV5 hf5 _ => ?_)
      have hx9 := List.mem_singleton.mp hx
      subst hx9
      dsimp only at hlo5 hsk5 ⊢
      cases lo_nil hlo5
      obtain ⟨x50, s50, rfl, c50, g50⟩ := hsk5.cons
      obtain ⟨x51, s51, rfl, c51, g51⟩ := g50.cons
      obtain ⟨x52, s52, rfl, c52, g52⟩ := g51.cons
      cases g52.nil
      obtain ⟨u50, rfl, w50⟩ := dvn c50 (hx5.at (k := 2) rfl)
      obtain ⟨u51, rfl, w51⟩ := dvl c51 (hx5.at (k := 3) rfl)
      have f52 := ref_of h39 c52
      subst f52
      have v5 : vl ws5 39 1 A := ((vA.fr hf3 rfl).fr hf4 rfl).fr hf5 rfl
      refine hcallJ (q := (200, 0, 22, 2, 1)) (M' := tb_m22) (cl := 39) (a := a39) (As := [.long u51, .int u50]) (rest := []) (rets := [39]) (P := fun w z => ai_wd tb_TY ad tys w ∧ ai_fr [] ws5 w ∧ z.toInt = ansF (sumN (fun x => F x * (x : Int)) (Z + 1)).toNat A.toNat zw.toInt) C (by decide) (tv_m77.1.1.1 (43, .invokevirtual 200, 3) (List.mem_of_getElem? (i := 23) rfl)) (tv_m77.2 _ (List.mem_of_getElem? (i := 26) rfl)) rfl rfl rfl rfl (by decide) (Nat.le_of_ble_eq_true rfl) rfl rfl rfl rfl hw5 h39 (Nat.le_of_ble_eq_true rfl) ?_ ?_ ?_
      · intro pcr hp
        simp only [List.mem_cons, List.not_mem_nil, or_false] at hp
        rcases hp with rfl
        · exact tv_m22.1.1.1 (39, .lreturn, 1) (List.mem_of_getElem? (i := 21) rfl)
      · intro p2 e2 R2 s2 m2 args2 below2 meth2 c2 Q2 C2 kk2
        exact ow_all (mm_cx (by decide) C2) h39 (u := (sumN (fun x => F x * (x : Int)) (Z + 1)).toNat) (w := A.toNat) (by omega) (by omega) (by omega) (by omega) hw5 v5 (fun w z lv2 r1 r2 r3 => kk2 39 w z lv2 (by decide) ⟨r1, r2, by rw [r3, show u50.toInt = zw.toInt by omega]⟩)
      · intro ws6 z6 hP6
        refine kk ws6 z6 _ hP6.1 (((((wsub_ok (V := []) (by rfl) hf1).tr hf2).tr (wsub_ok (V := []) (by rfl) hf3)).tr (wsub_ok (V := []) (by rfl) hf4)).tr (wsub_ok (V := []) (by rfl) (hf5.tr hP6.2.1))) ?_
        rw [hP6.2.2]
        refine me_ans (X := sumN (fun x => F x * (x : Int)) (Z + 1)) (A := A) (i := i) (f := f) zw.toInt (by omega) (by omega) hA (by omega) ?_
        rw [← hfn (slF Z 1), sum_moved]
theorem me_mdl {ar t n nT Z M0 : Nat} {K v PP SS LL : Int} {zv zt zn zw : Int32} {ws : va_W} (C : ai_cx tb_m154 10 p R9 s m args c D tys A9 b L sx cells slots) (ha : ad[49]? = some ar) (ht4 : t < 4) (et : zt.toInt = t) (ev : zv.toInt = v) (bv : 0 ≤ v ∧ v ≤ 10) (en : zn.toInt = n) (bn : n < 9) (bw : 0 ≤ zw.toInt ∧ zw.toInt ≤ 1) (hT : t < nT) (hT4 : nT ≤ 4) (hZ : 1 ≤ Z ∧ Z ≤ 99) (hM : M0 ≤ Z) (hK : 0 ≤ K ∧ K ≤ 3) (bP : 0 ≤ PP ∧ PP ≤ 99) (bS : 0 ≤ SS ∧ SS ≤ 20) (bL : 0 ≤ LL ∧ LL ≤ 999) (hw : ai_wd tb_TY ad tys ws) (v0 : vi ws 49 1 nT) (hpg : po_vi ws 0 t K (Z : Int) (M0 : Int) PP SS LL)
    (kk : ∀ (ws' : va_W) (z : Int64) (lv' : List (Nat × Value)), ai_wd tb_TY ad tys ws' → ai_fr sl_W ws ws' → z.toInt = ansF (wv K v Z (slF Z 1) n M0 PP SS).toNat (tenP n).toNat zw.toInt → hG tb_m154 p l e R9 s m args below meth c D A9 cells slots Q 28 lv' [.long z] ws') : hG tb_m154 p l e R9 s m args below meth c D A9 cells slots Q 0 [(0, .ref ar), (1, .int zv), (2, .int zt), (3, .int zn), (4, .int zw)] [] ws := by
  refine hsum (st := (0, [(0, (0, 49, 0, 0)), (1, (1, 2, 0, 0)), (2, (1, 0, 0, (t : Int))), (3, (1, 3, 0, 0)), (4, (1, 4, 0, 0))], [], [(0, 0, false, 0, 0), (0, 2555, false, 1, 0), (0, 10, false, 2, 0), (0, 8, false, 3, 0), (0, 1, false, 4, 0), ((t : Int) + 1, 4, false, 5, 0)], [(49, 1, (1, 5, 0, 0))], [])) (List.all_eq_true.mp me_m0 t (List.mem_range.mpr (by omega))) rfl C (r := [0, 0, zv.toInt, zn.toInt, zw.toInt, (nT : Int)]) ⟨en_mk (by simp only [en_b, and_true]; omega) rfl, sb0, ⟨rfl, Or.inl ⟨rfl, ar, ha, rfl⟩, rfl, int_dv (z := zv.toInt) rfl (by omega), rfl, int_dv (z := 0) rfl (by omega), rfl, int_dv (z := zn.toInt) rfl (by omega), rfl, int_dv (z := zw.toInt) rfl (by omega), trivial⟩, trivial, hw, kc (v0.kn (n := 5) (t := (nT : Int)) rfl (by omega)) (k0), fun _ _ _ _ h => h, fun h => by cases h⟩ (fun x hx r1 lv1 st1 ws1 hx1 hb1 hl1 hs1 hlo1 hsk1 hw1 hV1 hf1 _ => ?_)
  have hx9 := List.mem_singleton.mp hx
  subst hx9
  dsimp only at hlo1 hsk1 ⊢
  cases lo_nil hlo1
  obtain ⟨x10, s10, rfl, c10, g10⟩ := hsk1.cons
  obtain ⟨x11, s11, rfl, c11, g11⟩ := g10.cons
  obtain ⟨x12, s12, rfl, c12, g12⟩ := g11.cons
  obtain ⟨x13, s13, rfl, c13, g13⟩ := g12.cons
  obtain ⟨x14, s14, rfl, c14, g14⟩ := g13.cons
  obtain ⟨x15, s15, rfl, c15, g15⟩ := g14.cons
  cases g15.nil
  obtain ⟨u10, rfl, w10⟩ := dvn c10 (hx1.at (k := 4) rfl)
  obtain ⟨u11, rfl, w11⟩ := dvn c11 (hx1.at (k := 0) rfl)
  obtain ⟨u12, rfl, w12⟩ := dvn c12 (hx1.at (k := 3) rfl)
  obtain ⟨u13, rfl, w13⟩ := dvn c13 (hx1.at (k := 0) rfl)
  obtain ⟨u14, rfl, w14⟩ := dvn c14 (hx1.at (k := 2) rfl)
  have f15 := ref_of49 ha c15
  subst f15
  refine hcallJ (q := (219, 0, 151, 5, 6)) (M' := tb_m151) (cl := 49) (a := ar) (As := [.int u14, .int u13, .int u12, .int u11, .int u10]) (rest := []) (rets := [179]) (P := fun w z => ai_wd tb_TY ad tys w ∧ ai_fr sl_W ws1 w ∧ z.toInt = ansF (wv K v Z (slF Z 1) n M0 PP SS).toNat (tenP n).toNat zw.toInt) C (by decide) (tv_m154.1.1.1 (19, .invokevirtual 219, 3) (List.mem_of_getElem? (i := 13) rfl)) (tv_m154.2 _ (List.mem_of_getElem? (i := 32) rfl)) rfl rfl rfl rfl (by decide) (Nat.le_of_ble_eq_true rfl) rfl rfl rfl rfl hw1 ha (Nat.le_of_ble_eq_true rfl) ?_ ?_ ?_
  · intro pcr hp
    simp only [List.mem_cons, List.not_mem_nil, or_false] at hp
    rcases hp with rfl
    · exact tv_m151.1.1.1 (179, .lreturn, 1) (List.mem_of_getElem? (i := 98) rfl)
  · intro p2 e2 R2 s2 m2 args2 below2 meth2 c2 Q2 C2 kk2
    exact sl_all (mm_cx (by decide) C2) ha ht4 (by omega) (by omega) bv (by omega) bn hZ hK (by omega) (by omega) hM bP bS bL (hpg.fr hf1) hw1 (fun w z lv2 r1 r2 r3 => kk2 179 w z lv2 (by decide) ⟨r1, r2, by rw [r3, show u11.toInt = 1 by omega, show u10.toInt = zw.toInt by omega]⟩)
  · intro ws2 z2 hP
    have b2 := ai_lrg z2
    refine hG_sub (lv2 := []) (fun q hq => by cases hq) ?_
    refine hsum (st := (22, [], [(2, 2, 0, 0)], [(0, 0, false, 0, 0), (0, 2555, false, 1, 0), (-9223372036854775808, 9223372036854775807, false, 2, 0)], [], [])) me_m1 rfl C (r := [0, 0, z2.toInt]) ⟨en_mk (by simp only [en_b, and_true]; omega) rfl, sb0, trivial, ⟨lng_dv (z := z2.toInt) rfl (by omega), trivial⟩, hP.1, k0, fun _ _ _ _ h => h, fun h => by cases h⟩ (fun x hx r3 lv3 st3 ws3 hx3 hb3 hl3 hs3 hlo3 hsk3 hw3 hV3 hf3 _ => ?_)
    unfold me_m1_S at hx
    have m3_2 := nm_x hx3 (k := 2) rfl
    have hx0 := List.mem_singleton.mp hx
    subst hx0
    dsimp only at hlo3 hsk3 ⊢
    simp (config := { decide := true }) only [bnd_b, lin_b, lin_q, Nat.reduceAdd, Nat.zero_add, Nat.reduceEqDiff, reduceIte, and_true, Int.add_zero] at hb3 hl3
    obtain ⟨z, rfl, hz⟩ := skl rfl hsk3
    rw [vnl_at hx3 (n := 2) (z := z2.toInt) rfl] at hz
    exact kk ws3 z lv3 hw3 (((wsub_ok (V := []) (by rfl) hf1).tr hP.2.1).tr (wsub_ok (V := []) (by rfl) hf3)) (by rw [← hP.2.2]; omega)
end Xme1
theorem me9_v1 : ((ai_ex (hk []) 900 169 tb_m169 11 [1298] (795, lw_lo, [], se8_en (-2147483648) (-1) (-2147483648) 2147483647 (-2147483648) 2147483647 (-2147483648) 2147483647, se8_n, [])).any fun xs => xs.all lw_un) = true := by decide +kernel
theorem me9_v2 : ((ai_ex (hk []) 900 169 tb_m169 11 [1298] (795, lw_lo, [], se8_en 11 2147483647 (-2147483648) 2147483647 (-2147483648) 2147483647 (-2147483648) 2147483647, se8_n, [])).any fun xs => xs.all lw_un) = true := by decide +kernel
theorem me9_t1 : ((ai_ex (hk []) 900 169 tb_m169 11 [1298] (795, lw_lo, [], se8_en 0 10 (-2147483648) (-1) (-2147483648) 2147483647 (-2147483648) 2147483647, se8_n, [])).any fun xs => xs.all lw_un) = true := by decide +kernel
theorem me9_t2 : ((ai_ex (hk []) 900 169 tb_m169 11 [1298] (795, lw_lo, [], se8_en 0 10 0 2147483647 (-2147483648) 2147483647 (-2147483648) 2147483647, se8_n, [(5, 5, 8, 5, 0)])).any fun xs => xs.all lw_un) = true := by decide +kernel
theorem me9_n1 : ((ai_ex (hk []) 900 169 tb_m169 11 [1298] (795, lw_lo, [], se8_en 0 10 0 3 (-2147483648) (-1) (-2147483648) 2147483647, se8_n, [(4, 5, 8, 5, 0)])).any fun xs => xs.all lw_un) = true := by decide +kernel
theorem me9_n2 : ((ai_ex (hk []) 900 169 tb_m169 11 [1298] (795, lw_lo, [], se8_en 0 10 0 3 9 2147483647 (-2147483648) 2147483647, se8_n, [(4, 5, 8, 5, 0)])).any fun xs => xs.all lw_un) = true := by decide +kernel
theorem me9_w1 : ((ai_ex (hk []) 900 169 tb_m169 11 [1298] (795, lw_lo, [], se8_en 0 10 0 3 0 8 (-2147483648) (-1), se8_n, [(4, 5, 8, 5, 0)])).any fun xs => xs.all lw_un) = true := by decide +kernel
theorem me9_w2 : ((ai_ex (hk []) 900 169 tb_m169 11 [1298] (795, lw_lo, [], se8_en 0 10 0 3 0 8 2 2147483647, se8_n, [(4, 5, 8, 5, 0)])).any fun xs => xs.all lw_un) = true := by decide +kernel
section Xme2
variable {ad : List Nat} {M : ai_m} {d : Nat} {p : Program} {l : Launch} {e : Env} {R9 : Room} {s : State} {m : MethodId} {args : Array Value} {below : List Frame} {meth : Method} {c : Code} {D : va_G} {tys : ai_ty} {A9 : Nat → Prop} {b L : Nat} {sx : Nat → Int32} {cells slots : Nat} {Q : State → Prop}
set_option maxRecDepth 20000 in
theorem lw_mean {i q0 q49 : Nat} {ws : va_W} (C : ai_cx tb_m169 11 p R9 s m args c D tys A9 b L sx cells slots) (e0 : ad[0]? = some q0) (e49 : ad[49]? = some q49) (hi : i + 5 ≤ L) (hL : L ≤ 2560) (hw : ai_wd tb_TY ad tys ws) (hI : Inv ws)
    (k : ∀ wc, ai_wd tb_TY ad tys wc → Inv wc → hG tb_m169 p l e R9 s m args below meth c D A9 cells slots Q 1298 [(0, .ref b), (1, .ref q0), (2, .ref q49), (3, .int (nI i))] [] wc) : hG tb_m169 p l e R9 s m args below meth c D A9 cells slots Q 795 [(0, .ref b), (1, .ref q0), (2, .ref q49), (3, .int (nI i))] [] ws := by
  have b0 := ai_irg (sx i)
  have b1 := ai_irg (sx (i + 1))
  have b2 := ai_irg (sx (i + 2))
  have b3 := ai_irg (sx (i + 3))
  have b4 := ai_irg (sx (i + 4))
  obtain ⟨t, g, u, q, y, n, j0, j1, E, a, P, hb, hp, hi0, hi1, hs⟩ := id hI
  obtain ⟨hn1, hn2, hn4⟩ := hb.2.2.2.2.1
  obtain ⟨hc, he, hg⟩ := hp.1
  obtain ⟨a1, -, -, e1, -⟩ := hw.get (c := 1) rfl
  have kn0 : ai_kn ad b (lw_r sx i ++ [(n : Int)]) ws se8_n := kc (hn1.kn (n := 8) (t := (n : Int)) rfl (by omega)) (kc (hn2.kn (n := 8) (t := (n : Int)) rfl (by omega)) k0)
  have ok : ∀ {t1 t2 s1 s2 p1 p2 y1 y2 : Int}, (t1 ≤ (sx (i + 1)).toInt ∧ (sx (i + 1)).toInt ≤ t2) → (s1 ≤ (sx (i + 2)).toInt ∧ (sx (i + 2)).toInt ≤ s2) → (p1 ≤ (sx (i + 3)).toInt ∧ (sx (i + 3)).toInt ≤ p2) → (y1 ≤ (sx (i + 4)).toInt ∧ (sx (i + 4)).toInt ≤ y2) → ai_ok (lw_r sx i ++ [(n : Int)]) (se8_en t1 t2 s1 s2 p1 p2 y1 y2) := fun h1 h2 h3 h4 => en_mk (by simp only [lw_r, se8_en, List.cons_append, List.nil_append, en_b, and_true]; omega) rfl
  have sbx : ∀ {op : Nat}, (op = 4 ∧ (sx (i + 2)).toInt < n) ∨ (op = 5 ∧ (n : Int) ≤ (sx (i + 2)).toInt) → ai_sb ws (lw_r sx i ++ [(n : Int)]) [(op, 5, 8, 5, 0)] := fun {op} h q hq => by
    rw [List.mem_singleton.mp hq]
    refine ⟨(sx (i + 2)).toInt, (n : Int), (sx (i + 2)).toInt, rfl, rfl, rfl, fun h0 => ?_, fun h0 => ?_, fun h0 => ?_, fun h0 => ?_, fun h0 => ?_, fun h0 => ?_⟩
    all_goals dsimp only at h0 ⊢
    all_goals omega
  by_cases c_v1 : (sx (i + 1)).toInt < 0
  · exact lw_no C e0 e49 hi hL hw hI me9_v1 (ok (by omega) (by omega) (by omega) (by omega)) sb0 kn0 k
  by_cases c_v2 : 10 < (sx (i + 1)).toInt
  · exact lw_no C e0 e49 hi hL hw hI me9_v2 (ok (by omega) (by omega) (by omega) (by omega)) sb0 kn0 k
  by_cases c_t1 : (sx (i + 2)).toInt < 0
  · exact lw_no C e0 e49 hi hL hw hI me9_t1 (ok (by omega) (by omega) (by omega) (by omega)) sb0 kn0 k
  by_cases c_t2 : (n : Int) ≤ (sx (i + 2)).toInt
  · exact lw_no C e0 e49 hi hL hw hI me9_t2 (ok (by omega) (by omega) (by omega) (by omega)) (sbx (Or.inr ⟨rfl, c_t2⟩)) kn0 k
  have sb4 : ai_sb ws (lw_r sx i ++ [(n : Int)]) [(4, 5, 8, 5, 0)] := sbx (Or.inl ⟨rfl, by omega⟩)
  by_cases c_n1 : (sx (i + 3)).toInt < 0
  · exact lw_no C e0 e49 hi hL hw hI me9_n1 (ok (by omega) (by omega) (by omega) (by omega)) sb4 kn0 k
  by_cases c_n2 : 8 < (sx (i + 3)).toInt
  · exact lw_no C e0 e49 hi hL hw hI me9_n2 (ok (by omega) (by omega) (by omega) (by omega)) sb4 kn0 k
  by_cases c_w1 : (sx (i + 4)).toInt < 0
  · exact lw_no C e0 e49 hi hL hw hI me9_w1 (ok (by omega) (by omega) (by omega) (by omega)) sb4 kn0 k
  by_cases c_w2 : 1 < (sx (i + 4)).toInt
  · exact lw_no C e0 e49 hi hL hw hI me9_w2 (ok (by omega) (by omega) (by omega) (by omega)) sb4 kn0 k
  obtain ⟨j, hj⟩ : ∃ j : Nat, (sx (i + 2)).toInt = (j : Int) := ⟨(sx (i + 2)).toInt.toNat, by omega⟩
  have hjn : j < n := by omega
  obtain ⟨g1, g2, g3, g4⟩ := hg.1 j hjn
  obtain ⟨g5, g6⟩ := hg.2
  obtain ⟨c1, c2, c3, c4⟩ := hc.1 j hjn
  obtain ⟨d1, d2, d3, d4⟩ := he.1 j hjn
  obtain ⟨a39, -, -, e39, -⟩ := hw.get (c := 39) rfl
  obtain ⟨a40, -, -, e40, -⟩ := hw.get (c := 40) rfl
  have eZ : ((E (4 + j)).toNat : Int) = E (4 + j) := by omega
  have eM : ((E (8 + j)).toNat : Int) = E (8 + j) := by omega
  refine law2J (P1 := fun w z1 => ai_wd tb_TY ad tys w ∧ ai_fr tb_WR7 ws w ∧ z1.toInt = ansF (wv (E j) (sx (i + 1)).toInt (E (4 + j)).toNat (slF (E (4 + j)).toNat 1) (sx (i + 3)).toInt.toNat (E (8 + j)).toNat (E (12 + j)) (E 16)).toNat (tenP (sx (i + 3)).toInt.toNat).toNat (sx (i + 4)).toInt) (P2 := fun wa _ w z1 => ai_wd tb_TY ad tys w ∧ ai_fr tb_WR7 wa w ∧ z1.toInt = ansF (wv (E j) (sx (i + 1)).toInt (E (4 + j)).toNat (slF (E (4 + j)).toNat 1) (sx (i + 3)).toInt.toNat (E (8 + j)).toNat (E (12 + j)) (E 16)).toNat (tenP (sx (i + 3)).toInt.toNat).toNat (sx (i + 4)).toInt) (rets1 := [46]) (rets2 := [28]) C e0 e49 hi hL hw (n := 4) (cmp := true) (by decide) lr_meanA lr_meanB lr_meanC (q1 := (110, 0, 77, 4, 5)) (tv_m169.1.1.1 (816, .invokevirtual 110, 3) (List.mem_of_getElem? (i := 504) rfl)) (tv_m169.2 _ (List.mem_of_getElem? (i := 46) rfl)) rfl rfl rfl rfl (by decide) (Nat.le_of_ble_eq_true rfl) rfl rfl (q2 := (113, 0, 154, 4, 6)) (tv_m169.1.1.1 (840, .invokevirtual 113, 3) (List.mem_of_getElem? (i := 526) rfl)) (tv_m169.2 _ (List.mem_of_getElem? (i := 47) rfl)) rfl rfl rfl rfl (by decide) (Nat.le_of_ble_eq_true rfl) rfl rfl ?_ ?_ ?_ (fun wa z1 h => h.1) ?_ (fun wa z1 wb z2 h1 h2 => ⟨h2.1, fun _ => Int64.toInt_inj.mp (by rw [h1.2.2, h2.2.2])⟩) (fun wa z1 wb z2 wc h1 h2 hwc hf => k wc hwc (hI.rd hwc ((h1.2.1.tr h2.2.1).tr (wsub_ok (V := []) (by rfl) hf))))
  · intro pcr hpc
    rw [List.mem_singleton.mp hpc]
    exact tv_m77.1.1.1 (46, .lreturn, 1) (List.mem_of_getElem? (i := 24) rfl)
  · intro pcr hpc
    rw [List.mem_singleton.mp hpc]
    exact tv_m154.1.1.1 (28, .lreturn, 1) (List.mem_of_getElem? (i := 16) rfl)
  · intro p e R9 s m args below meth c Q w hw' hf C2 kk
    exact me_cls (v := (sx (i + 1)).toInt) (n := (sx (i + 3)).toInt.toNat) (nT := n) (Z := (E (4 + j)).toNat) (M0 := (E (8 + j)).toNat) C2 e0 e1 e39 e40 (by omega) hj rfl (by omega) (show (sx (i + 3)).toInt = (((sx (i + 3)).toInt.toNat : Nat) : Int) by omega) (by omega) ⟨by show 0 ≤ (sx (i + 4)).toInt; omega, by show (sx (i + 4)).toInt ≤ 1; omega⟩ hjn hn4 (by omega) (by omega) (by omega) (by omega) (by omega) hw' (hn1.fr hf rfl) (c1.fr hf rfl) ((c2.fr hf rfl).eq eZ.symm) ((c3.fr hf rfl).eq eM.symm) (c4.fr hf rfl) (hc.2.1.fr hf rfl) (fun w' z lv q1 q2 q3 => kk 46 w' z lv (by decide) ⟨q1, (wsub_ok (V := []) (by rfl) hf).tr (wsub_ok (V := spw_W) (by decide) q2), q3⟩)
  · intro p e R9 s m args below meth c Q wa z1 w hP1 hw' hf C2 kk
    have hfa : ai_fr tb_WR7 ws w := hP1.2.1.tr (wsub_ok (V := []) (by rfl) hf)
    have off : ∀ q, q < 81 → ai_wr tb_WR7 50 q q = false := fun q hq => me_off (by omega)
    have hpg : po_vi w 0 j (E j) ((E (4 + j)).toNat : Int) ((E (8 + j)).toNat : Int) (E (12 + j)) (E 16) (E 17) := ⟨d1.fr hfa (off _ (by omega)), (d2.fr hfa (off _ (by omega))).eq eZ.symm, (d3.fr hfa (off _ (by omega))).eq eM.symm, d4.fr hfa (off _ (by omega)), he.2.1.fr hfa (off _ (by omega)), he.2.2.fr hfa (off _ (by omega))⟩
    exact me_mdl (v := (sx (i + 1)).toInt) (n := (sx (i + 3)).toInt.toNat) (nT := n) C2 e49 (by omega) hj rfl (by omega) (show (sx (i + 3)).toInt = (((sx (i + 3)).toInt.toNat : Nat) : Int) by omega) (by omega) ⟨by show 0 ≤ (sx (i + 4)).toInt; omega, by show (sx (i + 4)).toInt ≤ 1; omega⟩ hjn hn4 (by omega) (by omega) (by omega) (by omega) (by omega) (by omega) hw' (hn2.fr hfa rfl) hpg (fun w' z lv q1 q2 q3 => kk 28 w' z lv (by decide) ⟨q1, (wsub_ok (V := []) (by rfl) hf).tr (wsub_ok (V := sl_W) (by decide) q2), q3⟩)
end Xme2
