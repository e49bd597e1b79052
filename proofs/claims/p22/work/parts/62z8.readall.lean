/-! read, whole, on both sides -/
def ra5_lo (cl : Nat) : List (Nat × ai_v) := [(0, (0, cl, 0, 0)), (1, (1, 2, 0, 0)), (2, (1, 3, 0, 0)), (3, (1, 4, 0, 0)), (4, (1, 5, 0, 0))]
def ra5_en (k1 k2 l1 l2 m1 m2 : Int) : List ai_e := [(0, 0, false, 0, 0), (0, 2555, false, 1, 0), (k1, k2, false, 2, 0), (l1, l2, false, 3, 0), (-2147483648, 2147483647, false, 4, 0), (m1, m2, false, 5, 0)]
def ra5_st (cl pc : Nat) (k1 k2 l1 l2 m1 m2 : Int) : ai_s := (pc, ra5_lo cl, [], ra5_en k1 k2 l1 l2 m1 m2, [], [])
def ra5_l3 (cl : Nat) : List (Nat × ai_v) := [(0, (0, cl, 0, 0)), (5, (1, 2, 0, 0)), (6, (1, 3, 0, 0))]
def ra5_e3 : List ai_e := [(0, 0, false, 0, 0), (0, 2555, false, 1, 0), (0, 3, false, 2, 0), (0, 20, false, 3, 0)]
def ra5_S (cl pc : Nat) (sk : List ai_v) : List sm_t := [(pc, ra5_lo cl, sk, [], ra5_en 0 3 0 2 0 20, [])]
def ra5_S0 (cl pc : Nat) : List sm_t := [(pc, [(0, (0, cl, 0, 0)), (1, (1, 2, 0, 0)), (2, (1, 3, 0, 0)), (3, (1, 4, 0, 0)), (4, (1, 5, 0, 0)), (5, (1, 0, 0, 0)), (6, (1, 0, 0, 0)), (7, (1, 0, 0, 0))], [], [], ra5_en 0 3 0 2 0 20, [])]
theorem cev_bc {ad : List Nat} {tys : ai_ty} {src dst n : Nat} {ws ws' : va_W} {E : Nat → Int} (hn : n ≤ 4) (h : bc_P ad tys src dst ws ws') (hc : cev ws src n E) : cev ws' dst n E := by
  obtain ⟨-, -, h1, h2, -⟩ := h
  refine ⟨fun i hi => ?_, h1 1 _ (by decide) hc.2.1, h1 2 _ (by decide) hc.2.2⟩
  obtain ⟨a1, a2, a3, a4⟩ := hc.1 i hi
  exact ⟨h2 0 i _ (by decide) (by omega) a1, h2 1 i _ (by decide) (by omega) a2, h2 2 i _ (by decide) (by omega) a3, h2 3 i _ (by decide) (by omega) a4⟩
theorem bc_fr {dst : Nat} {V : List (Nat × Nat × Nat)} {u v : va_W} (hv : wsub (bc_W dst) V = true) (h : ai_fr (bc_W dst) u v) : ai_fr V u v := wsub_ok hv h
theorem cd_b1 : ((ai_ex (hk []) 100 91 tb_m91 10 [37] (ra5_st 0 0 (-2147483648) (-1) (-2147483648) 2147483647 (-2147483648) 2147483647)).any fun xs => xs.all (pl_bad 28)) = true := by decide +kernel
theorem cd_b2 : ((ai_ex (hk []) 100 91 tb_m91 10 [37] (ra5_st 0 0 4 2147483647 (-2147483648) 2147483647 (-2147483648) 2147483647)).any fun xs => xs.all (pl_bad 28)) = true := by decide +kernel
theorem cd_b3 : ((ai_ex (hk []) 100 91 tb_m91 10 [37] (ra5_st 0 0 0 3 (-2147483648) (-1) (-2147483648) 2147483647)).any fun xs => xs.all (pl_bad 28)) = true := by decide +kernel
theorem cd_b4 : ((ai_ex (hk []) 100 91 tb_m91 10 [37] (ra5_st 0 0 0 3 3 2147483647 (-2147483648) 2147483647)).any fun xs => xs.all (pl_bad 28)) = true := by decide +kernel
theorem cd_b5 : ((ai_ex (hk []) 100 91 tb_m91 10 [37] (ra5_st 0 0 0 3 0 2 (-2147483648) (-1))).any fun xs => xs.all (pl_bad 28)) = true := by decide +kernel
theorem cd_b6 : ((ai_ex (hk []) 100 91 tb_m91 10 [37] (ra5_st 0 0 0 3 0 2 21 2147483647)).any fun xs => xs.all (pl_bad 28)) = true := by decide +kernel
theorem cd_c1 : ((ai_ex (hk []) 100 91 tb_m91 10 [37] (ra5_st 0 0 0 3 0 2 0 20)).any fun xs => xs.all fun x => (ra5_S 0 37 [(0, 1, 0, 0), (0, 7, 0, 0)]).any fun t => sm_is [] x t) = true := by decide +kernel
theorem cd_c2 : ((ai_ex (hk []) 100 91 tb_m91 10 [49] (ra5_st 0 40 0 3 0 2 0 20)).any fun xs => xs.all fun x => (ra5_S0 0 49).any fun t => sm_is [] x t) = true := by decide +kernel
theorem md_b1 : ((ai_ex (hk []) 100 166 tb_m166 10 [43] (ra5_st 49 0 (-2147483648) (-1) (-2147483648) 2147483647 (-2147483648) 2147483647)).any fun xs => xs.all (pl_bad 38)) = true := by decide +kernel
theorem md_b2 : ((ai_ex (hk []) 100 166 tb_m166 10 [43] (ra5_st 49 0 4 2147483647 (-2147483648) 2147483647 (-2147483648) 2147483647)).any fun xs => xs.all (pl_bad 38)) = true := by decide +kernel
theorem md_b3 : ((ai_ex (hk []) 100 166 tb_m166 10 [43] (ra5_st 49 0 0 3 (-2147483648) (-1) (-2147483648) 2147483647)).any fun xs => xs.all (pl_bad 38)) = true := by decide +kernel
theorem md_b4 : ((ai_ex (hk []) 100 166 tb_m166 10 [43] (ra5_st 49 0 0 3 3 2147483647 (-2147483648) 2147483647)).any fun xs => xs.all (pl_bad 38)) = true := by decide +kernel
theorem md_b5 : ((ai_ex (hk []) 100 166 tb_m166 10 [43] (ra5_st 49 0 0 3 0 2 (-2147483648) (-1))).any fun xs => xs.all (pl_bad 38)) = true := by decide +kernel
theorem md_b6 : ((ai_ex (hk []) 100 166 tb_m166 10 [43] (ra5_st 49 0 0 3 0 2 21 2147483647)).any fun xs => xs.all (pl_bad 38)) = true := by decide +kernel
theorem md_c1 : ((ai_ex (hk []) 100 166 tb_m166 10 [43] (ra5_st 49 0 0 3 0 2 0 20)).any fun xs => xs.all fun x => (ra5_S 49 43 [(1, 0, 0, 81), (1, 0, 0, 0), (0, 49, 0, 0)]).any fun t => sm_is [] x t) = true := by decide +kernel
theorem md_c2 : ((ai_ex (hk []) 100 166 tb_m166 10 [55] (ra5_st 49 46 0 3 0 2 0 20)).any fun xs => xs.all fun x => (ra5_S0 49 55).any fun t => sm_is [] x t) = true := by decide +kernel
theorem cd_c3 : ((ai_ex (hk []) 20 91 tb_m91 10 [142] (134, ra5_l3 0, [], ra5_e3, [], [])).any fun xs => xs.all fun x => ([(142, ra5_l3 0, [(0, 7, 0, 0), (0, 1, 0, 0)], [], ra5_e3, [])] : List sm_t).any fun t => sm_is [] x t) = true := by decide +kernel
theorem cd_c4 : ((ai_ex (hk [(0, 10, 11)]) 20 91 tb_m91 10 [] (145, ra5_l3 0, [], ra5_e3, [], [])).any fun xs => xs.all fun x => ([(153, [], [(1, 3, 0, 0)], [(1, 2, 0, 0)], ra5_e3, [])] : List sm_t).any fun t => sm_is [(0, 10)] x t) = true := by decide +kernel
theorem md_c3 : ((ai_ex (hk [(49, 24, 25)]) 20 166 tb_m166 10 [] (173, ra5_l3 49, [], ra5_e3, [], [])).any fun xs => xs.all fun x => ([(181, [], [(1, 3, 0, 0)], [(1, 2, 0, 0)], ra5_e3, [])] : List sm_t).any fun t => sm_is [(49, 24)] x t) = true := by decide +kernel
def rd_ok (k la m : Int) : Prop := (0 ≤ k ∧ k ≤ 3) ∧ (0 ≤ la ∧ la ≤ 2) ∧ 0 ≤ m ∧ m ≤ 20
def cdW : List (Nat × Nat × Nat) := bc_W 7 ++ bc_W 1 ++ [(0, 10, 11)]
/-- what read of the class leaves: refused, or done -/
def cd_R (ad : List Nat) (tys : ai_ty) (n : Nat) (ws ws' : va_W) (z' : Int32) : Nat ⊕ ((Nat → Int) × Nat × Int) → Prop
  | .inl i => ai_fr (bc_W 7) ws ws' ∧ z'.toInt = -20 - i
  | .inr (E', i, y) => ai_fr cdW ws ws' ∧ cev ws' 1 n E' ∧ good n E' ∧ vi ws' 1 0 n ∧ (∀ z, vi ws 1 3 z → vi ws' 1 3 z) ∧ (∀ (j : Nat) (z : Int), j < 8 → vi ws 6 j z → vi ws' 6 j z) ∧ vi ws' 0 10 y ∧ z'.toInt = i
def cd_P (ad : List Nat) (tys : ai_ty) (n : Nat) (E : Nat → Int) (ln : Int) (len : Nat) (X : Nat → Int) (k la f m : Int) (ws ws' : va_W) (z' : Int32) : Prop := ai_wd tb_TY ad tys ws' ∧ (rd_ok k la m → cd_R ad tys n ws ws' z' (rd n ln la f len X m.toNat 0 E)) ∧ (¬ rd_ok k la m → ai_fr [] ws ws' ∧ z'.toInt = -1)
def mdW : List (Nat × Nat × Nat) := [(50, 8, 18), (50, 81, 108), (49, 24, 25)]
def md_R (ad : List Nat) (tys : ai_ty) (n : Nat) (ws ws' : va_W) (z' : Int32) : Nat ⊕ ((Nat → Int) × Nat × Int) → Prop
  | .inl i => ai_fr [(50, 0, 27), (50, 81, 108)] ws ws' ∧ (∀ (j : Nat) (z : Int), j < 27 → vi ws 50 j z → vi ws' 50 j z) ∧ z'.toInt = -20 - i
  | .inr (E', i, y) => ai_fr mdW ws ws' ∧ pev ws' 0 n E' ∧ vi ws' 49 24 y ∧ z'.toInt = i
def md_P (ad : List Nat) (tys : ai_ty) (n : Nat) (E : Nat → Int) (ln : Int) (len : Nat) (X : Nat → Int) (k la f m : Int) (ws ws' : va_W) (z' : Int32) : Prop := ai_wd tb_TY ad tys ws' ∧ (rd_ok k la m → md_R ad tys n ws ws' z' (rd n ln la f len X m.toNat 0 E)) ∧ (¬ rd_ok k la m → ai_fr [] ws ws' ∧ z'.toInt = -1)
section RDA
variable {ad : List Nat} {p : Program} {l : Launch} {e : Env} {R : Room} {s : State} {m : MethodId} {args : Array Value} {below : List Frame} {meth : Method} {c : Code} {D : va_G} {tys : ai_ty} {A : Nat → Prop} {b L : Nat} {sx : Nat → Int32} {cells slots : Nat} {Q : State → Prop}
theorem ra5_ok {a cl : Nat} {z1 z2 z3 z4 : Int32} {k1 k2 l1 l2 m1 m2 : Int} (ha : ad[cl]? = some a) (h1 : k1 ≤ z1.toInt ∧ z1.toInt ≤ k2) (h2 : l1 ≤ z2.toInt ∧ z2.toInt ≤ l2) (h3 : m1 ≤ z4.toInt ∧ z4.toInt ≤ m2) : ai_ok [0, 0, z1.toInt, z2.toInt, z3.toInt, z4.toInt] (ra5_en k1 k2 l1 l2 m1 m2) ∧ ai_lo ad b [0, 0, z1.toInt, z2.toInt, z3.toInt, z4.toInt] (ra5_lo cl) [(0, .ref a), (1, .int z1), (2, .int z2), (3, .int z3), (4, .int z4)] := by
  have b3 := ai_irg z3
  exact ⟨en_mk (by simp only [ra5_en, en_b, and_true]; omega) rfl, rfl, Or.inl ⟨rfl, a, ha, rfl⟩, rfl, int_dv (z := z1.toInt) rfl (by omega), rfl, int_dv (z := z2.toInt) rfl (by omega), rfl, int_dv (z := z3.toInt) rfl (by omega), rfl, int_dv (z := z4.toInt) rfl (by omega), trivial⟩
theorem ra5_un {r' : List Int} {lv' : List (Nat × Value)} {a cl : Nat} {z1 z2 z3 z4 : Int32} (ha : ad[cl]? = some a) (hx' : ai_x [0, 0, z1.toInt, z2.toInt, z3.toInt, z4.toInt] r') (hlo : ai_lo ad b r' (ra5_lo cl) lv') : lv' = [(0, .ref a), (1, .int z1), (2, .int z2), (3, .int z3), (4, .int z4)] := by
  obtain ⟨lv1, rfl, pz1⟩ := lo_ref ha hlo
  obtain ⟨y1, lv2, rfl, d1, pz2⟩ := lo_int rfl pz1
  obtain ⟨y2, lv3, rfl, d2, pz3⟩ := lo_int rfl pz2
  obtain ⟨y3, lv4, rfl, d3, pz4⟩ := lo_int rfl pz3
  obtain ⟨y4, lv5, rfl, d4, pz5⟩ := lo_int rfl pz4
  cases lo_nil pz5
  unfold vn at d1 d2 d3 d4
  rw [nm_x hx' (k := 2) rfl] at d1
  rw [nm_x hx' (k := 3) rfl] at d2
  rw [nm_x hx' (k := 4) rfl] at d3
  rw [nm_x hx' (k := 5) rfl] at d4
  dsimp only at d1 d2 d3 d4
  rw [Int32.toInt_inj.mp (show y1.toInt = z1.toInt by omega), Int32.toInt_inj.mp (show y2.toInt = z2.toInt by omega), Int32.toInt_inj.mp (show y3.toInt = z3.toInt by omega), Int32.toInt_inj.mp (show y4.toInt = z4.toInt by omega)]
theorem ref_of {r : List Int} {cl a : Nat} {x : Value} (ha : ad[cl]? = some a) (h : ai_dv ad b r (0, cl, 0, 0) x) : x = .ref a := by
  rcases h with ⟨-, q, q1, q2⟩ | ⟨q, -⟩ | ⟨q, -⟩ | ⟨q, -⟩ | ⟨q, -⟩
  · rw [q2, Option.some.inj (q1.symm.trans ha)]
  all_goals exact absurd (show (0 : Nat) = _ from q) (by decide)
theorem cd_bad {a : Nat} {z1 z2 z3 z4 : Int32} {ws : va_W} (C : ai_cx tb_m91 10 p R s m args c D tys A b L sx cells slots) (hw : ai_wd tb_TY ad tys ws) (ha : ad[0]? = some a) (hno : ¬ rd_ok z1.toInt z2.toInt z4.toInt)
    (k : ∀ (ws' : va_W) (z' : Int32) (lv' : List (Nat × Value)), ai_wd tb_TY ad tys ws' → ai_fr [] ws ws' → z'.toInt = -1 → hG tb_m91 p l e R s m args below meth c D A cells slots Q 28 lv' [.int z'] ws') : hG tb_m91 p l e R s m args below meth c D A cells slots Q 0 [(0, .ref a), (1, .int z1), (2, .int z2), (3, .int z3), (4, .int z4)] [] ws := by
  have b1 := ai_irg z1
  have b2 := ai_irg z2
  have b4 := ai_irg z4
  have fin : ∀ {k1 k2 l1 l2 m1 m2 : Int}, ((ai_ex (hk []) 100 91 tb_m91 10 [37] (ra5_st 0 0 k1 k2 l1 l2 m1 m2)).any fun xs => xs.all (pl_bad 28)) = true → (k1 ≤ z1.toInt ∧ z1.toInt ≤ k2) → (l1 ≤ z2.toInt ∧ z2.toInt ≤ l2) → (m1 ≤ z4.toInt ∧ z4.toInt ≤ m2) → hG tb_m91 p l e R s m args below meth c D A cells slots Q 0 [(0, .ref a), (1, .int z1), (2, .int z2), (3, .int z3), (4, .int z4)] [] ws := fun {k1 k2 l1 l2 m1 m2} hrun h1 h2 h3 => by
    obtain ⟨xs, y1, y2⟩ := ai_anyE hrun
    obtain ⟨o1, o2⟩ := ra5_ok (ad := ad) (b := b) (z3 := z3) ha h1 h2 h3
    refine hseg (st := ra5_st 0 0 k1 k2 l1 l2 m1 m2) y1 rfl C ⟨o1, sb0, o2, trivial, hw, k0, fun _ _ _ _ h => h, fun h => by cases h⟩ (fun x hx r' lv' sk' ws' hx' g' => ?_)
    obtain ⟨g1, g2, g3, g4, g5, g6, g7, g8⟩ := g'
    have hb := List.all_eq_true.mp y2 x hx
    unfold pl_bad at hb
    rw [Bool.and_eq_true, ai_beq, decide_eq_true_eq] at hb
    rw [hb.2] at g4
    obtain ⟨i, rfl, hi⟩ := sk1 rfl g4
    rw [hb.1]
    refine k ws' i lv' g5 g7 ?_
    rw [hi]
    unfold vn
    rw [nm_x hx' (k := 0) rfl]
    rfl
  by_cases q1 : z1.toInt < 0
  · exact fin cd_b1 (by omega) (by omega) (by omega)
  by_cases q2 : 3 < z1.toInt
  · exact fin cd_b2 (by omega) (by omega) (by omega)
  by_cases q3 : z2.toInt < 0
  · exact fin cd_b3 (by omega) (by omega) (by omega)
  by_cases q4 : 2 < z2.toInt
  · exact fin cd_b4 (by omega) (by omega) (by omega)
  by_cases q5 : z4.toInt < 0
  · exact fin cd_b5 (by omega) (by omega) (by omega)
  by_cases q6 : 20 < z4.toInt
  · exact fin cd_b6 (by omega) (by omega) (by omega)
  · exact absurd ⟨by omega, by omega, by omega, by omega⟩ hno
theorem md_bad {a : Nat} {z1 z2 z3 z4 : Int32} {ws : va_W} (C : ai_cx tb_m166 10 p R s m args c D tys A b L sx cells slots) (hw : ai_wd tb_TY ad tys ws) (ha : ad[49]? = some a) (hno : ¬ rd_ok z1.toInt z2.toInt z4.toInt)
    (k : ∀ (ws' : va_W) (z' : Int32) (lv' : List (Nat × Value)), ai_wd tb_TY ad tys ws' → ai_fr [] ws ws' → z'.toInt = -1 → hG tb_m166 p l e R s m args below meth c D A cells slots Q 38 lv' [.int z'] ws') : hG tb_m166 p l e R s m args below meth c D A cells slots Q 0 [(0, .ref a), (1, .int z1), (2, .int z2), (3, .int z3), (4, .int z4)] [] ws := by
  have b1 := ai_irg z1
  have b2 := ai_irg z2
  have b4 := ai_irg z4
  have fin : ∀ {k1 k2 l1 l2 m1 m2 : Int}, ((ai_ex (hk []) 100 166 tb_m166 10 [43] (ra5_st 49 0 k1 k2 l1 l2 m1 m2)).any fun xs => xs.all (pl_bad 38)) = true → (k1 ≤ z1.toInt ∧ z1.toInt ≤ k2) → (l1 ≤ z2.toInt ∧ z2.toInt ≤ l2) → (m1 ≤ z4.toInt ∧ z4.toInt ≤ m2) → hG tb_m166 p l e R s m args below meth c D A cells slots Q 0 [(0, .ref a), (1, .int z1), (2, .int z2), (3, .int z3), (4, .int z4)] [] ws := fun {k1 k2 l1 l2 m1 m2} hrun h1 h2 h3 => by
    obtain ⟨xs, y1, y2⟩ := ai_anyE hrun
    obtain ⟨o1, o2⟩ := ra5_ok (ad := ad) (b := b) (z3 := z3) ha h1 h2 h3
    refine hseg (st := ra5_st 49 0 k1 k2 l1 l2 m1 m2) y1 rfl C ⟨o1, sb0, o2, trivial, hw, k0, fun _ _ _ _ h => h, fun h => by cases h⟩ (fun x hx r' lv' sk' ws' hx' g' => ?_)
    obtain ⟨g1, g2, g3, g4, g5, g6, g7, g8⟩ := g'
    have hb := List.all_eq_true.mp y2 x hx
    unfold pl_bad at hb
    rw [Bool.and_eq_true, ai_beq, decide_eq_true_eq] at hb
    rw [hb.2] at g4
    obtain ⟨i, rfl, hi⟩ := sk1 rfl g4
    rw [hb.1]
    refine k ws' i lv' g5 g7 ?_
    rw [hi]
    unfold vn
    rw [nm_x hx' (k := 0) rfl]
    rfl
  by_cases q1 : z1.toInt < 0
  · exact fin md_b1 (by omega) (by omega) (by omega)
  by_cases q2 : 3 < z1.toInt
  · exact fin md_b2 (by omega) (by omega) (by omega)
  by_cases q3 : z2.toInt < 0
  · exact fin md_b3 (by omega) (by omega) (by omega)
  by_cases q4 : 2 < z2.toInt
  · exact fin md_b4 (by omega) (by omega) (by omega)
  by_cases q5 : z4.toInt < 0
  · exact fin md_b5 (by omega) (by omega) (by omega)
  by_cases q6 : 20 < z4.toInt
  · exact fin md_b6 (by omega) (by omega) (by omega)
  · exact absurd ⟨by omega, by omega, by omega, by omega⟩ hno
end RDA
