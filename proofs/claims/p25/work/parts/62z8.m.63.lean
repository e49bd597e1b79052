section
/-! read, whole, on both sides -/
def ra5_lo (cl : Nat) : List (Nat × ai_v) := [(0, (0, cl, 0, 0)), (1, (1, 2, 0, 0)), (2, (1, 3, 0, 0)), (3, (1, 4, 0, 0)), (4, (1, 5, 0, 0))]
def ra5_en (k1 k2 l1 l2 m1 m2 : Int) : List ai_e := [(0, 0, false, 0, 0), (0, 2555, false, 1, 0), (k1, k2, false, 2, 0), (l1, l2, false, 3, 0), (-2147483648, 2147483647, false, 4, 0), (m1, m2, false, 5, 0)]
def ra5_st (cl pc : Nat) (k1 k2 l1 l2 m1 m2 : Int) : ai_s := (pc, ra5_lo cl, [], ra5_en k1 k2 l1 l2 m1 m2, [], [])
def ra5_l3 (cl : Nat) : List (Nat × ai_v) := [(0, (0, cl, 0, 0)), (5, (1, 2, 0, 0)), (6, (1, 3, 0, 0))]
def ra5_e3 : List ai_e := [(0, 0, false, 0, 0), (0, 2555, false, 1, 0), (0, 3, false, 2, 0), (0, 20, false, 3, 0)]
def ra5_S (cl pc : Nat) (sk : List ai_v) : List sm_t := [(pc, ra5_lo cl, sk, [], ra5_en 0 3 0 2 0 20, [])]
def ra5_S0 (cl pc : Nat) : List sm_t := [(pc, [(0, (0, cl, 0, 0)), (1, (1, 2, 0, 0)), (2, (1, 3, 0, 0)), (3, (1, 4, 0, 0)), (4, (1, 5, 0, 0)), (5, (1, 0, 0, 0)), (6, (1, 0, 0, 0)), (7, (1, 0, 0, 0))], [], [], ra5_en 0 3 0 2 0 20, [])]
theorem cev_bc {ad : List Nat} {tys : ai_ty} {src dst n : Nat} {ws ws' : va_W} {E : Nat → Int} (hn : n ≤ 4) (h : bc_P ad tys src dst ws ws') (hc : cev ws src n E) : cev ws' dst n E := by
  obtain ⟨-, -, h1, h2, -⟩ := h
  refine ⟨fun i hi => ?_, h1 1 _ (by decide) hc.2.1, h1 2 _ (by decide) hc.2.2⟩
  obtain ⟨a1, a2, a3, a4⟩ := hc.1 i hi
  exact ⟨h2 0 i _ (by decide) (by omega) a1, h2 1 i _ (by decide) (by omega) a2, h2 2 i _ (by decide) (by omega) a3, h2 3 i _ (by decide) (by omega) a4⟩
theorem bc_fr {dst : Nat} {V : List (Nat × Nat × Nat)} {u v : va_W} (hv : wsub (bc_W dst) V = true) (h : ai_fr (bc_W dst) u v) : ai_fr V u v := wsub_ok hv h
theorem cd_b1 : ((ai_ex (hk []) 100 91 tb_m91 10 [37] (ra5_st 0 0 (-2147483648) (-1) (-2147483648) 2147483647 (-2147483648) 2147483647)).any fun xs => xs.all (pl_bad 28)) = true := by decide +kernel
theorem cd_b2 : ((ai_ex (hk []) 100 91 tb_m91 10 [37] (ra5_st 0 0 4 2147483647 (-2147483648) 2147483647 (-2147483648) 2147483647)).any fun xs => xs.all (pl_bad 28)) = true := by decide +kernel
theorem cd_b3 : ((ai_ex (hk []) 100 91 tb_m91 10 [37] (ra5_st 0 0 0 3 (-2147483648) (-1) (-2147483648) 2147483647)).any fun xs => xs.all (pl_bad 28)) = true := by decide +kernel
theorem cd_b4 : ((ai_ex (hk []) 100 91 tb_m91 10 [37] (ra5_st 0 0 0 3 3 2147483647 (-2147483648) 2147483647)).any fun xs => xs.all (pl_bad 28)) = true := by decide +kernel
theorem cd_b5 : ((ai_ex (hk []) 100 91 tb_m91 10 [37] (ra5_st 0 0 0 3 0 2 (-2147483648) (-1))).any fun xs => xs.all (pl_bad 28)) = true := by decide +kernel
theorem cd_b6 : ((ai_ex (hk []) 100 91 tb_m91 10 [37] (ra5_st 0 0 0 3 0 2 21 2147483647)).any fun xs => xs.all (pl_bad 28)) = true := by decide +kernel
theorem cd_c1 : ((ai_ex (hk []) 100 91 tb_m91 10 [37] (ra5_st 0 0 0 3 0 2 0 20)).any fun xs => xs.all fun x => (ra5_S 0 37 [(0, 1, 0, 0), (0, 7, 0, 0)]).any fun t => sm_is [] x t) = true := by decide +kernel
theorem cd_c2 : ((ai_ex (hk []) 100 91 tb_m91 10 [49] (ra5_st 0 40 0 3 0 2 0 20)).any fun xs => xs.all fun x => (ra5_S0 0 49).any fun t => sm_is [] x t) = true := by decide +kernel
theorem md_b1 : ((ai_ex (hk []) 100 166 tb_m166 10 [43] (ra5_st 49 0 (-2147483648) (-1) (-2147483648) 2147483647 (-2147483648) 2147483647)).any fun xs => xs.all (pl_bad 38)) = true := by decide +kernel
theorem md_b2 : ((ai_ex (hk []) 100 166 tb_m166 10 [43] (ra5_st 49 0 4 2147483647 (-2147483648) 2147483647 (-2147483648) 2147483647)).any fun xs => xs.all (pl_bad 38)) = true := by decide +kernel
theorem md_b3 : ((ai_ex (hk []) 100 166 tb_m166 10 [43] (ra5_st 49 0 0 3 (-2147483648) (-1) (-2147483648) 2147483647)).any fun xs => xs.all (pl_bad 38)) = true := by decide +kernel
theorem md_b4 : ((ai_ex (hk []) 100 166 tb_m166 10 [43] (ra5_st 49 0 0 3 3 2147483647 (-2147483648) 2147483647)).any fun xs => xs.all (pl_bad 38)) = true := by decide +kernel
theorem md_b5 : ((ai_ex (hk []) 100 166 tb_m166 10 [43] (ra5_st 49 0 0 3 0 2 (-2147483648) (-1))).any fun xs => xs.all (pl_bad 38)) = true := by decide +kernel
theorem md_b6 : ((ai_ex (hk []) 100 166 tb_m166 10 [43] (ra5_st 49 0 0 3 0 2 21 2147483647)).any fun xs => xs.all (pl_bad 38)) = true := by decide +kernel
theorem md_c1 : ((ai_ex (hk []) 100 166 tb_m166 10 [43] (ra5_st 49 0 0 3 0 2 0 20)).any fun xs => xs.all fun x => (ra5_S 49 43 [(1, 0, 0, 81), (1, 0, 0, 0), (0, 49, 0, 0)]).any fun t => sm_is [] x t) = true := by decide +kernel
theorem md_c2 : ((ai_ex (hk []) 100 166 tb_m166 10 [55] (ra5_st 49 46 0 3 0 2 0 20)).any fun xs => xs.all fun x => (ra5_S0 49 55).any fun t => sm_is [] x t) = true := by decide +kernel
theorem cd_c3 : ((ai_ex (hk []) 20 91 tb_m91 10 [142] (134, ra5_l3 0, [], ra5_e3, [], [])).any fun xs => xs.all fun x => ([(142, ra5_l3 0, [(0, 7, 0, 0), (0, 1, 0, 0)], [], ra5_e3, [])] : List sm_t).any fun t => sm_is [] x t) = true := by decide +kernel
theorem cd_c4 : ((ai_ex (hk [(0, 10, 11)]) 20 91 tb_m91 10 [] (145, ra5_l3 0, [], ra5_e3, [], [])).any fun xs => xs.all fun x => ([(153, [], [(1, 3, 0, 0)], [(1, 2, 0, 0)], ra5_e3, [])] : List sm_t).any fun t => sm_is [(0, 10)] x t) = true := by decide +kernel
theorem md_c3 : ((ai_ex (hk [(49, 24, 25)]) 20 166 tb_m166 10 [] (173, ra5_l3 49, [], ra5_e3, [], [])).any fun xs => xs.all fun x => ([(181, [], [(1, 3, 0, 0)], [(1, 2, 0, 0)], ra5_e3, [])] : List sm_t).any fun t => sm_is [(49, 24)] x t) = true := by decide +kernel
def rd_ok (k la m : Int) : Prop := (0 ≤ k ∧ k ≤ 3) ∧ (0 ≤ la ∧ la ≤ 2) ∧ 0 ≤ m ∧ m ≤ 20
def cdW : List (Nat × Nat × Nat) := bc_W 7 ++ bc_W 1 ++ [(0, 10, 11)]
/-- what read of the class leaves: refused, or done -/
def cd_R (ad : List Nat) (tys : ai_ty) (n : Nat) (ws ws' : va_W) (z' : Int32) : Nat ⊕ ((Nat → Int) × Nat × Int) → Prop
  | .inl i => ai_fr (bc_W 7) ws ws' ∧ z'.toInt = -20 - i
  | .inr (E', i, y) => ai_fr cdW ws ws' ∧ cev ws' 1 n E' ∧ good n E' ∧ vi ws' 1 0 n ∧ (∀ z, vi ws 1 3 z → vi ws' 1 3 z) ∧ (∀ (j : Nat) (z : Int), j < 8 → vi ws 6 j z → vi ws' 6 j z) ∧ vi ws' 0 10 y ∧ z'.toInt = i
def cd_P (ad : List Nat) (tys : ai_ty) (n : Nat) (E : Nat → Int) (ln : Int) (len : Nat) (X : Nat → Int) (k la f m : Int) (ws ws' : va_W) (z' : Int32) : Prop := ai_wd tb_TY ad tys ws' ∧ (rd_ok k la m → cd_R ad tys n ws ws' z' (rd n ln la f len X m.toNat 0 E)) ∧ (¬ rd_ok k la m → ai_fr [] ws ws' ∧ z'.toInt = -1)
def mdW : List (Nat × Nat × Nat) := [(50, 8, 18), (50, 81, 108), (49, 24, 25)]
def md_R (ad : List Nat) (tys : ai_ty) (n : Nat) (ws ws' : va_W) (z' : Int32) : Nat ⊕ ((Nat → Int) × Nat × Int) → Prop
  | .inl i => ai_fr [(50, 0, 27), (50, 81, 108)] ws ws' ∧ (∀ (j : Nat) (z : Int), j < 27 → vi ws 50 j z → vi ws' 50 j z) ∧ z'.toInt = -20 - i
  | .inr (E', i, y) => ai_fr mdW ws ws' ∧ pev ws' 0 n E' ∧ vi ws' 49 24 y ∧ z'.toInt = i
def md_P (ad : List Nat) (tys : ai_ty) (n : Nat) (E : Nat → Int) (ln : Int) (len : Nat) (X : Nat → Int) (k la f m : Int) (ws ws' : va_W) (z' : Int32) : Prop := ai_wd tb_TY ad tys ws' ∧ (rd_ok k la m → md_R ad tys n ws ws' z' (rd n ln la f len X m.toNat 0 E)) ∧ (¬ rd_ok k la m → ai_fr [] ws ws' ∧ z'.toInt = -1)
section RDA
variable {ad : List Nat} {p : Program} {l : Launch} {e : Env} {R : Room} {s : State} {m : MethodId} {args : Array Value} {below : List Frame} {meth : Method} {c : Code} {D : va_G} {tys : ai_ty} {A : Nat → Prop} {b L : Nat} {sx : Nat → Int32} {cells slots : Nat} {Q : State → Prop}
theorem ra5_ok {a cl : Nat} {z1 z2 z3 z4 : Int32} {k1 k2 l1 l2 m1 m2 : Int} (ha : ad[cl]? = some a) (h1 : k1 ≤ z1.toInt ∧ z1.toInt ≤ k2) (h2 : l1 ≤ z2.toInt ∧ z2.toInt ≤ l2) (h3 : m1 ≤ z4.toInt ∧ z4.toInt ≤ m2) : ai_ok [0, 0, z1.toInt, z2.toInt, z3.toInt, z4.toInt] (ra5_en k1 k2 l1 l2 m1 m2) ∧ ai_lo ad b [0, 0, z1.toInt, z2.toInt, z3.toInt, z4.toInt] (ra5_lo cl) [(0, .ref a), (1, .int z1), (2, .int z2), (3, .int z3), (4, .int z4)] := by
  have b3 := ai_irg z3
  exact ⟨en_mk (by simp only [ra5_en, en_b, and_true]; omega) rfl, rfl, Or.inl ⟨rfl, a, ha, rfl⟩, rfl, int_dv (z := z1.toInt) rfl (by omega), rfl, int_dv (z := z2.toInt) rfl (by omega), rfl, int_dv (z := z3.toInt) rfl (by omega), rfl, int_dv (z := z4.toInt) rfl (by omega), trivial⟩
theorem ra5_un {r' : List Int} {lv' : List (Nat × Value)} {a cl : Nat} {z1 z2 z3 z4 : Int32} (ha : ad[cl]? = some a) (hx' : ai_x [0, 0, z1.toInt, z2.toInt, z3.toInt, z4.toInt] r') (hlo : ai_lo ad b r' (ra5_lo cl) lv') : lv' = [(0, .ref a), (1, .int z1), (2, .int z2), (3, .int z3), (4, .int z4)] := by
  obtain ⟨lv1, rfl, pz1⟩ := lo_ref ha hlo
  obtain ⟨y1, lv2, rfl, d1, pz2⟩ := lo_int rfl pz1
  obtain ⟨y2, lv3, rfl, d2, pz3⟩ := lo_int rfl pz2
  obtain ⟨y3, lv4, rfl, d3, pz4⟩ := lo_int rfl pz3
  obtain ⟨y4, lv5, rfl, d4, pz5⟩ := lo_int rfl pz4
  cases lo_nil pz5
  unfold vn at d1 d2 d3 d4
  rw [nm_x hx' (k := 2) rfl] at d1
  rw [nm_x hx' (k := 3) rfl] at d2
  rw [nm_x hx' (k := 4) rfl] at d3
  rw [nm_x hx' (k := 5) rfl] at d4
  dsimp only at d1 d2 d3 d4
  rw [Int32.toInt_inj.mp (show y1.toInt = z1.toInt by omega), Int32.toInt_inj.mp (show y2.toInt = z2.toInt by omega), Int32.toInt_inj.mp (show y3.toInt = z3.toInt by omega), Int32.toInt_inj.mp (show y4.toInt = z4.toInt by omega)]
theorem ref_of {r : List Int} {cl a : Nat} {x : Value} (ha : ad[cl]? = some a) (h : ai_dv ad b r (0, cl, 0, 0) x) : x = .ref a := by
  rcases h with ⟨-, q, q1, q2⟩ | ⟨q, -⟩ | ⟨q, -⟩ | ⟨q, -⟩ | ⟨q, -⟩
  · rw [q2, Option.some.inj (q1.symm.trans ha)]
  all_goals exact absurd (show (0 : Nat) = _ from q) (by decide)
theorem cd_bad {a : Nat} {z1 z2 z3 z4 : Int32} {ws : va_W} (C : ai_cx tb_m91 10 p R s m args c D tys A b L sx cells slots) (hw : ai_wd tb_TY ad tys ws) (ha : ad[0]? = some a) (hno : ¬ rd_ok z1.toInt z2.toInt z4.toInt)
    (k : ∀ (ws' : va_W) (z' : Int32) (lv' : List (Nat × Value)), ai_wd tb_TY ad tys ws' → ai_fr [] ws ws' → z'.toInt = -1 → hG tb_m91 p l e R s m args below meth c D A cells slots Q 28 lv' [.int z'] ws') : hG tb_m91 p l e R s m args below meth c D A cells slots Q 0 [(0, .ref a), (1, .int z1), (2, .int z2), (3, .int z3), (4, .int z4)] [] ws := by
  have b1 := ai_irg z1
  have b2 := ai_irg z2
  have b4 := ai_irg z4
  have fin : ∀ {k1 k2 l1 l2 m1 m2 : Int}, ((ai_ex (hk []) 100 91 tb_m91 10 [37] (ra5_st 0 0 k1 k2 l1 l2 m1 m2)).any fun xs => xs.all (pl_bad 28)) = true → (k1 ≤ z1.toInt ∧ z1.toInt ≤ k2) → (l1 ≤ z2.toInt ∧ z2.toInt ≤ l2) → (m1 ≤ z4.toInt ∧ z4.toInt ≤ m2) → hG tb_m91 p l e R s m args below meth c D A cells slots Q 0 [(0, .ref a), (1, .int z1), (2, .int z2), (3, .int z3), (4, .int z4)] [] ws := fun {k1 k2 l1 l2 m1 m2} hrun h1 h2 h3 => by
    obtain ⟨xs, y1, y2⟩ := ai_anyE hrun
    obtain ⟨o1, o2⟩ := ra5_ok (ad := ad) (b := b) (z3 := z3) ha h1 h2 h3
    refine hseg (st := ra5_st 0 0 k1 k2 l1 l2 m1 m2) y1 rfl C ⟨o1, sb0, o2, trivial, hw, k0, fun _ _ _ _ h => h, fun h => by cases h⟩ (fun x hx r' lv' sk' ws' hx' g' => ?_)
    obtain ⟨g1, g2, g3, g4, g5, g6, g7, g8⟩ := g'
    have hb := List.all_eq_true.mp y2 x hx
    unfold pl_bad at hb
    rw [Bool.and_eq_true, ai_beq, decide_eq_true_eq] at hb
    rw [hb.2] at g4
    obtain ⟨i, rfl, hi⟩ := sk1 rfl g4
    rw [hb.1]
    refine k ws' i lv' g5 g7 ?_
    rw [hi]
    unfold vn
    rw [nm_x hx' (k := 0) rfl]
    rfl
  by_cases q1 : z1.toInt < 0
  · exact fin cd_b1 (by omega) (by omega) (by omega)
  by_cases q2 : 3 < z1.toInt
  · exact fin cd_b2 (by omega) (by omega) (by omega)
  by_cases q3 : z2.toInt < 0
  · exact fin cd_b3 (by omega) (by omega) (by omega)
  by_cases q4 : 2 < z2.toInt
  · exact fin cd_b4 (by omega) (by omega) (by omega)
  by_cases q5 : z4.toInt < 0
  · exact fin cd_b5 (by omega) (by omega) (by omega)
  by_cases q6 : 20 < z4.toInt
  · exact fin cd_b6 (by omega) (by omega) (by omega)
  · exact absurd ⟨by omega, by omega, by omega, by omega⟩ hno
theorem md_bad {a : Nat} {z1 z2 z3 z4 : Int32} {ws : va_W} (C : ai_cx tb_m166 10 p R s m args c D tys A b L sx cells slots) (hw : ai_wd tb_TY ad tys ws) (ha : ad[49]? = some a) (hno : ¬ rd_ok z1.toInt z2.toInt z4.toInt)
    (k : ∀ (ws' : va_W) (z' : Int32) (lv' : List (Nat × Value)), ai_wd tb_TY ad tys ws' → ai_fr [] ws ws' → z'.toInt = -1 → hG tb_m166 p l e R s m args below meth c D A cells slots Q 38 lv' [.int z'] ws') : hG tb_m166 p l e R s m args below meth c D A cells slots Q 0 [(0, .ref a), (1, .int z1), (2, .int z2), (3, .int z3), (4, .int z4)] [] ws := by
  have b1 := ai_irg z1
  have b2 := ai_irg z2
  have b4 := ai_irg z4
  have fin : ∀ {k1 k2 l1 l2 m1 m2 : Int}, ((ai_ex (hk []) 100 166 tb_m166 10 [43] (ra5_st 49 0 k1 k2 l1 l2 m1 m2)).any fun xs => xs.all (pl_bad 38)) = true → (k1 ≤ z1.toInt ∧ z1.toInt ≤ k2) → (l1 ≤ z2.toInt ∧ z2.toInt ≤ l2) → (m1 ≤ z4.toInt ∧ z4.toInt ≤ m2) → hG tb_m166 p l e R s m args below meth c D A cells slots Q 0 [(0, .ref a), (1, .int z1), (2, .int z2), (3, .int z3), (4, .int z4)] [] ws := fun {k1 k2 l1 l2 m1 m2} hrun h1 h2 h3 => by
    obtain ⟨xs, y1, y2⟩ := ai_anyE hrun
    obtain ⟨o1, o2⟩ := ra5_ok (ad := ad) (b := b) (z3 := z3) ha h1 h2 h3
    refine hseg (st := ra5_st 49 0 k1 k2 l1 l2 m1 m2) y1 rfl C ⟨o1, sb0, o2, trivial, hw, k0, fun _ _ _ _ h => h, fun h => by cases h⟩ (fun x hx r' lv' sk' ws' hx' g' => ?_)
    obtain ⟨g1, g2, g3, g4, g5, g6, g7, g8⟩ := g'
    have hb := List.all_eq_true.mp y2 x hx
    unfold pl_bad at hb
    rw [Bool.and_eq_true, ai_beq, decide_eq_true_eq] at hb
    rw [hb.2] at g4
    obtain ⟨i, rfl, hi⟩ := sk1 rfl g4
    rw [hb.1]
    refine k ws' i lv' g5 g7 ?_
    rw [hi]
    unfold vn
    rw [nm_x hx' (k := 0) rfl]
    rfl
  by_cases q1 : z1.toInt < 0
  · exact fin md_b1 (by omega) (by omega) (by omega)
  by_cases q2 : 3 < z1.toInt
  · exact fin md_b2 (by omega) (by omega) (by omega)
  by_cases q3 : z2.toInt < 0
  · exact fin md_b3 (by omega) (by omega) (by omega)
  by_cases q4 : 2 < z2.toInt
  · exact fin md_b4 (by omega) (by omega) (by omega)
  by_cases q5 : z4.toInt < 0
  · exact fin md_b5 (by omega) (by omega) (by omega)
  by_cases q6 : 20 < z4.toInt
  · exact fin md_b6 (by omega) (by omega) (by omega)
  · exact absurd ⟨by omega, by omega, by omega, by omega⟩ hno
end RDA
end
section
section RDB
variable {ad : List Nat} {p : Program} {l : Launch} {e : Env} {R : Room} {s : State} {m : MethodId} {args : Array Value} {below : List Frame} {meth : Method} {c : Code} {D : va_G} {tys : ai_ty} {A : Nat → Prop} {b L : Nat} {sx : Nat → Int32} {cells slots : Nat} {Q : State → Prop}
theorem ra8_un {r' : List Int} {lv' : List (Nat × Value)} {a cl : Nat} {z1 z2 z3 z4 : Int32} (ha : ad[cl]? = some a) (hx' : ai_x [0, 0, z1.toInt, z2.toInt, z3.toInt, z4.toInt] r') (hlo : ai_lo ad b r' [(0, (0, cl, 0, 0)), (1, (1, 2, 0, 0)), (2, (1, 3, 0, 0)), (3, (1, 4, 0, 0)), (4, (1, 5, 0, 0)), (5, (1, 0, 0, 0)), (6, (1, 0, 0, 0)), (7, (1, 0, 0, 0))] lv') : ∃ y5 y6 y7 : Int32, lv' = [(0, .ref a), (1, .int z1), (2, .int z2), (3, .int z3), (4, .int z4), (5, .int y5), (6, .int y6), (7, .int y7)] ∧ y5.toInt = 0 ∧ y6.toInt = 0 ∧ y7.toInt = 0 := by
  obtain ⟨lv1, rfl, pz1⟩ := lo_ref ha hlo
  obtain ⟨y1, lv2, rfl, d1, pz2⟩ := lo_int rfl pz1
  obtain ⟨y2, lv3, rfl, d2, pz3⟩ := lo_int rfl pz2
  obtain ⟨y3, lv4, rfl, d3, pz4⟩ := lo_int rfl pz3
  obtain ⟨y4, lv5, rfl, d4, pz5⟩ := lo_int rfl pz4
  obtain ⟨y5, lv6, rfl, d5, pz6⟩ := lo_int rfl pz5
  obtain ⟨y6, lv7, rfl, d6, pz7⟩ := lo_int rfl pz6
  obtain ⟨y7, lv8, rfl, d7, pz8⟩ := lo_int rfl pz7
  cases lo_nil pz8
  unfold vn at d1 d2 d3 d4 d5 d6 d7
  rw [nm_x hx' (k := 2) rfl] at d1
  rw [nm_x hx' (k := 3) rfl] at d2
  rw [nm_x hx' (k := 4) rfl] at d3
  rw [nm_x hx' (k := 5) rfl] at d4
  rw [nm_x hx' (k := 0) rfl] at d5 d6 d7
  dsimp only at d1 d2 d3 d4 d5 d6 d7
  refine ⟨y5, y6, y7, ?_, by omega, by omega, by omega⟩
  rw [Int32.toInt_inj.mp (show y1.toInt = z1.toInt by omega), Int32.toInt_inj.mp (show y2.toInt = z2.toInt by omega), Int32.toInt_inj.mp (show y3.toInt = z3.toInt by omega), Int32.toInt_inj.mp (show y4.toInt = z4.toInt by omega)]
/-- the sheets, as the class has them -/
def csh (ws : va_W) (Lk : Nat → Int) (Nk : Nat → Nat) (Xk : Nat → Nat → Int) : Prop := ∀ k, k < 4 → vi ws 42 k (Lk k) ∧ vi ws 43 k (Nk k) ∧ (Nk k ≤ 40 ∧ (Lk k = -1 ∨ (0 ≤ Lk k ∧ Lk k ≤ 2))) ∧ ∀ j, j < Nk k → vi ws (45 + k) j (Xk k j)
/-- .. as the reference has them -/
def msh (ws : va_W) (Lk : Nat → Int) (Nk : Nat → Nat) (Xk : Nat → Nat → Int) : Prop := ∀ k, k < 4 → vi ws 57 k (if Lk k = -1 then -4 else Lk k) ∧ vi ws 58 k (Nk k) ∧ (Nk k ≤ 40 ∧ (Lk k = -1 ∨ (0 ≤ Lk k ∧ Lk k ≤ 2))) ∧ ∀ j, j < Nk k → vi ws 59 (40 * k + j) (Xk k j)
theorem csh.fr {W : List (Nat × Nat × Nat)} {ws ws' : va_W} {Lk : Nat → Int} {Nk : Nat → Nat} {Xk : Nat → Nat → Int} (h : csh ws Lk Nk Xk) (hf : ai_fr W ws ws') (hw : (nowr W 42 && (nowr W 43 && (nowr W 45 && (nowr W 46 && (nowr W 47 && nowr W 48))))) = true) : csh ws' Lk Nk Xk := by
  rw [Bool.and_eq_true, Bool.and_eq_true, Bool.and_eq_true, Bool.and_eq_true, Bool.and_eq_true] at hw
  obtain ⟨w1, w2, w5, w6, w7, w8⟩ := hw
  intro k hk
  obtain ⟨a1, a2, a3, a4⟩ := h k hk
  refine ⟨a1.fr hf (nowr_ok w1 k k), a2.fr hf (nowr_ok w2 k k), a3, fun j hj => (a4 j hj).fr hf ?_⟩
  match k, hk with
  | 0, _ => exact nowr_ok w5 j j
  | 1, _ => exact nowr_ok w6 j j
  | 2, _ => exact nowr_ok w7 j j
  | 3, _ => exact nowr_ok w8 j j
  | k + 4, h => exact absurd h (by omega)
theorem msh.fr {W : List (Nat × Nat × Nat)} {ws ws' : va_W} {Lk : Nat → Int} {Nk : Nat → Nat} {Xk : Nat → Nat → Int} (h : msh ws Lk Nk Xk) (hf : ai_fr W ws ws') (hw : (nowr W 57 && (nowr W 58 && nowr W 59)) = true) : msh ws' Lk Nk Xk := by
  rw [Bool.and_eq_true, Bool.and_eq_true] at hw
  obtain ⟨w1, w2, w3⟩ := hw
  intro k hk
  obtain ⟨a1, a2, a3, a4⟩ := h k hk
  exact ⟨a1.fr hf (nowr_ok w1 k k), a2.fr hf (nowr_ok w2 k k), a3, fun j hj => (a4 j hj).fr hf (nowr_ok w3 _ _)⟩
set_option maxHeartbeats 1000000 in
theorem cd_all {a a1 a7 n : Nat} {E : Nat → Int} {Lk : Nat → Int} {Nk : Nat → Nat} {Xk : Nat → Nat → Int} {z1 z2 z3 z4 : Int32} {ws : va_W} (C : ai_cx tb_m91 10 p R s m args c D tys A b L sx cells slots) (hw : ai_wd tb_TY ad tys ws) (ha : ad[0]? = some a) (ha1 : ad[1]? = some a1) (ha7 : ad[7]? = some a7) (hn4 : n ≤ 4) (hn : vi ws 1 0 n) (hc : cev ws 1 n E) (hg : good n E) (hsh : csh ws Lk Nk Xk)
    (k : ∀ (pcr : Nat) (ws' : va_W) (z' : Int32) (lv' : List (Nat × Value)), pcr ∈ [28, 114, 153] → cd_P ad tys n E (Lk z1.toInt.toNat) (Nk z1.toInt.toNat) (Xk z1.toInt.toNat) z1.toInt z2.toInt z3.toInt z4.toInt ws ws' z' → hG tb_m91 p l e R s m args below meth c D A cells slots Q pcr lv' [.int z'] ws') : hG tb_m91 p l e R s m args below meth c D A cells slots Q 0 [(0, .ref a), (1, .int z1), (2, .int z2), (3, .int z3), (4, .int z4)] [] ws := by
  by_cases hok : rd_ok z1.toInt z2.toInt z4.toInt
  rotate_left
  · exact cd_bad C hw ha hok (fun ws' z' lv' h1 h2 h3 => k 28 ws' z' lv' (by decide) ⟨h1, fun h => absurd h hok, fun _ => ⟨h2, h3⟩⟩)
  · have hok' := hok
    obtain ⟨q1, q2, q3, q4⟩ := hok'
    obtain ⟨o1, o2⟩ := ra5_ok (ad := ad) (b := b) (z3 := z3) ha q1 q2 ⟨q3, q4⟩
    refine hsum (st := ra5_st 0 0 0 3 0 2 0 20) cd_c1 rfl C ⟨o1, sb0, o2, trivial, hw, k0, fun _ _ _ _ h => h, fun h => by cases h⟩ (fun x hx r' lv' sk' ws1 hx' hb hl hs hlo hsk hw1 hv hf1 _ => ?_)
    rw [List.mem_singleton.mp hx] at hlo hsk ⊢
    have e1 := ra5_un ha hx' hlo
    subst e1
    obtain ⟨x1, s1, rfl, d1, g4⟩ := hsk.cons
    obtain ⟨x2, s2, rfl, d2, g5⟩ := g4.cons
    cases g5.nil
    have e2 := ref_of ha1 d1
    have e3 := ref_of ha7 d2
    subst e2 e3
    refine hcallV (q := (84, 0, 1, 1, 0)) (M' := tb_m1) (cl := 7) (a := a7) (As := [.ref a1]) (rest := []) (rets := [103]) (P := bc_P ad tys 1 7 ws1) C (by decide) (tv_m91.1.1.1 (37, .invokevirtual 84, 3) (List.mem_of_getElem? (i := 19) rfl)) (tv_m91.2 _ (List.mem_of_getElem? (i := 3) rfl)) rfl rfl rfl rfl (by decide) (Nat.le_of_ble_eq_true rfl) rfl rfl rfl rfl hw1 ha7 (by decide) ?_ ?_ ?_
    · intro pcr hp
      rw [List.mem_singleton.mp hp]
      exact tv_m1.1.1.1 (103, .return_, 1) (List.mem_of_getElem? (i := 56) rfl)
    · intro p2 e2 R2 s2 m2 args2 below2 meth2 c2 Q2 C2 kk
      exact bc_all bc_r1 bc_T1 (mm_cx (by decide) C2) hw1 ha7 ha1 (fun pcr w lv2 hp hP => kk pcr w lv2 hp hP)
    · intro ws2 hbc
      refine hsum (st := ra5_st 0 40 0 3 0 2 0 20) cd_c2 rfl C ⟨o1, sb0, o2, trivial, hbc.1, k0, fun _ _ _ _ h => h, fun h => by cases h⟩ (fun x hx r' lv' sk' ws3 hx' hb hl hs hlo hsk hw3 hv hf3 _ => ?_)
      rw [List.mem_singleton.mp hx] at hlo hsk ⊢
      obtain ⟨y5, y6, y7, e1, t5, t6, t7⟩ := ra8_un ha hx' hlo
      subst e1
      cases hsk.nil
      obtain ⟨kk, hkk⟩ : ∃ kk : Nat, z1.toInt = (kk : Int) := ⟨z1.toInt.toNat, by omega⟩
      have hk4 : kk < 4 := by omega
      have hkt : z1.toInt.toNat = kk := by omega
      have f02 : ai_fr (bc_W 7) ws ws2 := (wsub_ok (V := []) rfl hf1).tr hbc.2.1
      have f03 : ai_fr (bc_W 7) ws ws3 := f02.tr (wsub_ok (V := []) rfl hf3)
      obtain ⟨u1, u2, u3, u4⟩ := (hsh.fr f03 (by decide)) kk hk4
      have hn3 : vi ws3 7 0 n := (hbc.2.2.1 0 _ (by decide) (hn.fr hf1 rfl)).fr hf3 rfl
      have hc3 : cev ws3 7 n E := (cev_bc hn4 hbc (hc.fr hf1 rfl)).fr hf3 rfl
      refine cd_loop (ws0 := ws3) (N := z4.toInt.toNat) (res := rd n (Lk kk) z2.toInt z3.toInt (Nk kk) (Xk kk) z4.toInt.toNat 0 E) C ha ha7 hk4 hn4 (by omega) q2 u3.2 u3.1 hkk rfl rfl (by omega) (fun ws' z' lv' i' hres hw' hfr hz => ?_) (fun ws' E' i' y w5 w6 hres hw' hfr hc' hg' hi' hy v5 v6 => ?_) z4.toInt.toNat 0 E y5 y6 y7 ws3 (by omega) t5 t6 t7 rfl hw3 (fun _ _ _ _ h => h) hn3 u1 u2 u4 hc3 hg
      · refine k 114 ws' z' lv' (by decide) ⟨hw', fun _ => ?_, fun h => absurd hok h⟩
        rw [hkt, hres]
        exact ⟨f03.tr (wsub_ok (V := cd_W) (by decide) hfr), hz⟩
      · refine hsum (st := (134, ra5_l3 0, [], ra5_e3, [], [])) cd_c3 rfl C (r := [0, 0, y, (i' : Int)]) ⟨en_mk (by simp only [ra5_e3, en_b, and_true]; omega) rfl, sb0, ⟨rfl, Or.inl ⟨rfl, a, ha, rfl⟩, rfl, int_dv (z := y) rfl (by omega), rfl, int_dv (z := (i' : Int)) rfl (by omega), trivial⟩, trivial, hw', k0, fun _ _ _ _ h => h, fun h => by cases h⟩ (fun x hx r2 lv2 sk2 ws5 hx2 hb2 hl2 hs2 hlo2 hsk2 hw5 hv2 hf5 _ => ?_)
        rw [List.mem_singleton.mp hx] at hlo2 hsk2 ⊢
        obtain ⟨lv1, rfl, pz1⟩ := lo_ref ha hlo2
        obtain ⟨b5, lv3, rfl, d5, pz2⟩ := lo_int rfl pz1
        obtain ⟨b6, lv4, rfl, d6, pz3⟩ := lo_int rfl pz2
        cases lo_nil pz3
        unfold vn at d5 d6
        rw [nm_x hx2 (k := 2) rfl] at d5
        rw [nm_x hx2 (k := 3) rfl] at d6
        dsimp only at d5 d6
        obtain ⟨x1, s1, rfl, d1, g4⟩ := hsk2.cons
        obtain ⟨x2, s2, rfl, d2, g5⟩ := g4.cons
        cases g5.nil
        have e2 := ref_of ha7 d1
        have e3 := ref_of ha1 d2
        subst e2 e3
        refine hcallV (q := (84, 0, 1, 1, 0)) (M' := tb_m1) (cl := 1) (a := a1) (As := [.ref a7]) (rest := []) (rets := [103]) (P := bc_P ad tys 7 1 ws5) C (by decide) (tv_m91.1.1.1 (142, .invokevirtual 84, 3) (List.mem_of_getElem? (i := 73) rfl)) (tv_m91.2 _ (List.mem_of_getElem? (i := 3) rfl)) rfl rfl rfl rfl (by decide) (Nat.le_of_ble_eq_true rfl) rfl rfl rfl rfl hw5 ha1 (by decide) ?_ ?_ ?_
        · intro pcr hp
          rw [List.mem_singleton.mp hp]
          exact tv_m1.1.1.1 (103, .return_, 1) (List.mem_of_getElem? (i := 56) rfl)
        · intro p2 e2 R2 s2 m2 args2 below2 meth2 c2 Q2 C2 kk
          exact bc_all bc_r2 bc_T7 (mm_cx (by decide) C2) hw5 ha1 ha7 (fun pcr w lv2 hp hP => kk pcr w lv2 hp hP)
        · intro ws6 hbc6
          refine hsum (st := (145, ra5_l3 0, [], ra5_e3, [], [])) cd_c4 rfl C (r := [0, 0, y, (i' : Int)]) ⟨en_mk (by simp only [ra5_e3, en_b, and_true]; omega) rfl, sb0, ⟨rfl, Or.inl ⟨rfl, a, ha, rfl⟩, rfl, int_dv (z := y) rfl (by omega), rfl, int_dv (z := (i' : Int)) rfl (by omega), trivial⟩, trivial, hbc6.1, k0, fun _ _ _ _ h => h, fun h => by cases h⟩ (fun x hx r3 lv5 sk3 ws7 hx3 hb3 hl3 hs3 hlo3 hsk3 hw7 hv3 hf7 _ => ?_)
          have hx4 := List.mem_singleton.mp hx
          subst hx4
          obtain ⟨zz, rfl, hzz⟩ := sk1 rfl hsk3
          unfold vn at hzz
          rw [nm_x hx3 (k := 3) rfl] at hzz
          dsimp only at hzz
          obtain ⟨w10, -⟩ := hv3
          have w10' : vi ws7 0 10 y := w10.eq (by rw [nm_x hx3 (k := 2) rfl]; show y + 0 = y; omega)
          have f35 : ai_fr cd_W ws3 ws5 := hfr.tr (wsub_ok (V := []) rfl hf5)
          refine k 153 ws7 zz lv5 (by decide) ⟨hw7, fun _ => ?_, fun h => absurd hok h⟩
          rw [hkt, hres]
          refine ⟨?_, (cev_bc hn4 hbc6 (hc'.fr hf5 rfl)).fr hf7 rfl, hg', ?_, fun z hz => ?_, fun j z hj hz => ?_, w10', by omega⟩
          · exact ((wsub_ok (V := bc_W 7) (by decide) (f03.tr (wsub_ok (V := cd_W) (by decide) f35))).tr (wsub_ok (V := bc_W 1) (by decide) hbc6.2.1)).tr (wsub_ok (by decide) hf7)
          · exact (hbc6.2.2.1 0 _ (by decide) (hn3.fr f35 rfl)).fr hf7 rfl
          · exact (hbc6.2.2.1 3 _ (by decide) (((hbc.2.2.1 3 _ (by decide) (hz.fr hf1 rfl)).fr hf3 rfl).fr f35 rfl)).fr hf7 rfl
          · exact (hbc6.2.2.2.2 j _ hj (((hbc.2.2.2.2 j _ hj (hz.fr hf1 rfl)).fr hf3 rfl).fr f35 rfl)).fr hf7 rfl
set_option maxHeartbeats 1000000 in
theorem md_all {a n : Nat} {E : Nat → Int} {Lk : Nat → Int} {Nk : Nat → Nat} {Xk : Nat → Nat → Int} {z1 z2 z3 z4 : Int32} {ws : va_W} (C : ai_cx tb_m166 10 p R s m args c D tys A b L sx cells slots) (hw : ai_wd tb_TY ad tys ws) (ha : ad[49]? = some a) (hn4 : n ≤ 4) (hn : vi ws 49 1 n) (hc : pev ws 0 n E) (hg : good n E) (hsh : msh ws Lk Nk Xk)
    (k : ∀ (pcr : Nat) (ws' : va_W) (z' : Int32) (lv' : List (Nat × Value)), pcr ∈ [38, 163, 181] → md_P ad tys n E (Lk z1.toInt.toNat) (Nk z1.toInt.toNat) (Xk z1.toInt.toNat) z1.toInt z2.toInt z3.toInt z4.toInt ws ws' z' → hG tb_m166 p l e R s m args below meth c D A cells slots Q pcr lv' [.int z'] ws') : hG tb_m166 p l e R s m args below meth c D A cells slots Q 0 [(0, .ref a), (1, .int z1), (2, .int z2), (3, .int z3), (4, .int z4)] [] ws := by
  by_cases hok : rd_ok z1.toInt z2.toInt z4.toInt
  rotate_left
  · exact md_bad C hw ha hok (fun ws' z' lv' h1 h2 h3 => k 38 ws' z' lv' (by decide) ⟨h1, fun h => absurd h hok, fun _ => ⟨h2, h3⟩⟩)
  · have hok' := hok
    obtain ⟨q1, q2, q3, q4⟩ := hok'
    obtain ⟨o1, o2⟩ := ra5_ok (ad := ad) (b := b) (z3 := z3) ha q1 q2 ⟨q3, q4⟩
    obtain ⟨K, hK⟩ := vi_rowsP (k := 50) hw rfl
    refine hsum (st := ra5_st 49 0 0 3 0 2 0 20) md_c1 rfl C ⟨o1, sb0, o2, trivial, hw, k0, fun _ _ _ _ h => h, fun h => by cases h⟩ (fun x hx r' lv' sk' ws1 hx' hb hl hs hlo hsk hw1 hv hf1 _ => ?_)
    rw [List.mem_singleton.mp hx] at hlo hsk ⊢
    have e1 := ra5_un ha hx' hlo
    subst e1
    obtain ⟨x1, s1, rfl, d1, g4⟩ := hsk.cons
    obtain ⟨x2, s2, rfl, d2, g5⟩ := g4.cons
    obtain ⟨x3, s3, rfl, d3, g6⟩ := g5.cons
    cases g6.nil
    obtain ⟨zto, rfl, hzto⟩ := dvn d1 (hx'.at (k := 0) rfl)
    obtain ⟨zfr, rfl, hzfr⟩ := dvn d2 (hx'.at (k := 0) rfl)
    have e3 := ref_of ha d3
    subst e3
    refine hcallV (q := (174, 0, 134, 2, 6)) (M' := tb_m134) (cl := 49) (a := a) (As := [.int zfr, .int zto]) (rest := []) (rets := [30]) (P := cs_P ad tys 0 81 ws1) C (by decide) (tv_m166.1.1.1 (43, .invokevirtual 174, 3) (List.mem_of_getElem? (i := 23) rfl)) (tv_m166.2 _ (List.mem_of_getElem? (i := 21) rfl)) rfl rfl rfl rfl (by decide) (Nat.le_of_ble_eq_true rfl) rfl rfl rfl rfl hw1 ha (by decide) ?_ ?_ ?_
    · intro pcr hp
      rw [List.mem_singleton.mp hp]
      exact tv_m134.1.1.1 (30, .return_, 1) (List.mem_of_getElem? (i := 19) rfl)
    · intro p2 e2 R2 s2 m2 args2 below2 meth2 c2 Q2 C2 kk
      exact cs_all cs_r1 (by decide +kernel) (by decide) (mm_cx (by decide) C2) hw1 ha (by omega) (by omega) (fun pcr w lv2 hp hP => kk pcr w lv2 hp hP)
    · intro ws2 hcs
      refine hsum (st := ra5_st 49 46 0 3 0 2 0 20) md_c2 rfl C ⟨o1, sb0, o2, trivial, hcs.1, k0, fun _ _ _ _ h => h, fun h => by cases h⟩ (fun x hx r' lv' sk' ws3 hx' hb hl hs hlo hsk hw3 hv hf3 _ => ?_)
      rw [List.mem_singleton.mp hx] at hlo hsk ⊢
      obtain ⟨y5, y6, y7, e1, t5, t6, t7⟩ := ra8_un ha hx' hlo
      subst e1
      cases hsk.nil
      obtain ⟨kk, hkk⟩ : ∃ kk : Nat, z1.toInt = (kk : Int) := ⟨z1.toInt.toNat, by omega⟩
      have hk4 : kk < 4 := by omega
      have hkt : z1.toInt.toNat = kk := by omega
      have f03 : ai_fr [(50, 81, 108)] ws ws3 := ((wsub_ok (V := []) rfl hf1).tr hcs.2.1).tr (wsub_ok (V := []) rfl hf3)
      obtain ⟨u1, u2, u3, u4⟩ := (hsh.fr f03 (by decide)) kk hk4
      have hn3 : vi ws3 49 1 n := hn.fr f03 rfl
      have hc3 : pev ws3 0 n E := hc.fr hn4 f03 (fun j hj => wr_no fun q hq => by
        rw [List.mem_singleton.mp hq]
        dsimp only
        omega)
      have hA : ∀ j, j < 27 → vi ws3 50 (81 + j) (K j) := fun j hj => (hcs.2.2 j _ hj (by rw [Nat.zero_add]; exact (hK j (by omega)).1.fr hf1 rfl)).fr hf3 rfl
      refine md_loop (ws0 := ws3) (N := z4.toInt.toNat) (Ar := K) (res := rd n (Lk kk) z2.toInt z3.toInt (Nk kk) (Xk kk) z4.toInt.toNat 0 E) C ha rfl hk4 hn4 (by omega) q2 u3.2 u3.1 hkk rfl rfl (by omega) (fun ws' z' lv' i' hres hw' hfr hA' hz => ?_) (fun ws' E' i' y w5 w6 hres hw' hfr hc' hg' hi' hy v5 v6 => ?_) z4.toInt.toNat 0 E y5 y6 y7 ws3 (by omega) t5 t6 t7 rfl hw3 (fun _ _ _ _ h => h) hn3 u1 u2 u4 hA hc3 hg
      · refine k 163 ws' z' lv' (by decide) ⟨hw', fun _ => ?_, fun h => absurd hok h⟩
        rw [hkt, hres]
        refine ⟨(wsub_ok (V := [(50, 81, 108)]) (by decide) f03).tr (wsub_ok (V := [(50, 0, 27)]) (by decide) hfr), fun j z hj hz2 => ?_, hz⟩
        rw [hz2.fun (hK j (by omega)).1]
        exact hA' j hj
      · refine hsum (st := (173, ra5_l3 49, [], ra5_e3, [], [])) md_c3 rfl C (r := [0, 0, y, (i' : Int)]) ⟨en_mk (by simp only [ra5_e3, en_b, and_true]; omega) rfl, sb0, ⟨rfl, Or.inl ⟨rfl, a, ha, rfl⟩, rfl, int_dv (z := y) rfl (by omega), rfl, int_dv (z := (i' : Int)) rfl (by omega), trivial⟩, trivial, hw', k0, fun _ _ _ _ h => h, fun h => by cases h⟩ (fun x hx r3 lv5 sk3 ws7 hx3 hb3 hl3 hs3 hlo3 hsk3 hw7 hv3 hf7 _ => ?_)
        have hx4 := List.mem_singleton.mp hx
        subst hx4
        obtain ⟨zz, rfl, hzz⟩ := sk1 rfl hsk3
        unfold vn at hzz
        rw [nm_x hx3 (k := 3) rfl] at hzz
        dsimp only at hzz
        obtain ⟨w10, -⟩ := hv3
        have w10' : vi ws7 49 24 y := w10.eq (by rw [nm_x hx3 (k := 2) rfl]; show y + 0 = y; omega)
        refine k 181 ws7 zz lv5 (by decide) ⟨hw7, fun _ => ?_, fun h => absurd hok h⟩
        rw [hkt, hres]
        exact ⟨((wsub_ok (V := [(50, 81, 108)]) (by decide) f03).tr (wsub_ok (V := md_W) (by decide) hfr)).tr (wsub_ok (by decide) hf7), hc'.fr hn4 hf7 (fun _ _ => rfl), w10', by omega⟩
end RDB
end
section
/-! what a constructor lays -/
def ct_rm (d k n : Nat) : Room := { frames := d, cells := k, slots := n, locals := 36 * d }
abbrev ct_AO : Cond := .arrayOver (.array .int)
theorem ct_ao {u U : State} (hvm : u.vm.Alike U.vm) (h : va_Nw ct_AO u) : va_Nw ct_AO U := by
  have a : ct_AO.before #[] (u.setVm U.vm) = true := by rw [Cond.arrayOver_setVmC hvm]; exact h
  exact a
theorem ct_aou {U : State} {args : Array Value} (h : va_Nw ct_AO U) : ct_AO.before args U = true := h
theorem ct_aof {U : State} {args : Array Value} (h : ct_AO.before args U = true) : va_Nw ct_AO U := h
theorem ct_get {α : Type} {L M : List α} {k : Nat} {x : α} (h : L[k]? = some x) : (L ++ M)[k]? = some x := by
  rw [List.getElem?_append_left (List.getElem?_eq_some_iff.mp h).1]
  exact h
theorem ct_getR {α : Type} {L M : List α} {k : Nat} {x : α} (h : M[k]? = some x) : (L ++ M)[k + L.length]? = some x := by
  rw [List.getElem?_append_right (Nat.le_add_left _ _), Nat.add_sub_cancel]
  exact h
def ct_sf (k o : Nat) (f : ai_f) : ai_f := (f.1, (if k = 4 ∨ f.1 = 0 then f.2.1 + o else f.2.1), f.2.2)
def ct_sc (o : Nat) (t : ai_c) : ai_c := (t.1, t.2.1, t.2.2.map (ct_sf t.1 o))
theorem ct_sc_0 (t : ai_c) : ct_sc 0 t = t := by
  have e : ct_sf t.1 0 = id := by
    funext f
    unfold ct_sf
    simp
  unfold ct_sc
  rw [e, List.map_id]
theorem ct_fd {ad pre x : List Nat} {k : Nat} {f : ai_f} {v : Value} (hk : k ≠ 4) (h : ai_fd ad f v) : ai_fd (pre ++ ad ++ x) (ct_sf k pre.length f) v := by
  rcases h with ⟨h, q, hq, rfl⟩ | ⟨h, i, rfl, h1, h2⟩ | ⟨h, i, rfl⟩
  · refine Or.inl ⟨h, q, ?_, rfl⟩
    show (pre ++ ad ++ x)[(if k = 4 ∨ f.1 = 0 then f.2.1 + pre.length else f.2.1)]? = some q
    rw [if_pos (Or.inr h)]
    exact ct_get (ct_getR hq)
  · exact Or.inr (Or.inl ⟨h, i, rfl, h1, h2⟩)
  · exact Or.inr (Or.inr ⟨h, i, rfl⟩)
theorem ct_mp {k o : Nat} {l : List ai_f} {i : Nat} {q : ai_f} (h : (l.map (ct_sf k o))[i]? = some q) : ∃ q0, l[i]? = some q0 ∧ ct_sf k o q0 = q := by
  rw [List.getElem?_map] at h
  exact Option.map_eq_some_iff.mp h
theorem ct_ce {ad pre x : List Nat} {tys pty y : ai_ty} {t : ai_c} {e : va_E} (h : ai_ce ad tys t e) : ai_ce (pre ++ ad ++ x) (pty ++ tys ++ y) (ct_sc pre.length t) e := by
  have hT : ∀ {cA : ClassId} {ty : FieldType}, ai_hasT tys cA ty → ai_hasT (pty ++ tys ++ y) cA ty := fun ⟨k, hk⟩ => ⟨k + pty.length, ct_get (ct_getR hk)⟩
  rcases h with ⟨h, fs, rfl, h1, h2⟩ | ⟨h, cA, f, rfl, h1, h2⟩ | ⟨h, cA, f, rfl, h1⟩ | ⟨h, cA, f, rfl, h1, h2⟩
  · refine Or.inl ⟨h, fs, rfl, by show fs.length = (t.2.2.map _).length; rw [List.length_map]; exact h1, fun i f' hf => ?_⟩
    obtain ⟨f, hf2, rfl⟩ := ct_mp hf
    obtain ⟨v, h3, h4⟩ := h2 i f hf2
    exact ⟨v, h3, ct_fd (by omega) h4⟩
  · refine Or.inr (Or.inl ⟨h, cA, f, rfl, hT h1, fun i q hi hq => ?_⟩)
    have hq : (t.2.2.map (ct_sf t.1 pre.length))[i % (t.2.2.map (ct_sf t.1 pre.length)).length]? = some q := hq
    rw [List.length_map] at hq
    obtain ⟨q0, hq0, rfl⟩ := ct_mp hq
    exact h2 i q0 hi hq0
  · exact Or.inr (Or.inr (Or.inl ⟨h, cA, f, rfl, hT h1⟩))
  · refine Or.inr (Or.inr (Or.inr ⟨h, cA, f, rfl, hT h1, fun i q hq => ?_⟩))
    obtain ⟨q0, hq0, rfl⟩ := ct_mp hq
    obtain ⟨a, h3, h4⟩ := h2 i q0 hq0
    refine ⟨a, ?_, h4⟩
    show (pre ++ ad ++ x)[(if t.1 = 4 ∨ q0.1 = 0 then q0.2.1 + pre.length else q0.2.1)]? = some a
    rw [if_pos (Or.inl h)]
    exact ct_get (ct_getR h3)
def ct_w (h0 : Nat) (T : List ai_c) (tys : ai_ty) (W : va_W) : Prop := W.length = T.length ∧ ∀ (k : Nat) (t : ai_c) (q : Nat × va_E), T[k]? = some t → W[k]? = some q → ai_ce (h0 :: W.map Prod.fst) tys t q.2
theorem ct_w.app {h0 : Nat} {T T1 : List ai_c} {tys y : ai_ty} {W w1 : va_W} (h : ct_w h0 T tys W) (hl : w1.length = T1.length) (h1 : ∀ (k : Nat) (t : ai_c) (q : Nat × va_E), T1[k]? = some t → w1[k]? = some q → ai_ce (h0 :: (W ++ w1).map Prod.fst) (tys ++ y) t q.2) : ct_w h0 (T ++ T1) (tys ++ y) (W ++ w1) := by
  refine ⟨by rw [List.length_append, List.length_append, h.1, hl], fun k t q ht hq => ?_⟩
  by_cases hk : k < T.length
  · rw [List.getElem?_append_left hk] at ht
    rw [List.getElem?_append_left (by rw [h.1]; exact hk)] at hq
    have a := ct_ce (pre := []) (pty := []) (x := w1.map Prod.fst) (y := y) (h.2 k t q ht hq)
    rw [List.length_nil, ct_sc_0] at a
    rw [List.map_append]
    exact a
  · rw [List.getElem?_append_right (Nat.le_of_not_lt hk)] at ht
    rw [List.getElem?_append_right (by rw [h.1]; exact Nat.le_of_not_lt hk), h.1] at hq
    exact h1 _ _ _ ht hq
/-- a child's cells behind the others -/
theorem ct_w.child {h0 : Nat} {T T1 : List ai_c} {tys tys1 : ai_ty} {W w1 : va_W} (h : ct_w h0 T tys W) (h1 : ai_wd T1 (w1.map Prod.fst) tys1 w1) : ct_w h0 (T ++ T1.map (ct_sc (T.length + 1))) (tys ++ tys1) (W ++ w1) := by
  refine h.app (by rw [List.length_map]; exact h1.1) (fun k t q ht hq => ?_)
  rw [List.getElem?_map] at ht
  obtain ⟨t0, ht2, rfl⟩ := Option.map_eq_some_iff.mp ht
  have a := ct_ce (pre := h0 :: W.map Prod.fst) (pty := tys) (x := []) (y := []) (h1.2.2.2 k t0 q ht2 hq)
  rw [List.append_nil, List.append_nil, List.length_cons, List.length_map, h.1] at a
  rw [List.map_append]
  exact a
theorem ct_w.one {h0 : Nat} {T : List ai_c} {tys y : ai_ty} {W : va_W} {x : Nat × va_E} {t : ai_c} (h : ct_w h0 T tys W) (h1 : ai_ce (h0 :: (W ++ [x]).map Prod.fst) (tys ++ y) t x.2) : ct_w h0 (T ++ [t]) (tys ++ y) (W ++ [x]) := by
  refine h.app rfl (fun k t' q ht hq => ?_)
  cases k with
  | zero => cases ht; cases hq; exact h1
  | succ k => cases ht
def ct_at (ad : List Nat) (L : List (Nat × Nat)) : Prop := ∀ p ∈ L, ad[p.1]? = some p.2
theorem ct_at.grow {h0 : Nat} {W w1 : va_W} {L : List (Nat × Nat)} {n q : Nat} {e : va_E} (h : ct_at (h0 :: W.map Prod.fst) L) (hn : W.length = n) (hq : w1[0]? = some (q, e)) : ct_at (h0 :: (W ++ w1).map Prod.fst) (L ++ [(n + 1, q)]) := by
  intro p hp
  rw [List.map_append]
  rcases List.mem_append.mp hp with hp | hp
  · exact ct_get (L := h0 :: W.map Prod.fst) (h p hp)
  · rcases List.mem_singleton.mp hp with rfl
    subst hn
    have a : (w1.map Prod.fst)[0]? = some q := by rw [List.getElem?_map, hq]; rfl
    have b := ct_getR (L := h0 :: W.map Prod.fst) a
    rw [Nat.zero_add, List.length_cons, List.length_map] at b
    exact b
/-- the fields of the new object -/
def ct_f1 (L : List (Nat × Nat)) (f : ai_f) (v : Value) : Prop := (f.1 = 0 ∧ ∃ q, (f.2.1, q) ∈ L ∧ v = .ref q) ∨ (f.1 = 1 ∧ ∃ i : Int32, v = .int i ∧ f.2.2.1 ≤ i.toInt ∧ i.toInt ≤ f.2.2.2) ∨ (f.1 = 2 ∧ ∃ i : Int64, v = .long i)
def ct_fok (L : List (Nat × Nat)) : List ai_f → List Value → Prop
  | [], [] => True
  | f :: F, v :: fs => ct_f1 L f v ∧ ct_fok L F fs
  | _, _ => False
theorem ct_fok.use {ad : List Nat} {L : List (Nat × Nat)} (ha : ct_at ad L) : ∀ {F : List ai_f} {fs : List Value}, ct_fok L F fs → fs.length = F.length ∧ ∀ (i : Nat) (f : ai_f), F[i]? = some f → ∃ x, fs[i]? = some x ∧ ai_fd ad f x
  | [], [], _ => ⟨rfl, fun i f h => by cases h⟩
  | [], _ :: _, h => h.elim
  | _ :: _, [], h => h.elim
  | f :: F, v :: fs, ⟨h, t⟩ => by
    obtain ⟨a, b⟩ := ct_fok.use ha t
    refine ⟨by rw [List.length_cons, List.length_cons, a], fun i g hg => ?_⟩
    cases i with
    | zero =>
      cases hg
      refine ⟨v, rfl, ?_⟩
      rcases h with ⟨h, q, h1, h2⟩ | ⟨h, i, h1, h2⟩ | ⟨h, i, h1⟩
      · exact Or.inl ⟨h, q, ha _ h1, h2⟩
      · exact Or.inr (Or.inl ⟨h, i, h1, h2⟩)
      · exact Or.inr (Or.inr ⟨h, i, h1⟩)
    | succ i => exact b i g hg
theorem ct_w.done {h0 ci : Nat} {fs : List Value} {F : List ai_f} {T : List ai_c} {tys : ai_ty} {W : va_W} {L : List (Nat × Nat)} (h : ct_w h0 T tys W) (ha : ct_at (h0 :: W.map Prod.fst) L) (hf : ct_fok L F fs) : ai_wd ((0, ci, F) :: T) (((h0, .inr (ci, fs)) :: W).map Prod.fst) tys ((h0, .inr (ci, fs)) :: W) := by
  obtain ⟨a, b⟩ := ct_fok.use ha hf
  refine ⟨by rw [List.length_cons, List.length_cons, h.1], by rw [List.length_map, List.length_cons, List.length_cons, h.1], fun k q hq => by rw [List.getElem?_map, hq]; rfl, fun k t q ht hq => ?_⟩
  cases k with
  | zero => cases ht; cases hq; exact Or.inl ⟨rfl, fs, rfl, a, b⟩
  | succ k => exact h.2 k t q ht hq
def ct_I (D : va_G) (A : Nat → Prop) (s : State) (h0 ci : Nat) (fs : List Value) (T : List ai_c) (L : List (Nat × Nat)) (H : Heap) (locs : List Loc) : Prop := ∃ (W : va_W) (tys : ai_ty), va_P D vwCl ((h0, .inr (ci, fs)) :: W) H ∧ va_D A ((h0, .inr (ci, fs)) :: W) ∧ va_S A s.heap H locs ∧ va_K D vwCl tys s ∧ ct_w h0 T tys W ∧ ct_at (h0 :: W.map Prod.fst) L
/-- .. with its last cell, an array of ints, open -/
def ct_J (D : va_G) (A : Nat → Prop) (s : State) (h0 ci : Nat) (fs : List Value) (T : List ai_c) (L : List (Nat × Nat)) (q n : Nat) (f : Nat → Int32) (H : Heap) (locs : List Loc) : Prop := ∃ (W : va_W) (tys : ai_ty) (cA : ClassId), va_P D vwCl ((h0, .inr (ci, fs)) :: (W ++ [(q, .inl (cA, n, .inl f))])) H ∧ va_D A ((h0, .inr (ci, fs)) :: (W ++ [(q, .inl (cA, n, .inl f))])) ∧ va_S A s.heap H locs ∧ va_K D vwCl (tys ++ [(cA, .int)]) s ∧ ct_w h0 T tys W ∧ ct_at (h0 :: W.map Prod.fst) L
def ct_C (M : ai_m) (d : Nat) (p : Program) (R : Room) (s : State) (m : MethodId) (args : Array Value) (meth : Method) (c : Code) (A : Nat → Prop) : Prop := p.tables.exec = Jvm.exec ∧ c.code = M.2.1 ∧ c.maxLocals = M.2.2.1 ∧ s.vm.findClass M.1.cls = some m.cls ∧ (∀ w ∈ ai_GT, w.before args s = true) ∧ (∀ q, s.heap.size ≤ q → A q) ∧ (d ≤ R.frames ∧ 36 * d ≤ R.locals) ∧ meth.name = "<init>" ∧ va_Nw ct_AO s
section CTS
variable {M : ai_m} {d : Nat} {p : Program} {l : Launch} {e : Env} {R : Room} {s : State} {m : MethodId} {args : Array Value} {below : List Frame} {meth : Method} {c : Code} {D : va_G} {A : Nat → Prop} {H : Heap} {locs : List Loc} {cells slots : Nat} {Q : State → Prop} {pc : Nat} {ls : Array Slot} {rest : List Value} {h0 ci : Nat} {fs : List Value} {T : List ai_c} {L : List (Nat × Nat)}
theorem ct_obj (C : ct_C M d p R s m args meth c A) (h1 : 1 ≤ d) {idx a : Nat} (w1 : Cond.methodLink M.1.cls idx objectInit ∈ ai_GT) (w2 : Cond.instanceMethod objectInit ∈ ai_GT) (w3 : Cond.code objectInit ⟨#[0xb1]⟩ 1 none ∈ ai_GT) (hl : ls.size = M.2.2.1) (hd : decode M.2.1 pc = .ok (.invokespecial idx, 3)) (k : W p l e R s m args below meth c H locs cells slots Q (F0 m (pc + 3) ls [])) : W p l e R s m args below meth c H locs cells slots Q (F0 m pc ls [.ref a]) := by
  have a1 := C.2.2.2.2.2.2.1.1
  have a2 := C.2.2.2.2.2.2.1.2
  refine W.objInit C.1 C.2.1 C.2.2.2.1 (C.2.2.2.2.1 _ w1) (C.2.2.2.2.1 _ w2) (C.2.2.2.2.1 _ w3) rfl (by rw [C.2.2.1]; exact hl) rfl hd (by omega) ?_ k
  show 2 * (F0 m pc ls [.ref a]).monitorRoom + 0 + 12 ≤ _
  have h : (F0 m pc ls [.ref a]).monitorRoom = 0 := rfl
  omega
theorem ct_arr (C : ct_C M d p R s m args meth c A) (I : ct_I D A s h0 ci fs T L H locs) {at_ : ArrayType} {ty : FieldType} {n : Int32} {N : Nat} {a0 : vp_A} {t : ai_c} (hw : Cond.arrayClass (newarray.typeOf at_) ∈ ai_GT) (hty : newarray.typeOf at_ = ty) (ha : ∀ cA : ClassId, vp_cell cA a0 = arrV cA N (fun _ => defaultValue ty)) (hn : ¬ n < 0) (hN : n.toNatClampNeg = N) (hb : N * componentBytes ty ≤ 536870912) (hc : cells + 1 ≤ R.cells) (hs : slots + N ≤ R.slots) (ht : ∀ (ad : List Nat) (cA : ClassId) (tys : ai_ty), ai_hasT tys cA ty → ai_ce ad tys t (.inl (cA, a0))) (hd : decode M.2.1 pc = .ok (.newarray at_, 2))
    (k : ∀ (q : Nat) (H1 : Heap), ct_I D A s h0 ci fs (T ++ [t]) (L ++ [(T.length + 1, q)]) H1 locs → W p l e R s m args below meth c H1 locs (cells + 1) (slots + N) Q (F0 m (pc + 2) ls (.ref q :: rest))) : W p l e R s m args below meth c H locs cells slots Q (F0 m pc ls (.int n :: rest)) := by
  obtain ⟨W0, tys, hP, hD, hS, hK, hw0, hL⟩ := I
  refine va_newa C.1 C.2.1 (C.2.2.2.2.1 _ hw) hty hK hP hD hS C.2.2.2.2.2.1 ha hn hN hb hc hs hd (fun q cA H1 hK1 hP1 hD1 hS1 => k q H1 ⟨W0 ++ [(q, (.inl (cA, a0) : va_E))], tys ++ [(cA, ty)], hP1, hD1, hS1, hK1, hw0.one (ht _ _ _ ⟨tys.length, by simp⟩), hL.grow hw0.1 rfl⟩)
theorem ct_arrJ (C : ct_C M d p R s m args meth c A) (I : ct_I D A s h0 ci fs T L H locs) {n : Int32} {N : Nat} (hw : Cond.arrayClass .int ∈ ai_GT) (hn : ¬ n < 0) (hN : n.toNatClampNeg = N) (hb : N * 4 ≤ 536870912) (hc : cells + 1 ≤ R.cells) (hs : slots + N ≤ R.slots) (hd : decode M.2.1 pc = .ok (.newarray .int, 2))
    (k : ∀ (q : Nat) (H1 : Heap), ct_J D A s h0 ci fs T L q N (fun _ => 0) H1 locs → W p l e R s m args below meth c H1 locs (cells + 1) (slots + N) Q (F0 m (pc + 2) ls (.ref q :: rest))) : W p l e R s m args below meth c H locs cells slots Q (F0 m pc ls (.int n :: rest)) := by
  obtain ⟨W0, tys, hP, hD, hS, hK, hw0, hL⟩ := I
  refine va_newa (atype := .int) (a0 := (N, .inl (fun _ => 0))) C.1 C.2.1 (C.2.2.2.2.1 _ hw) (ty := .int) rfl hK hP hD hS C.2.2.2.2.2.1 (fun _ => rfl) hn hN hb hc hs hd (fun q cA H1 hK1 hP1 hD1 hS1 => k q H1 ⟨W0, tys, cA, hP1, hD1, hS1, hK1, hw0, hL⟩)
theorem ct_sto (C : ct_C M d p R s m args meth c A) {q n : Nat} {f : Nat → Int32} (I : ct_J D A s h0 ci fs T L q n f H locs) {i x : Int32} (hin : vp_in i n) (hd : decode M.2.1 pc = .ok (.iastore, 1))
    (k : ∀ (H1 : Heap) (locs1 : List Loc), ct_J D A s h0 ci fs T L q n (upd f i.toNatClampNeg x) H1 locs1 → W p l e R s m args below meth c H1 locs1 cells slots Q (F0 m (pc + 1) ls rest)) : W p l e R s m args below meth c H locs cells slots Q (F0 m pc ls (.int x :: .int i :: .ref q :: rest)) := by
  obtain ⟨W0, tys, cA, hP, hD, hS, hK, hw0, hL⟩ := I
  have e : ∀ y : Nat × va_E, ((h0, (.inr (ci, fs) : va_E)) :: (W0 ++ [(q, .inl (cA, n, .inl f))])).set (W0.length + 1) y = (h0, .inr (ci, fs)) :: (W0 ++ [y]) := fun y => by simp
  refine va_iast (cA := cA) (n := n) (f := f) C.1 C.2.1 hK hP hD hS (W0.length + 1) tys.length (by simp) (by simp) hin hd (fun H1 locs1 hP1 hD1 hS1 => k H1 locs1 ⟨W0, tys, cA, ?_, ?_, hS1, hK, hw0, hL⟩)
  · rw [e] at hP1
    exact hP1
  · rw [e] at hD1
    exact hD1
theorem ct_J.close {q n : Nat} {f : Nat → Int32} {pat : List ai_f} (I : ct_J D A s h0 ci fs T L q n f H locs) (hf : ∀ (i : Nat) (g : ai_f), i < n → ai_pt pat i = some g → g.2.2.1 ≤ (f i).toInt ∧ (f i).toInt ≤ g.2.2.2) : ct_I D A s h0 ci fs (T ++ [(1, n, pat)]) (L ++ [(T.length + 1, q)]) H locs := by
  obtain ⟨W0, tys, cA, hP, hD, hS, hK, hw0, hL⟩ := I
  exact ⟨_, _, hP, hD, hS, hK, hw0.one (Or.inr (Or.inl ⟨Or.inl rfl, cA, f, rfl, ⟨tys.length, by simp; rfl⟩, hf⟩)), hL.grow hw0.1 rfl⟩
theorem ct_putF (C : ct_C M d p R s m args meth c A) (I : ct_I D A s h0 ci fs T L H locs) {r : vw_C} (hr : vwCl[ci]? = some r) {idx j : Nat} (hj : j < r.2.2) (hw : Cond.fieldLink M.1.cls idx (r.2.1 j).1 (r.2.1 j).2.1 (r.2.1 j).2.2.1 ∈ ai_GT) (hfin : (r.2.1 j).2.2.2 = true) (hdecl : (r.2.1 j).1 = M.1.cls) {ty : FieldType} {v : Value} (hp : parseFieldDescriptor (r.2.1 j).2.2.1 = some ty) (hn : narrow ty v = v) (hfit : fits ty v = true) (hl : j < fs.length) (hd : decode M.2.1 pc = .ok (.putfield idx, 3))
    (k : ∀ (H1 : Heap) (locs1 : List Loc), ct_I D A s h0 ci (fs.set j v) T L H1 locs1 → W p l e R s m args below meth c H1 locs1 cells slots Q (F0 m (pc + 3) ls rest)) : W p l e R s m args below meth c H locs cells slots Q (F0 m pc ls (v :: .ref h0 :: rest)) := by
  obtain ⟨W0, tys, hP, hD, hS, hK, hw0, hL⟩ := I
  obtain ⟨ty0, t1, t2⟩ := tv_ty hr
  exact va_putF (C := r.1) (T := r.2.1) (N := r.2.2) C.1 C.2.1 C.2.2.2.2.1 (tv_uws_ok hr) ty0 t1 t2 C.2.2.2.1 hK hP hD hS 0 rfl hr j hj (C.2.2.2.2.1 _ hw) (fun _ h => h) hfin C.2.2.2.2.2.2.2.1 hdecl hp hn hfit hl hd (fun H1 locs1 hP1 hD1 hS1 => k H1 locs1 ⟨W0, tys, hP1, hD1, hS1, hK, hw0, hL⟩)
theorem ct_putN (C : ct_C M d p R s m args meth c A) (I : ct_I D A s h0 ci fs T L H locs) {r : vw_C} (hr : vwCl[ci]? = some r) {idx j : Nat} (hj : j < r.2.2) (hw : Cond.fieldLink M.1.cls idx (r.2.1 j).1 (r.2.1 j).2.1 (r.2.1 j).2.2.1 ∈ ai_GT) (hfin : (r.2.1 j).2.2.2 = false) {ty : FieldType} {v : Value} (hp : parseFieldDescriptor (r.2.1 j).2.2.1 = some ty) (hn : narrow ty v = v) (hfit : fits ty v = true) (hl : j < fs.length) (hd : decode M.2.1 pc = .ok (.putfield idx, 3))
    (k : ∀ (H1 : Heap) (locs1 : List Loc), ct_I D A s h0 ci (fs.set j v) T L H1 locs1 → W p l e R s m args below meth c H1 locs1 cells slots Q (F0 m (pc + 3) ls rest)) : W p l e R s m args below meth c H locs cells slots Q (F0 m pc ls (v :: .ref h0 :: rest)) := by
  obtain ⟨W0, tys, hP, hD, hS, hK, hw0, hL⟩ := I
  obtain ⟨ty0, t1, t2⟩ := tv_ty hr
  exact va_put (C := r.1) (T := r.2.1) (N := r.2.2) C.1 C.2.1 C.2.2.2.2.1 (tv_uws_ok hr) ty0 t1 t2 C.2.2.2.1 hK hP hD hS 0 rfl hr j hj (C.2.2.2.2.1 _ hw) (fun _ h => h) hfin hp hn hfit hl hd (fun H1 locs1 hP1 hD1 hS1 => k H1 locs1 ⟨W0, tys, hP1, hD1, hS1, hK, hw0, hL⟩)
end CTS
theorem ct_nd : ∀ {l : List Nat}, l.Nodup → va_nd l = true
  | [], _ => rfl
  | a :: l, h => by
    have h1 := List.nodup_cons.mp h
    show (decide (a ∉ l) && va_nd l) = true
    rw [ct_nd h1.2, Bool.and_true]
    exact decide_eq_true h1.1
theorem ct_rng {α : Type} (X Y : List α) : (List.range X.length).map (fun i => (X ++ Y)[i]?) = X.map some := by
  apply List.ext_getElem
  · simp
  · intro i h1 h2
    have h3 : i < X.length := by simpa using h2
    rw [List.getElem_map, List.getElem_map, List.getElem_range, List.getElem?_append_left h3, List.getElem?_eq_getElem h3]
theorem ct_join {A0 : Nat → Prop} {D : va_G} {cl : List vw_C} {X w1 : va_W} {x : Nat × va_E} {H H1 : Heap} (hP : va_P D cl (X ++ [x]) H) (hD : va_D A0 (X ++ [x])) (hk : ∀ q : Nat, q < H.size → ¬ va_A [x] H.size q → H1[q]? = H[q]?) (hF : ∀ q, va_A [x] H.size q → A0 q) (hP1 : va_P D cl w1 H1) (hD1 : va_D (va_A [x] H.size) w1) : va_P D cl (X ++ w1) H1 ∧ va_D A0 (X ++ w1) :=
  va_join (wc := [x]) (wr := X) hP hD [X.length] (List.range X.length) (by simp) (ct_rng X [x]) (ct_nd List.nodup_range) (fun i hi h => by
    rw [List.mem_singleton] at h
    rw [List.mem_range] at hi
    omega) hk hF hP1 hD1
def ct_pre (D : va_G) (ci : Nat) (dfl : List Value) (q sz : Nat) : State → Prop := fun U => U.heap.size = sz ∧ va_P D vwCl [(q, .inr (ci, dfl))] U.heap ∧ va_K D vwCl [] U ∧ va_D (fun _ => True) [(q, .inr (ci, dfl))] ∧ va_Nw ct_AO U
def ct_B (D : va_G) (T1 : List ai_c) (A : Nat → Prop) (q : Nat) (u : va_W × ai_ty) (U : State) : Prop := ai_wd T1 (u.1.map Prod.fst) u.2 u.1 ∧ (∃ e, u.1[0]? = some (q, e)) ∧ va_P D vwCl u.1 U.heap ∧ va_K D vwCl u.2 U ∧ va_D A u.1
def ct_Met (l : Launch) (M : ai_m) (d mc ms ci : Nat) (dfl : List Value) (T1 : List ai_c) : Prop := ∀ (D : va_G) (q sz : Nat), Met l M.1 (ai_ws M) (ct_rm d mc ms) (va_Pc [.ref q] (ct_pre D ci dfl q sz)) (va_Qv (fun _ : va_W × ai_ty => True) (ct_B D T1 (va_A [(q, .inr (ci, dfl))] sz) q) (va_A [(q, .inr (ci, dfl))] sz)) mc ms (va_A [(q, .inr (ci, dfl))] sz)
theorem ct_met {M : ai_m} {d mc ms ci : Nat} {dfl : List Value} {T1 : List ai_c} (l : Launch) (hpl : plainName M.1.cls = true) (hin : M.1.name = "<init>") (hnl : 1 ≤ M.2.2.1) (hret : M.2.2.2.1 = none)
    (walk : ∀ {p : Program} {e : Env} {s : State} {m : MethodId} {args : Array Value} {below : List Frame} {meth : Method} {c : Code} {ls : Array Slot} {D : va_G} {q : Nat} {A : Nat → Prop}, ct_C M d p (ct_rm d mc ms) s m args meth c A → ct_I D A s q ci dfl [] [] s.heap [] → lv_has ls M.2.2.1 [(0, .ref q)] → meth.sig.returnType = none → meth.locks = false → W p l e (ct_rm d mc ms) s m args below meth c s.heap [] 0 0 (MQ below (va_Qv (fun _ : va_W × ai_ty => True) (ct_B D T1 A q) A) args s mc ms A) (F0 m 0 ls [])) : ct_Met l M d mc ms ci dfl T1 := by
  intro D q sz
  refine Met.ofW (cc := M.2.1) (maxL := M.2.2.1) (ret := M.2.2.2.1) hpl rfl ?_
  intro p e s m args below meth c s₁ B hml hv
  obtain ⟨rfl, hsz, hP, hK, hD0, hZ⟩ := hv
  have hts := atoms_spec (ws := ai_ws M) B.pre
  have hown := findClass_of_methodNamed B.named
  have hnm := (name_of_methodNamed B.named B.method).1
  subst hsz
  have hD := hD0.self (sz := s.heap.size)
  have hl := lv_entry ([.ref q]) (n := M.2.2.1) hnl
  rw [lg_entry_eq]
  exact walk ⟨B.exec, B.bytes, hml, hown, fun w h => hts w (List.mem_cons_of_mem _ h), fun q h => Or.inr h, ⟨Nat.le_refl _, Nat.le_refl _⟩, hnm.trans hin, hZ⟩ ⟨[], [], hP, hD, va_S.rf, hK, ⟨rfl, fun k t q h => by cases h⟩, fun p hp => by cases hp⟩ hl (B.returns.trans hret) B.notSynchronized
section CTT
variable {M : ai_m} {d : Nat} {p : Program} {l : Launch} {e : Env} {R : Room} {s : State} {m : MethodId} {args : Array Value} {below : List Frame} {meth : Method} {c : Code} {D : va_G} {A : Nat → Prop} {H : Heap} {locs : List Loc} {cells slots : Nat} {Q : State → Prop} {pc : Nat} {ls : Array Slot} {rest : List Value} {h0 ci : Nat} {fs : List Value} {T : List ai_c} {L : List (Nat × Nat)}
theorem ct_child (C : ct_C M d p R s m args meth c A) (I : ct_I D A s h0 ci fs T L H locs) (h1 : 1 ≤ d) {ci' mc ms i1 i2 : Nat} {r : vw_C} {dfl : List Value} {M' : ai_m} {T1 : List ai_c} (met : ct_Met l M' (d - 1) mc ms ci' dfl T1) (hr : vwCl[ci']? = some r) {ty : Nat → FieldType} (n1 : ∀ k, k < r.2.2 → parseFieldDescriptor (r.2.1 k).2.2.1 = some (ty k)) (n2 : ∀ j, j < r.2.2 → defaultValue (ty j) = vp_V dfl j)
    (w1 : Cond.classLink M.1.cls i1 r.1 ∈ ai_GT) (w2 : Cond.instantiable r.1 r.2.2 ∈ ai_GT) (w3 : Cond.initialized r.1 ∈ ai_GT) (w4 : Cond.methodLink M.1.cls i2 M'.1 ∈ ai_GT) (w5 : Cond.instanceMethod M'.1 ∈ ai_GT) (w6 : Cond.code M'.1 M'.2.1 M'.2.2.1 M'.2.2.2.1 ∈ ai_GT) (m1 : M'.2.2.2.1 = none) (m2 : M'.1.name = "<init>") (m3 : M'.1.cls = r.1) (m4 : M'.1.cls ≠ "java/lang/invoke/MethodHandle" ∧ M'.1.cls ≠ "java/lang/invoke/VarHandle" ∧ (parseMethodDescriptor M'.1.desc).map (fun d => d.parameters.length) = some 0) (m5 : M'.2.2.1 ≤ 17)
    (hc : cells + 1 + mc ≤ R.cells) (hs : slots + r.2.2 + ms ≤ R.slots) {N : Nat} (hN : r.2.2 = N) (hrest : ((Value.ref 0 :: rest).map fun v => v.category).sum ≤ 8) (hls : ls.size = M.2.2.1) (d1 : decode M.2.1 pc = .ok (.new i1, 3)) (d2 : decode M.2.1 (pc + 3) = .ok (.dup, 1)) (d3 : decode M.2.1 (pc + 3 + 1) = .ok (.invokespecial i2, 3))
    (k : ∀ (q : Nat) (H1 : Heap) (locs1 : List Loc), ct_I D A s h0 ci fs (T ++ T1.map (ct_sc (T.length + 1))) (L ++ [(T.length + 1, q)]) H1 locs1 → W p l e R s m args below meth c H1 locs1 (cells + 1 + mc) (slots + N + ms) Q (F0 m (pc + 3 + 1 + 3) ls (.ref q :: rest))) : W p l e R s m args below meth c H locs cells slots Q (F0 m pc ls rest) := by
  subst hN
  obtain ⟨W0, tys, hP, hD, hS, hK, hw0, hL⟩ := I
  refine va_new (C := r.1) (T := r.2.1) (N := r.2.2) (fs := dfl) C.1 C.2.1 C.2.2.2.2.1 (tv_uws_ok hr) ty n1 C.2.2.2.1 (C.2.2.2.2.1 _ w1) (C.2.2.2.2.1 _ w2) (C.2.2.2.2.1 _ w3) hK hP hD hS C.2.2.2.2.2.1 hr n2 (by omega) (by omega) d1 (fun q H1 hP1 hD1 hS1 => ?_)
  refine lv_dup C.1 C.2.1 d2 rfl ?_
  generalize hX : (h0, (.inr (ci, fs) : va_E)) :: W0 = X at hP1 hD1
  have hPc : va_P D vwCl [(q, .inr (ci', dfl))] H1 := fun j y hy => by
    cases j with
    | zero => cases hy; exact hP1 X.length _ (by simp)
    | succ j => cases hy
  have hDc := hD1.sub (ws' := [(q, .inr (ci', dfl))]) [X.length] rfl (by simp)
  have hFc := va_free (wc := [(q, .inr (ci', dfl))]) hD1 hS1 C.2.2.2.2.2.1 [X.length] (by simp)
  have hKc := hK.sub (tys' := []) [] rfl
  have a1 := C.2.2.2.2.2.2.1.1
  have a2 := C.2.2.2.2.2.2.1.2
  refine va_callv (va_runI (As := []) (rest := .ref q :: rest) ⟨C.1, C.2.1, C.2.2.1, C.2.2.2.1, C.2.2.2.2.1⟩ (met D q H1.size) (cwI 0 C.2.2.2.2.1 (ai_goodIn w6) (by show Cond.code _ _ _ _ :: _ = _; rw [m1]) rfl rfl (by rw [m3]; exact C.2.2.2.2.1 _ w3) (C.2.2.2.2.1 _ w4) (C.2.2.2.2.1 _ w5) m2 m4 ⟨by show d - 1 + 1 ≤ _; omega, by show 8 + (_ + 11) + 36 * (d - 1) ≤ _; omega⟩) ⟨fun a U g mk qq => by
      obtain ⟨q0, q1, qP, qK, qD, qZ⟩ := qq
      exact ⟨q0, q1, qP, va_K.moved (u := U) (U := U.calling g mk a) (Vm.Alike.refl U.vm) qK, qD, ct_ao (u := U) (U := U.calling g mk a) (Vm.Alike.refl U.vm) qZ⟩, fun U hU hW => ⟨rfl, by rw [hU], by rw [hU]; exact hPc, va_K.moved hW.alike hKc, hDc.weaken (fun _ _ _ _ => trivial), ct_ao hW.alike C.2.2.2.2.2.2.2.2⟩⟩ rfl rfl hls rfl (lv_room hrest) d3 ⟨hc, hs⟩) hS1 (fun q _ h => hFc q h) hFc (fun u t H2 locs2 ht hvm _ hB hz hk hS2 => ?_)
  obtain ⟨b1, ⟨e0, b2⟩, b3, b4, b5⟩ := hB
  rw [ht] at b3
  have b4 := va_K.moved hvm.symm b4
  obtain ⟨jP, jD⟩ := ct_join hP1 hD1 hk hFc b3 b5
  subst hX
  exact k q H2 locs2 ⟨W0 ++ u.1, tys ++ u.2, jP, jD, hS2, hK.app b4, hw0.child b1, hL.grow hw0.1 b2⟩
theorem ct_ret (C : ct_C M d p R s m args meth c A) (I : ct_I D A s h0 ci fs T L H locs) {F : List ai_f} (hf : ct_fok L F fs) (hr : meth.sig.returnType = none) (hlk : meth.locks = false) {mc ms : Nat} (h1 : cells ≤ mc) (h2 : slots ≤ ms) {T1 : List ai_c} (hT : T1 = (0, ci, F) :: T) (hd : decode M.2.1 pc = .ok (.return_, 1)) : W p l e R s m args below meth c H locs cells slots (MQ below (va_Qv (fun _ : va_W × ai_ty => True) (ct_B D T1 A h0) A) args s mc ms A) (F0 m pc ls []) := by
  subst hT
  obtain ⟨W0, tys, hP, hD, hS, hK, hw0, hL⟩ := I
  refine W.widen h1 h2 ?_
  exact W.vret C.1 C.2.1 hr (fun t ht hW => ⟨⟨((h0, .inr (ci, fs)) :: W0, tys), rfl, trivial, hw0.done hL hf, ⟨_, rfl⟩, by rw [ht]; exact hP, va_K.moved hW.alike hK, hD⟩, hS.F ht⟩) hS.2.2 hd hlk
/-- an array of ints of any value is written -/
theorem ct_st (C : ct_C M d p R s m args meth c A) (I : ct_I D A s h0 ci fs T L H locs) {r q n : Nat} (hr : (r + 1, q) ∈ L) (hT : T[r]? = some (1, n, [(1, 0, -2147483648, 2147483647)])) {i x : Int32} (hin : vp_in i n) (hd : decode M.2.1 pc = .ok (.iastore, 1))
    (k : ∀ (H1 : Heap) (locs1 : List Loc), ct_I D A s h0 ci fs T L H1 locs1 → W p l e R s m args below meth c H1 locs1 cells slots Q (F0 m (pc + 1) ls rest)) : W p l e R s m args below meth c H locs cells slots Q (F0 m pc ls (.int x :: .int i :: .ref q :: rest)) := by
  obtain ⟨W0, tys, hP, hD, hS, hK, hw0, hL⟩ := I
  have ha : (W0.map Prod.fst)[r]? = some q := hL _ hr
  rw [List.getElem?_map] at ha
  obtain ⟨⟨q', e1⟩, hq, rfl⟩ := Option.map_eq_some_iff.mp ha
  have hce := hw0.2 r _ _ hT hq
  rcases hce with ⟨z, -⟩ | ⟨-, cA, f, rfl, ⟨t0, ht⟩, -⟩ | ⟨z, -⟩ | ⟨z, -⟩
  · exact absurd (id z : (1 : Nat) = _) (by decide)
  · refine va_iast C.1 C.2.1 hK hP hD hS (r + 1) t0 hq ht hin hd (fun H1 locs1 hP1 hD1 hS1 => ?_)
    have em : (W0.set r (q', .inl (cA, n, .inl (upd f i.toNatClampNeg x)))).map Prod.fst = W0.map Prod.fst := by
      apply List.ext_getElem?
      intro j
      rw [List.getElem?_map, List.getElem?_map, List.getElem?_set]
      split
      · rename_i hj
        subst hj
        split
        · rw [hq]; rfl
        · rename_i hj
          rw [List.getElem?_eq_none (Nat.le_of_not_lt hj)]
      · rfl
    refine k H1 locs1 ⟨W0.set r (q', .inl (cA, n, .inl (upd f i.toNatClampNeg x))), tys, hP1, hD1, hS1, hK, ⟨by rw [List.length_set]; exact hw0.1, fun j t y hj hy => ?_⟩, by rw [em]; exact hL⟩
    rw [em]
    by_cases hjr : r = j
    · subst hjr
      rw [List.getElem?_set_self (List.getElem?_eq_some_iff.mp hq).1] at hy
      cases hy
      rw [hT] at hj
      cases hj
      refine Or.inr (Or.inl ⟨Or.inl rfl, cA, _, rfl, ⟨t0, ht⟩, fun j g hj hg => ?_⟩)
      have hg : ([((1, 0, -2147483648, 2147483647) : ai_f)])[j % 1]? = some g := hg
      rw [Nat.mod_one] at hg
      cases hg
      exact ⟨Int32.le_toInt _, Int32.toInt_le _⟩
    · rw [List.getElem?_set_ne hjr] at hy
      exact hw0.2 j t y hj hy
  · exact absurd (id z : (1 : Nat) = _) (by decide)
  · exact absurd (id z : (1 : Nat) = _) (by decide)
end CTT
/-! new int[4][40] -/
def ct_ic (k : ClassId) : Cell := { cls := k, slots := Array.replicate 40 (.int 0), vm := .none }
def ct_oc (c : ClassId) (h : Nat) : Nat → Cell
  | 0 => { cls := c, slots := Array.replicate 4 .null, vm := .none }
  | i + 1 => (ct_oc c h i).setSlot i (.ref (h + 1 + i))
def ct_fl (s : State) (c k : ClassId) : Nat → State
  | 0 => s.pushCell (ct_oc c s.heap.size 0)
  | i + 1 => ((ct_fl s c k i).pushCell (ct_ic k)).setCell s.heap.size (ct_oc c s.heap.size (i + 1))
theorem ct_oc_f (c : ClassId) (h : Nat) (i : Nat) : (ct_oc c h i).cls = c ∧ (ct_oc c h i).vm = .none ∧ (ct_oc c h i).slots.size = 4 := by
  induction i with
  | zero => exact ⟨rfl, rfl, by simp [ct_oc]⟩
  | succ i ih => exact ⟨by simp [ct_oc, Cell.setSlot, ih.1], by simp [ct_oc, Cell.setSlot, ih.2.1], by simp [ct_oc, Cell.setSlot, ih.2.2]⟩
theorem ct_fl_f (s : State) (c k : ClassId) (i : Nat) : (ct_fl s c k i).heap.size = s.heap.size + 1 + i ∧ (ct_fl s c k i).heap[s.heap.size]? = some (ct_oc c s.heap.size i) ∧ (ct_fl s c k i).vm = s.vm ∧ (ct_fl s c k i).slotsUsed = s.slotsUsed + 4 + i * 40 := by
  induction i with
  | zero => exact ⟨by simp [ct_fl], by simp [ct_fl], rfl, by simp [ct_fl, ct_oc]⟩
  | succ i ih =>
    have hlt : s.heap.size < (ct_fl s c k i).heap.size := by omega
    have hb : ((ct_fl s c k i).pushCell (ct_ic k)).heap[s.heap.size]? = some (ct_oc c s.heap.size i) := by rw [State.heap_pushCell_of_lt (h := hlt)]; exact ih.2.1
    refine ⟨?_, State.heap_setCell_self hb, by simp [ct_fl, ih.2.2.1], ?_⟩
    · simp [ct_fl, State.setCell, ih.1]
      omega
    · simp [ct_fl, ih.2.2.2, ct_ic]
      omega
theorem ct_fl_old (s : State) (c k : ClassId) {a : Nat} (ha : a < s.heap.size) (i : Nat) : (ct_fl s c k i).heap[a]? = s.heap[a]? := by
  induction i with
  | zero => exact State.heap_pushCell_of_lt _ _ ha
  | succ i ih =>
    have f := (ct_fl_f s c k i).1
    have hlt : a < (ct_fl s c k i).heap.size := by omega
    show (((ct_fl s c k i).pushCell (ct_ic k)).setCell s.heap.size _).heap[a]? = _
    rw [State.heap_setCell_other (Nat.ne_of_gt ha), State.heap_pushCell_of_lt (h := hlt)]
    exact ih
theorem ct_fl_in (s : State) (c k : ClassId) (i j : Nat) (h : j < i) : (ct_fl s c k i).heap[s.heap.size + 1 + j]? = some (ct_ic k) := by
  induction i with
  | zero => omega
  | succ i ih =>
    have f := (ct_fl_f s c k i).1
    show (((ct_fl s c k i).pushCell (ct_ic k)).setCell s.heap.size _).heap[s.heap.size + 1 + j]? = _
    rw [State.heap_setCell_other (show s.heap.size ≠ s.heap.size + 1 + j by omega)]
    by_cases hj : j < i
    · have hlt : s.heap.size + 1 + j < (ct_fl s c k i).heap.size := by omega
      rw [State.heap_pushCell_of_lt (h := hlt)]
      exact ih hj
    · have e : j = i := by omega
      subst e
      rw [← f]
      exact State.heap_pushCell_size _ _
theorem ct_fl_top (s : State) (f : JFrame) (c k : ClassId) (i : Nat) : ct_fl (s.setTop f) c k i = (ct_fl s c k i).setTop f := by
  induction i with
  | zero => rfl
  | succ i ih => simp only [ct_fl, ih, State.heap_setTop, State.pushCell_setTop, State.setCell_setTop]
section CTM
variable {E : CtlPost} {e : Env} {d : Bool} {acts : List Action} {s : State}
theorem ct_wpA {c comp : ClassId} {k : Class} {ty : FieldType} {n : Nat} {v : Value} (hk : s.vm.classes[c]? = some k) (hkind : k.kind = .array comp ty) (hl : ¬ n > e.platform.arrayLengthLimit) (hh : ¬ n * componentBytes ty > e.platform.maxHeapBytes) (hf : fits ty v = true) (hv : v.isDefault = true) {Q : Addr → Pre} (h1 : s.heap.size < e.platform.maxCells) (h2 : s.slotsUsed + n ≤ e.platform.maxSlots)
    (hq : Q s.heap.size d acts (s.pushCell { cls := c, slots := Array.replicate n v, vm := .none })) : wp (Jvm.newArray c n v) Q E e d acts s := by
  have hfits : ∀ i x, (Array.replicate n v)[i]? = some x → s.fitsSlot c .none i x = true := by
    intro i x hx
    simp only [Array.getElem?_replicate] at hx
    split at hx
    · cases hx
      simp [State.fitsSlot, State.slotType?, hk, hkind, hf]
    · cases hx
  have hda : allocActs (Array.replicate n v) s.heap.size acts = acts := by
    have hall : ((Array.replicate n v).all (·.isDefault)) = true := by
      rw [Array.all_replicate]
      split <;> simp [hv]
    unfold allocActs
    rw [if_pos hall]
  simp only [Jvm.newArray, Jvm.arrayFits, wp_bind', W.ask, W.ite, hl, if_false, wp_pure', W.theClass, hk, hkind, hh, W.alloc, W.stop, Option.some.injEq, exists_eq_left', Array.size_replicate, hda]
  rw [if_neg (by omega)]
  exact ⟨h1, h2, hfits, hq⟩
theorem ct_wp1 {comp cc : ClassId} {kc : Class} (hkc : s.vm.classes[comp]? = some kc) (hkindc : kc.kind = .array cc .int) (hl : ¬ 40 > e.platform.arrayLengthLimit) (hh : ¬ 40 * componentBytes .int > e.platform.maxHeapBytes) (h1 : s.heap.size < e.platform.maxCells) (h2 : s.slotsUsed + 40 ≤ e.platform.maxSlots)
    {Q : Addr → Pre} (hq : Q s.heap.size d acts (s.pushCell (ct_ic comp))) : wp (multianewarray.make comp [40]) Q E e d acts s := by
  rw [multianewarray.make]
  simp only [wp_bind', W.ite, show ¬ (40 : Int32) < 0 by decide, if_false, wp_pure', W.theClass, hkc, hkindc, Option.some.injEq, exists_eq_left']
  exact ct_wpA (n := 40) (v := .int 0) hkc hkindc hl hh rfl rfl h1 h2 hq
theorem ct_wp2 {c comp cc : ClassId} {k kc : Class} (hk : s.vm.classes[c]? = some k) (hkind : k.kind = .array comp (.array .int)) (hkc : s.vm.classes[comp]? = some kc) (hkindc : kc.kind = .array cc .int) (hl1 : ¬ 4 > e.platform.arrayLengthLimit) (hh1 : ¬ 4 * componentBytes (.array .int) > e.platform.maxHeapBytes) (hl2 : ¬ 40 > e.platform.arrayLengthLimit) (hh2 : ¬ 40 * componentBytes .int > e.platform.maxHeapBytes) (hc : s.heap.size + 5 ≤ e.platform.maxCells) (hs : s.slotsUsed + 164 ≤ e.platform.maxSlots)
    {Q : Addr → Pre} (hq : ∀ d' acts', Q s.heap.size d' acts' (ct_fl s c comp 4)) : wp (multianewarray.make c [4, 40]) Q E e d acts s := by
  have hfind : (([40] : List Int32).find? (· < 0)) = none := by decide
  have e4 : (4 : Int32).toNatClampNeg = 4 := by decide
  rw [multianewarray.make]
  simp only [wp_bind', W.ite, show ¬ (4 : Int32) < 0 by decide, if_false, wp_pure', W.theClass, hk, hkind, Option.some.injEq, exists_eq_left', e4]
  refine ct_wpA (n := 4) (v := .null) hk hkind hl1 hh1 rfl rfl (by omega) (by omega) ?_
  simp only [hfind]
  rw [ite_self, wp_bind', Std.Legacy.Range.forIn_eq_forIn_range']
  have hsz : ([:4] : Std.Legacy.Range).size = 4 := rfl
  rw [hsz]
  show wp (forIn (List.range' 0 4 1) PUnit.unit _) _ E e d acts _
  refine wp_forIn_inv (fun rest s' => ∃ i, i ≤ 4 ∧ rest = List.range' i (4 - i) ∧ s' = ct_fl s c comp i) _ _ ⟨0, Nat.zero_le _, rfl, rfl⟩ ?_ ?_
  · rintro x rest s' d' acts' Q' ⟨i, hi, hl, rfl⟩ hnext
    have hlt : i < 4 := by
      rcases Nat.lt_or_ge i 4 with h | h
      · exact h
      · rw [show 4 - i = 0 by omega] at hl
        cases hl
    rw [show 4 - i = (4 - (i + 1)) + 1 by omega, List.range'_succ] at hl
    obtain ⟨rfl, hrest⟩ := List.cons.inj hl
    obtain ⟨f1, f2, f3, f4⟩ := ct_fl_f s c comp x
    obtain ⟨o1, o2, o3⟩ := ct_oc_f c s.heap.size x
    simp only [wp_bind']
    refine ct_wp1 (by rw [f3]; exact hkc) hkindc hl2 hh2 (by rw [f1]; omega) (by rw [f4]; omega) ?_
    have hlt0 : s.heap.size < (ct_fl s c comp x).heap.size := by rw [f1]; omega
    simp only [wp_bind', W.writeLoc, wp_pure']
    refine ⟨ct_oc c s.heap.size x, by rw [State.heap_pushCell_of_lt (h := hlt0)]; exact f2, by rw [o2]; simp, by rw [o3]; exact hlt, ?_, hnext _ _ _ ⟨x + 1, hlt, hrest, ?_⟩⟩
    · rw [o1, o2]
      simp [State.fitsSlot, State.slotType?, f3, hk, hkind, fits, FieldType.isReference]
    · rw [f1]
      rfl
  · rintro s' d' acts' ⟨i, hi, hl, rfl⟩
    have hiN : i = 4 := by
      rcases Nat.lt_or_ge i 4 with h | h
      · rw [show 4 - i = (4 - (i + 1)) + 1 by omega, List.range'_succ] at hl
        cases hl
      · omega
    subst hiN
    simp only [wp_pure']
    exact hq _ _
end CTM
section CTN
variable {p : Program} {l : Launch} {e : Env} {R : Room} {s : State} {m : MethodId} {args : Array Value} {below : List Frame} {meth : Method} {c : Code} {T : State} {locs : List Loc} {cells slots : Nat}
theorem ct_fls (X : Stand p l e R s m args below meth c T locs cells slots) (cA k : ClassId) (i : Nat) : Stand p l e R s m args below meth c (ct_fl T cA k i) (locs ++ (List.range i).map fun j => ⟨T.heap.size, j⟩) (cells + 1 + i) (slots + 4 + i * 40) := by
  induction i with
  | zero =>
    have h := X.pushed (ct_oc cA T.heap.size 0)
    rw [(ct_oc_f cA T.heap.size 0).2.2] at h
    simpa [ct_fl] using h
  | succ i ih =>
    obtain ⟨f1, f2, f3, f4⟩ := ct_fl_f T cA k i
    have hlt : T.heap.size < (ct_fl T cA k i).heap.size := by rw [f1]; omega
    have hcell : ((ct_fl T cA k i).pushCell (ct_ic k)).heap[T.heap.size]? = some (ct_oc cA T.heap.size i) := by rw [State.heap_pushCell_of_lt (h := hlt)]; exact f2
    have h := (ih.pushed (ct_ic k)).stored hcell i (.ref (T.heap.size + 1 + i))
    have e1 : (ct_ic k).slots.size = 40 := by simp [ct_ic]
    rw [e1] at h
    have e2 : (locs ++ (List.range (i + 1)).map fun j => (⟨T.heap.size, j⟩ : Loc)) = (locs ++ (List.range i).map fun j => (⟨T.heap.size, j⟩ : Loc)) ++ [⟨T.heap.size, i⟩] := by simp [List.range_succ, List.append_assoc]
    have e3 : slots + 4 + (i + 1) * 40 = slots + 4 + i * 40 + 40 := by omega
    rw [e2, e3]
    exact h
theorem ct_ste (X : Stand p l e R s m args below meth c T locs cells slots) (hexec : p.tables.exec = Jvm.exec) {own : String} {index : Nat} {cA comp : ClassId} {kA : Class} (hown : s.vm.findClass own = some m.cls) (hclink : (Cond.classLink own index "[[I").before args s = true) (hcomp : s.vm.findClass "[I" = some comp) (hkA : s.vm.classes[cA]? = some kA) (hkindA : kA.kind = .array comp (.array .int)) (hnameA : s.vm.findClass "[[I" = some cA) (harr : (Cond.arrayClass .int).before args s = true)
    {g : JFrame} (hg : g.method = m) (hdg : decode c.code g.pc = .ok (.multianewarray index 2, 4)) {rest : List Value} (hstack : g.stack = .int 40 :: .int 4 :: rest) (hcells : cells + 5 ≤ R.cells) (hslots : slots + 164 ≤ R.slots) :
    ∃ vm₁ : Vm, Stand p l e R s m args below meth c (ct_fl (T.setVm vm₁) cA comp 4) locs (cells + 5) (slots + 164) ∧
      ∀ target, Steps p.tables e below ((ct_fl (T.setVm vm₁) cA comp 4).setTop { g with pc := g.pc + 4, stack := .ref T.heap.size :: rest }) target → Steps p.tables e below (T.setTop g) target := by
  subst hg
  have hpl : e.platform.magicAccessors = ({} : Platform).magicAccessors := by rw [X.admits.platform]
  obtain ⟨comp', kC, cc, hcomp', hkC, hkindC⟩ := Cond.arrayClass_spec harr
  have ecomp : comp' = comp := Option.some.inj (hcomp'.symm.trans hcomp)
  subst ecomp
  obtain ⟨c0, hfc0, hcl⟩ := Cond.classLink_spec hown hclink e.platform hpl
  cases hnameA.symm.trans hfc0
  obtain ⟨hg₁, hwarm₁, hready₁⟩ := State.classEntry (e := e) X.warmed hcl
  generalize T.vm.noted g.method.cls index (.cls cA) = vm₁ at hg₁ hwarm₁ hready₁
  obtain ⟨kA₁, hkA₁, heA⟩ := hwarm₁.alike.2.2 _ _ hkA
  obtain ⟨kC₁, hkC₁, heC⟩ := hwarm₁.alike.2.2 _ _ hkC
  have hkindA₁ : kA₁.kind = .array comp' (.array .int) := by rw [heA]; exact hkindA
  have hkindC₁ : kC₁.kind = .array cc .int := by rw [heC]; exact hkindC
  have X₁ := X.noted hwarm₁
  obtain ⟨hr1, hr2⟩ := X.roomAbove hcells hslots
  have XF := ct_fls X₁ cA comp' 4
  refine ⟨vm₁, XF.dropFresh (fun x hx => ?_), fun target hrest => ?_⟩
  · obtain ⟨j, -, rfl⟩ := List.mem_map.mp hx
    exact X.heapGrown
  · have hl1 : ¬ 4 > e.platform.arrayLengthLimit := by rw [Launch.admits_arrayLengthLimit X.admits]; omega
    have hh1 : ¬ 4 * componentBytes (.array .int) > e.platform.maxHeapBytes := by rw [Launch.admits_maxHeapBytes X.admits]; decide
    have hl2 : ¬ 40 > e.platform.arrayLengthLimit := by rw [Launch.admits_arrayLengthLimit X.admits]; omega
    have hh2 : ¬ 40 * componentBytes .int > e.platform.maxHeapBytes := by rw [Launch.admits_maxHeapBytes X.admits]; decide
    jvm_step X.here [hexec, hdg]
    simp only [multianewarray.sem, wp_bind', W.resolveClassAt_links (State.method?_setTop g X.here.top) hg₁]
    rw [W.popN, if_neg (by decide)]
    refine ⟨g, State.topJava?_setTop' (s := T.setVm vm₁) g X.here.top, [.int 4, .int 40], rest, rfl, hstack, ?_⟩
    simp only [List.mapM_cons, List.mapM_nil, wp_bind', wp_pure']
    refine ct_wp2 (k := kA₁) (kc := kC₁) (comp := comp') (cc := cc) hkA₁ hkindA₁ hkC₁ hkindC₁ hl1 hh1 hl2 hh2 (by show T.heap.size + 5 ≤ _; omega) (by show T.slotsUsed + _ ≤ _; omega) (fun d' acts' => ?_)
    have eS : ((T.setTop g).setVm vm₁).setTop { g with stack := rest } = (T.setVm vm₁).setTop { g with stack := rest } := by
      show ((T.setVm vm₁).setTop g).setTop _ = _
      rw [State.setTop_setTop]
    rw [eS, ct_fl_top]
    simp only [wp_bind', W.mark, W.pushRef, State.topJava?_setTop' _ XF.here.top, Option.some.injEq, exists_eq_left', State.setTop_setTop, State.heap_setTop]
    intro acts
    simp [jvm, XF.here.top]
    exact hrest
end CTN
theorem ct_oc_v (c : ClassId) (h : Nat) : ∀ i : Nat, ct_oc c h i = arrV c 4 (fun j => va_rf (if j < i then some (h + 1 + j) else none))
  | 0 => by
    show ({ cls := c, slots := Array.replicate 4 .null, vm := .none } : Cell) = _
    rw [arrV_new]
    refine congrArg (arrV c 4) (funext fun j => ?_)
    simp [va_rf]
  | i + 1 => by
    show (ct_oc c h i).setSlot i (.ref (h + 1 + i)) = _
    rw [ct_oc_v c h i, arrV_store]
    refine congrArg (arrV c 4) (funext fun j => ?_)
    by_cases e : j = i
    · subst e
      simp [updV, va_rf]
    · by_cases h : j < i
      · simp [updV, e, h, Nat.lt_succ_of_lt h]
      · simp [updV, e, h, show ¬ j < i + 1 by omega]
theorem ct_ic_v (c : ClassId) : ct_ic c = vp_cell c (40, .inl (fun _ => 0)) := by
  show ({ cls := c, slots := Array.replicate 40 (.int 0), vm := .none } : Cell) = _
  rw [arrV_new]
  rfl
theorem ct_dapp {A : Nat → Prop} {X Y : va_W} {h : Nat} (hD : va_D A X) (hx : ∀ (k : Nat) (x : Nat × va_E), X[k]? = some x → x.1 < h) (hy : ∀ (k : Nat) (x : Nat × va_E), Y[k]? = some x → x.1 = h + k) (hA : ∀ q, h ≤ q → A q) : va_D A (X ++ Y) := by
  refine ⟨fun i j p q hi hj e => ?_, fun k q hq => ?_⟩
  · by_cases h1 : i < X.length
    · rw [List.getElem?_append_left h1] at hi
      by_cases h2 : j < X.length
      · rw [List.getElem?_append_left h2] at hj
        exact hD.1 i j p q hi hj e
      · rw [List.getElem?_append_right (Nat.le_of_not_lt h2)] at hj
        have a1 := hx _ _ hi
        have a2 := hy _ _ hj
        omega
    · rw [List.getElem?_append_right (Nat.le_of_not_lt h1)] at hi
      by_cases h2 : j < X.length
      · rw [List.getElem?_append_left h2] at hj
        have a1 := hx _ _ hj
        have a2 := hy _ _ hi
        omega
      · rw [List.getElem?_append_right (Nat.le_of_not_lt h2)] at hj
        have a1 := hy _ _ hi
        have a2 := hy _ _ hj
        omega
  · by_cases h1 : k < X.length
    · rw [List.getElem?_append_left h1] at hq
      exact hD.2 k q hq
    · rw [List.getElem?_append_right (Nat.le_of_not_lt h1)] at hq
      have a1 := hy _ _ hq
      exact hA _ (by omega)
theorem ct_aos {args : Array Value} {s : State} (h : ct_AO.before args s = true) : ∃ comp c k, s.vm.findClass "[I" = some comp ∧ s.vm.classes[c]? = some k ∧ k.kind = .array comp (.array .int) ∧ s.vm.findClass "[[I" = some c := by
  have h : (Cond.arrayOver (.array .int)).holds args s none s [] = true := h
  simp only [Cond.holds, Cond.value, beq_iff_eq] at h
  have e1 : (FieldType.array .int).toString = "[I" := rfl
  have e2 : "[" ++ "[I" = "[[I" := rfl
  cases hc : s.vm.findClass (FieldType.array .int).toString with
  | none => simp [hc] at h
  | some comp =>
    simp only [hc, Option.bind_some, Option.bind_eq_some_iff, Option.map_eq_some_iff] at h
    obtain ⟨c, hi, k, hk, hb⟩ := h
    obtain ⟨hlt, hp, -⟩ := Array.findIdx?_eq_some_iff_getElem.mp hi
    have hkk : s.vm.classes[c] = k := (Array.getElem?_eq_some_iff.mp hk).2
    rw [hkk] at hp
    cases hkind : k.kind with
    | array component ty =>
      rw [hkind] at hb hp
      simp at hb hp
      refine ⟨comp, c, k, hc, hk, by rw [hkind, hp, hb.1], ?_⟩
      exact hb.2
    | _ => rw [hkind] at hb; simp at hb
section CTO
variable {M : ai_m} {d : Nat} {p : Program} {l : Launch} {e : Env} {R : Room} {s : State} {m : MethodId} {args : Array Value} {below : List Frame} {meth : Method} {c : Code} {D : va_G} {A : Nat → Prop} {H : Heap} {locs : List Loc} {cells slots : Nat} {Q : State → Prop} {pc : Nat} {ls : Array Slot} {rest : List Value} {h0 ci : Nat} {fs : List Value} {T : List ai_c} {L : List (Nat × Nat)}
theorem ct_mna (C : ct_C M d p R s m args meth c A) (I : ct_I D A s h0 ci fs T L H locs) {k0 n0 : Nat} {pat : List ai_f} (hT : T[k0]? = some (1, n0, pat)) {idx : Nat} (w1 : Cond.classLink M.1.cls idx "[[I" ∈ ai_GT) (w2 : Cond.arrayClass .int ∈ ai_GT) (hc : cells + 5 ≤ R.cells) (hs : slots + 164 ≤ R.slots) (hd : decode M.2.1 pc = .ok (.multianewarray idx 2, 4))
    (k : ∀ (q : Nat) (H1 : Heap), ct_I D A s h0 ci fs (T ++ [(4, 4, [(0, 1 + (T.length + 1), 0, 0), (0, 2 + (T.length + 1), 0, 0), (0, 3 + (T.length + 1), 0, 0), (0, 4 + (T.length + 1), 0, 0)]), (1, 40, [(1, 0, -2147483648, 2147483647)]), (1, 40, [(1, 0, -2147483648, 2147483647)]), (1, 40, [(1, 0, -2147483648, 2147483647)]), (1, 40, [(1, 0, -2147483648, 2147483647)])]) (L ++ [(T.length + 1, q)]) H1 locs → W p l e R s m args below meth c H1 locs (cells + 5) (slots + 164) Q (F0 m (pc + 4) ls (.ref q :: rest))) : W p l e R s m args below meth c H locs cells slots Q (F0 m pc ls (.int 40 :: .int 4 :: rest)) := by
  obtain ⟨W0, tys, hP, hD, hS, hK, hw0, hL⟩ := I
  obtain ⟨y, hy⟩ : ∃ y, W0[k0]? = some y := ⟨_, List.getElem?_eq_getElem (by rw [hw0.1]; exact (List.getElem?_eq_some_iff.mp hT).1)⟩
  have hce := hw0.2 k0 _ _ hT hy
  rcases hce with ⟨z, -⟩ | ⟨-, cy, f0, -, ⟨t0, ht⟩, -⟩ | ⟨z, -⟩ | ⟨z, -⟩
  · exact absurd (id z : (1 : Nat) = _) (by decide)
  · have hcy : s.vm.findClass "[I" = some cy := (hK.2 t0 _ ht).2
    obtain ⟨comp, cA, kA, a1, a2, a3, a4⟩ := ct_aos (args := args) (ct_aou C.2.2.2.2.2.2.2.2)
    cases hcy.symm.trans a1
    intro TT hTT Xs
    obtain ⟨vm₁, XF, step⟩ := ct_ste Xs C.1 C.2.2.2.1 (C.2.2.2.2.1 _ w1) hcy a2 a3 a4 (C.2.2.2.2.1 _ w2) (g := F0 m pc ls (.int 40 :: .int 4 :: rest)) rfl (by rw [C.2.1]; exact hd) rfl hc hs
    have hTh : (TT.setVm vm₁).heap = H := hTT
    obtain ⟨f1, f2, -, -⟩ := ct_fl_f (TT.setVm vm₁) cA cy 4
    have hold : ∀ x : Nat, x < H.size → (ct_fl (TT.setVm vm₁) cA cy 4).heap[x]? = H[x]? := fun x hx => by
      rw [ct_fl_old (TT.setVm vm₁) cA cy (by rw [hTh]; exact hx) 4, hTh]
    have hrow : ∀ j : Nat, j < 4 → (ct_fl (TT.setVm vm₁) cA cy 4).heap[H.size + 1 + j]? = some (vp_cell cy (40, .inl (fun _ => 0))) := fun j hj => by
      have a := ct_fl_in (TT.setVm vm₁) cA cy 4 j hj
      rw [hTh, ct_ic_v] at a
      exact a
    rw [hTh, ct_oc_v] at f2
    rw [hTh] at f1
    generalize hF : ct_fl (TT.setVm vm₁) cA cy 4 = F at *
    generalize hg : (fun j : Nat => if j < 4 then some (H.size + 1 + j) else none) = g
    have f2 : F.heap[H.size]? = some (vp_cell cA (4, .inr (.inr (.inr (.inr g))))) := by
      rw [f2, vp_cell_q, ← hg]
    have hle : s.heap.size ≤ H.size := hS.1
    have hx : ∀ (k : Nat) (x : Nat × va_E), ((h0, (.inr (ci, fs) : va_E)) :: W0)[k]? = some x → x.1 < H.size := fun k x hk => (hP k x hk).lt
    have hY : ∀ (j : Nat) (x : Nat × va_E), [(H.size, (.inl (cA, (4, .inr (.inr (.inr (.inr g))))) : va_E)), (H.size + 1, .inl (cy, (40, .inl (fun _ => 0)))), (H.size + 2, .inl (cy, (40, .inl (fun _ => 0)))), (H.size + 3, .inl (cy, (40, .inl (fun _ => 0)))), (H.size + 4, .inl (cy, (40, .inl (fun _ => 0))))][j]? = some x → x.1 = H.size + j ∧ va_at D vwCl x F.heap := fun j x hj => by
      match j, hj with
      | 0, hj => cases hj; exact ⟨rfl, f2⟩
      | 1, hj => cases hj; exact ⟨rfl, hrow 0 (by decide)⟩
      | 2, hj => cases hj; exact ⟨rfl, hrow 1 (by decide)⟩
      | 3, hj => cases hj; exact ⟨rfl, hrow 2 (by decide)⟩
      | 4, hj => cases hj; exact ⟨rfl, hrow 3 (by decide)⟩
      | j + 5, hj => cases hj
    generalize hYe : [(H.size, (.inl (cA, (4, .inr (.inr (.inr (.inr g))))) : va_E)), (H.size + 1, .inl (cy, (40, .inl (fun _ => 0)))), (H.size + 2, .inl (cy, (40, .inl (fun _ => 0)))), (H.size + 3, .inl (cy, (40, .inl (fun _ => 0)))), (H.size + 4, .inl (cy, (40, .inl (fun _ => 0))))] = Y at hY
    have hP1 : va_P D vwCl (((h0, .inr (ci, fs)) :: W0) ++ Y) F.heap := (hP.kept (fun k9 x hx' => hold x.1 (hx k9 x hx'))).app (fun j x hj => (hY j x hj).2)
    have hD1 : va_D A (((h0, .inr (ci, fs)) :: W0) ++ Y) := ct_dapp hD hx (fun j x hj => (hY j x hj).1) (fun q hq => C.2.2.2.2.2.1 q (by omega))
    have hS1 : va_S A s.heap F.heap locs := ⟨by rw [f1]; omega, fun q h1 h2 => (hold q (by omega)).trans (hS.2.1 q h1 h2), hS.2.2⟩
    have hK1 : va_K D vwCl (tys ++ [(cA, .array .int)]) s := hK.app ⟨hK.1, fun j q hj => by
      match j, hj with
      | 0, hj => cases hj; exact ⟨fun n z => ⟨fun k h => (by cases h), kA, a2, cy, a3⟩, a4⟩
      | j + 1, hj => cases hj⟩
    have hM : ∀ (j x : Nat), (Y.map Prod.fst)[j]? = some x → (h0 :: (W0 ++ Y).map Prod.fst)[j + (T.length + 1)]? = some x := fun j x hj => by
      rw [List.map_append]
      have a := ct_getR (L := h0 :: W0.map Prod.fst) hj
      rw [List.length_cons, List.length_map, hw0.1] at a
      exact a
    have hce : ∀ ad : List Nat, ai_ce ad (tys ++ [(cA, .array .int)]) (1, 40, [(1, 0, -2147483648, 2147483647)]) (.inl (cy, (40, .inl (fun _ => 0)))) := fun ad => by
      refine Or.inr (Or.inl ⟨Or.inl rfl, cy, _, rfl, ⟨t0, ct_get ht⟩, fun j g hj hg => ?_⟩)
      have hg : ([((1, 0, -2147483648, 2147483647) : ai_f)])[j % 1]? = some g := hg
      rw [Nat.mod_one] at hg
      cases hg
      exact ⟨by decide, by decide⟩
    subst hYe
    have hI : ct_w h0 (T ++ [(4, 4, [(0, 1 + (T.length + 1), 0, 0), (0, 2 + (T.length + 1), 0, 0), (0, 3 + (T.length + 1), 0, 0), (0, 4 + (T.length + 1), 0, 0)]), (1, 40, [(1, 0, -2147483648, 2147483647)]), (1, 40, [(1, 0, -2147483648, 2147483647)]), (1, 40, [(1, 0, -2147483648, 2147483647)]), (1, 40, [(1, 0, -2147483648, 2147483647)])]) (tys ++ [(cA, .array .int)]) (W0 ++ [(H.size, (.inl (cA, (4, .inr (.inr (.inr (.inr g))))) : va_E)), (H.size + 1, .inl (cy, (40, .inl (fun _ => 0)))), (H.size + 2, .inl (cy, (40, .inl (fun _ => 0)))), (H.size + 3, .inl (cy, (40, .inl (fun _ => 0)))), (H.size + 4, .inl (cy, (40, .inl (fun _ => 0))))]) := by
      refine hw0.app rfl (fun j t y ht hy => ?_)
      match j, ht, hy with
      | 0, ht, hy =>
        cases ht
        cases hy
        refine Or.inr (Or.inr (Or.inr ⟨rfl, cA, g, rfl, ⟨tys.length, by simp⟩, fun i x hx => ?_⟩))
        subst hg
        match i, hx with
        | 0, hx => cases hx; exact ⟨H.size + 1, hM 1 _ rfl, rfl⟩
        | 1, hx => cases hx; exact ⟨H.size + 2, hM 2 _ rfl, rfl⟩
        | 2, hx => cases hx; exact ⟨H.size + 3, hM 3 _ rfl, rfl⟩
        | 3, hx => cases hx; exact ⟨H.size + 4, hM 4 _ rfl, rfl⟩
        | i + 4, hx => cases hx
      | 1, ht, hy => cases ht; cases hy; exact hce _
      | 2, ht, hy => cases ht; cases hy; exact hce _
      | 3, ht, hy => cases ht; cases hy; exact hce _
      | 4, ht, hy => cases ht; cases hy; exact hce _
      | j + 5, ht, hy => cases ht
    obtain ⟨t, b1, b2⟩ := k H.size F.heap ⟨_, _, hP1, hD1, hS1, hK1, hI, hL.grow hw0.1 rfl⟩ F rfl XF
    refine ⟨t, step _ ?_, b2⟩
    rw [hTT]
    exact b1
  · exact absurd (id z : (1 : Nat) = _) (by decide)
  · exact absurd (id z : (1 : Nat) = _) (by decide)
end CTO
theorem ct_z1 {n : Nat} {pat : List ai_f} (hp : ∀ g ∈ pat, g.2.2.1 ≤ 0 ∧ 0 ≤ g.2.2.2) (ad : List Nat) (cA : ClassId) (tys : ai_ty) (h : ai_hasT tys cA .int) : ai_ce ad tys (1, n, pat) (.inl (cA, (n, .inl (fun _ => 0)))) :=
  Or.inr (Or.inl ⟨Or.inl rfl, cA, _, rfl, h, fun i g _ hg => hp g (List.mem_of_getElem? hg)⟩)
theorem ct_z2 {n : Nat} {pat : List ai_f} (hp : ∀ g ∈ pat, g.2.2.1 ≤ 0 ∧ 0 ≤ g.2.2.2) (ad : List Nat) (cA : ClassId) (tys : ai_ty) (h : ai_hasT tys cA .boolean) : ai_ce ad tys (2, n, pat) (.inl (cA, (n, .inl (fun _ => 0)))) :=
  Or.inr (Or.inl ⟨Or.inr rfl, cA, _, rfl, h, fun i g _ hg => hp g (List.mem_of_getElem? hg)⟩)
theorem ct_z3 {n : Nat} {pat : List ai_f} (ad : List Nat) (cA : ClassId) (tys : ai_ty) (h : ai_hasT tys cA .long) : ai_ce ad tys (3, n, pat) (.inl (cA, (n, .inr (.inl (fun _ => 0))))) :=
  Or.inr (Or.inr (Or.inl ⟨rfl, cA, _, rfl, h⟩))
theorem ct_any {n : Nat} {f : Nat → Int32} (i : Nat) (g : ai_f) (_ : i < n) (hg : ai_pt [(1, 0, -2147483648, 2147483647)] i = some g) : g.2.2.1 ≤ (f i).toInt ∧ (f i).toInt ≤ g.2.2.2 := by
  have hg : ([((1, 0, -2147483648, 2147483647) : ai_f)])[i % 1]? = some g := hg
  rw [Nat.mod_one] at hg
  cases hg
  exact ⟨Int32.le_toInt _, Int32.toInt_le _⟩
section CTG
variable {M : ai_m} {d : Nat} {p : Program} {l : Launch} {e : Env} {R : Room} {s : State} {m : MethodId} {args : Array Value} {below : List Frame} {meth : Method} {c : Code} {D : va_G} {A : Nat → Prop} {H : Heap} {locs : List Loc} {cells slots : Nat} {Q : State → Prop} {pc : Nat} {ls : Array Slot} {rest : List Value} {h0 ci : Nat} {fs : List Value} {T : List ai_c} {L : List (Nat × Nat)}
theorem ct_gf (C : ct_C M d p R s m args meth c A) (I : ct_I D A s h0 ci fs T L H locs) {r : vw_C} (hr : vwCl[ci]? = some r) {idx j : Nat} (hj : j < r.2.2) (hw : Cond.fieldLink M.1.cls idx (r.2.1 j).1 (r.2.1 j).2.1 (r.2.1 j).2.2.1 ∈ ai_GT) {v : Value} (hv : fs[j]? = some v) (hd : decode M.2.1 pc = .ok (.getfield idx, 3)) (k : W p l e R s m args below meth c H locs cells slots Q (F0 m (pc + 3) ls (v :: rest))) : W p l e R s m args below meth c H locs cells slots Q (F0 m pc ls (.ref h0 :: rest)) := by
  obtain ⟨W0, tys, hP, hD, hS, hK, hw0, hL⟩ := I
  exact va_get (C := r.1) (T := r.2.1) (N := r.2.2) C.1 C.2.1 C.2.2.2.2.1 (tv_uws_ok hr) C.2.2.2.1 hK hP 0 rfl hr j hj (C.2.2.2.2.1 _ hw) (fun _ h => h) hv hd k
end CTG
/-! a store into a row whose every place has bounds of its own -/
section CTX
variable {M : ai_m} {d : Nat} {p : Program} {l : Launch} {e : Env} {R : Room} {s : State} {m : MethodId} {args : Array Value} {below : List Frame} {meth : Method} {c : Code} {D : va_G} {A : Nat → Prop} {H : Heap} {locs : List Loc} {cells slots : Nat} {Q : State → Prop} {pc : Nat} {ls : Array Slot} {rest : List Value} {h0 ci : Nat} {fs : List Value} {T : List ai_c} {L : List (Nat × Nat)}
theorem ct_stx (C : ct_C M d p R s m args meth c A) (I : ct_I D A s h0 ci fs T L H locs) {r q n j0 : Nat} {v0 : Int} {pat : List ai_f} (hr : (r + 1, q) ∈ L) (hT : T[r]? = some (1, n, pat)) (hpl : pat.length = n) {i x : Int32} (hj0 : i.toNatClampNeg = j0) (hv0 : x.toInt = v0) (hin : vp_in i n) (hd : decode M.2.1 pc = .ok (.iastore, 1))
    (k : ∀ (H1 : Heap) (locs1 : List Loc), ct_I D A s h0 ci fs (T.set r (1, n, pat.set j0 (1, 0, v0, v0))) L H1 locs1 → W p l e R s m args below meth c H1 locs1 cells slots Q (F0 m (pc + 1) ls rest)) : W p l e R s m args below meth c H locs cells slots Q (F0 m pc ls (.int x :: .int i :: .ref q :: rest)) := by
  obtain ⟨W0, tys, hP, hD, hS, hK, hw0, hL⟩ := I
  have ha : (W0.map Prod.fst)[r]? = some q := hL _ hr
  rw [List.getElem?_map] at ha
  obtain ⟨⟨q', e1⟩, hq, rfl⟩ := Option.map_eq_some_iff.mp ha
  have hce := hw0.2 r _ _ hT hq
  rcases hce with ⟨z, -⟩ | ⟨-, cA, f, rfl, ⟨t0, ht⟩, hf⟩ | ⟨z, -⟩ | ⟨z, -⟩
  · exact absurd (id z : (1 : Nat) = _) (by decide)
  · refine va_iast C.1 C.2.1 hK hP hD hS (r + 1) t0 hq ht hin hd (fun H1 locs1 hP1 hD1 hS1 => ?_)
    have em : (W0.set r (q', .inl (cA, n, .inl (upd f i.toNatClampNeg x)))).map Prod.fst = W0.map Prod.fst := by
      apply List.ext_getElem?
      intro j
      rw [List.getElem?_map, List.getElem?_map, List.getElem?_set]
      split
      · rename_i hj
        subst hj
        split
        · rw [hq]; rfl
        · rename_i hj
          rw [List.getElem?_eq_none (Nat.le_of_not_lt hj)]
      · rfl
    refine k H1 locs1 ⟨W0.set r (q', .inl (cA, n, .inl (upd f i.toNatClampNeg x))), tys, hP1, hD1, hS1, hK, ⟨by rw [List.length_set, List.length_set]; exact hw0.1, fun j t y hj hy => ?_⟩, by rw [em]; exact hL⟩
    rw [em]
    by_cases hjr : r = j
    · subst hjr
      rw [List.getElem?_set_self (List.getElem?_eq_some_iff.mp hq).1] at hy
      cases hy
      rw [List.getElem?_set_self (List.getElem?_eq_some_iff.mp hT).1] at hj
      cases hj
      refine Or.inr (Or.inl ⟨Or.inl rfl, cA, _, rfl, ⟨t0, ht⟩, fun j g hj hg => ?_⟩)
      have hj : j < n := hj
      have hg : (pat.set j0 (1, 0, v0, v0))[j % (pat.set j0 (1, 0, v0, v0)).length]? = some g := hg
      rw [List.length_set, hpl, Nat.mod_eq_of_lt hj] at hg
      by_cases hjj : j0 = j
      · subst hjj
        rw [List.getElem?_set_self (by rw [hpl]; exact hj)] at hg
        cases hg
        rw [← hj0, pk_us, hv0]
        exact ⟨Int.le_refl _, Int.le_refl _⟩
      · rw [List.getElem?_set_ne hjj] at hg
        rw [hj0, pk_un (fun h => hjj h.symm)]
        refine hf j g hj ?_
        show pat[j % pat.length]? = some g
        rw [hpl, Nat.mod_eq_of_lt hj]
        exact hg
    · rw [List.getElem?_set_ne hjr] at hy
      rw [List.getElem?_set_ne hjr] at hj
      exact hw0.2 j t y hj hy
  · exact absurd (id z : (1 : Nat) = _) (by decide)
  · exact absurd (id z : (1 : Nat) = _) (by decide)
end CTX
end
