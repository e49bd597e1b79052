/-! act, compared -/
def ac7_en (j : Nat) : List ai_e := lw_eb (j : Int) (j : Int) ++ [((j : Int) + 1, 8, false, 8, 0), (0, 4, false, 9, 0)]
def ac7_kn (j : Nat) : List ai_k := [(1, 3, (1, 8, 0, 0)), (50, 26, (1, 8, 0, 0)), (6, j, (1, 9, 0, 0)), (50, 18 + j, (1, 9, 0, 0))]
theorem ac7_r : ((List.range 8).all fun j => (ai_ex (hk []) 200 169 tb_m169 11 [1297] (324, lw_lo, [], ac7_en j, ac7_kn j, [])).any fun xs => xs.all lw_un) = true := by decide +kernel
theorem ac7_n : ((ai_ex (hk []) 200 169 tb_m169 11 [1297] (324, lw_lo, [], lw_eb (-2147483648) (-1), [], [])).any fun xs => xs.all lw_un) = true := by decide +kernel
theorem ac7_o : ((ai_ex (hk []) 200 169 tb_m169 11 [1297] (324, lw_lo, [], lw_eb 0 2147483647 ++ [(0, 8, false, 8, 0)], [(1, 3, (1, 8, 0, 0)), (50, 26, (1, 8, 0, 0))], [(5, 4, 8, 4, 0)])).any fun xs => xs.all lw_un) = true := by decide +kernel
section XAC
variable {ad : List Nat} {p : Program} {l : Launch} {e : Env} {R : Room} {s : State} {m : MethodId} {args : Array Value} {below : List Frame} {meth : Method} {c : Code} {D : va_G} {tys : ai_ty} {A : Nat → Prop} {b L : Nat} {sx : Nat → Int32} {cells slots : Nat} {Q : State → Prop}
theorem lw_act {i q0 q49 : Nat} {ws : va_W} (C : ai_cx tb_m169 11 p R s m args c D tys A b L sx cells slots) (e0 : ad[0]? = some q0) (e49 : ad[49]? = some q49) (hi : i + 5 ≤ L) (hL : L ≤ 2560) (hw : ai_wd tb_TY ad tys ws) (hI : Inv ws)
    (k : ∀ wc, ai_wd tb_TY ad tys wc → Inv wc → hG tb_m169 p l e R s m args below meth c D A cells slots Q 1297 [(0, .ref b), (1, .ref q0), (2, .ref q49), (3, .int (nI i))] [] wc) : hG tb_m169 p l e R s m args below meth c D A cells slots Q 324 [(0, .ref b), (1, .ref q0), (2, .ref q49), (3, .int (nI i))] [] ws := by
  have b0 := ai_irg (sx i)
  have b1 := ai_irg (sx (i + 1))
  have b2 := ai_irg (sx (i + 2))
  have b3 := ai_irg (sx (i + 3))
  have b4 := ai_irg (sx (i + 4))
  obtain ⟨t, g, u, q, y, n, j0, j1, E, a, P, hb, hp, hi0, hi1, hs⟩ := id hI
  have hn4 := hb.2.2.2.2.1.2.2
  obtain ⟨p3, p26, p8⟩ := hp.2.1
  by_cases h1 : (sx (i + 1)).toInt < 0
  · exact lw_no (rr := []) C e0 e49 hi hL hw hI ac7_n (en_mk (by simp only [lw_r, lw_eb, List.append_nil, en_b, and_true]; omega) rfl) sb0 k0 k
  by_cases h2 : (a : Int) ≤ (sx (i + 1)).toInt
  · refine lw_no (rr := [(a : Int)]) C e0 e49 hi hL hw hI ac7_o (en_mk (by simp only [lw_r, lw_eb, List.cons_append, List.nil_append, en_b, and_true]; omega) rfl) (fun q hq => ?_) (kc (p3.kn (n := 8) (t := (a : Int)) rfl (by omega)) (kc (p26.kn (n := 8) (t := (a : Int)) rfl (by omega)) k0)) k
    rw [List.mem_singleton.mp hq]
    refine ⟨(sx (i + 1)).toInt, (a : Int), (sx (i + 1)).toInt, rfl, rfl, rfl, fun h0 => ?_, fun h0 => ?_, fun h0 => ?_, fun h0 => ?_, fun h0 => ?_, fun h0 => ?_⟩
    all_goals dsimp only at h0 ⊢
    all_goals omega
  obtain ⟨j, hj⟩ : ∃ j : Nat, (sx (i + 1)).toInt = (j : Int) := ⟨(sx (i + 1)).toInt.toNat, by omega⟩
  obtain ⟨x1, x2, x3⟩ := hp.2.2 j (by omega)
  exact lw_no (rr := [(a : Int), P j]) C e0 e49 hi hL hw hI (List.all_eq_true.mp ac7_r j (List.mem_range.mpr (by omega))) (en_mk (by simp only [lw_r, ac7_en, lw_eb, List.cons_append, List.nil_append, en_b, and_true]; omega) rfl) sb0 (kc (p3.kn (n := 8) (t := (a : Int)) rfl (by omega)) (kc (p26.kn (n := 8) (t := (a : Int)) rfl (by omega)) (kc (x1.kn (n := 9) (t := P j) rfl (by omega)) (kc (x2.kn (n := 9) (t := P j) rfl (by omega)) k0)))) k
end XAC
