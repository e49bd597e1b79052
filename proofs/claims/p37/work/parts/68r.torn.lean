/-! torn, compared -/
section XTN
variable {ad : List Nat} {p : Program} {l : Launch} {e : Env} {R : Room} {s : State} {m : MethodId} {args : Array Value} {below : List Frame} {meth : Method} {c : Code} {D : va_G} {tys : ai_ty} {A : Nat → Prop} {b L : Nat} {sx : Nat → Int32} {cells slots : Nat} {Q : State → Prop}
theorem vi.irg {ws : va_W} {k i : Nat} {z : Int} (h : vi ws k i z) : -2147483648 ≤ z ∧ z ≤ 2147483647 := by
  obtain ⟨j, -, h2⟩ := h
  have := ai_irg j
  omega
theorem tn7_r : ((ai_ex (hk []) 100 169 tb_m169 11 [1297] (1261, lw_lo, [], lw_e9, [(0, 10, (1, 8, 0, 0)), (49, 24, (1, 8, 0, 0))], [])).any fun xs => xs.all lw_un) = true := by decide +kernel
theorem lw_torn {i q0 q49 : Nat} {ws : va_W} (C : ai_cx tb_m169 11 p R s m args c D tys A b L sx cells slots) (e0 : ad[0]? = some q0) (e49 : ad[49]? = some q49) (hi : i + 5 ≤ L) (hL : L ≤ 2560) (hw : ai_wd tb_TY ad tys ws) (hI : Inv ws)
    (k : ∀ wc, ai_wd tb_TY ad tys wc → Inv wc → hG tb_m169 p l e R s m args below meth c D A cells slots Q 1297 [(0, .ref b), (1, .ref q0), (2, .ref q49), (3, .int (nI i))] [] wc) : hG tb_m169 p l e R s m args below meth c D A cells slots Q 1261 [(0, .ref b), (1, .ref q0), (2, .ref q49), (3, .int (nI i))] [] ws := by
  have b0 := ai_irg (sx i)
  have b1 := ai_irg (sx (i + 1))
  have b2 := ai_irg (sx (i + 2))
  have b3 := ai_irg (sx (i + 3))
  have b4 := ai_irg (sx (i + 4))
  obtain ⟨t, g, u, q, y, n, j0, j1, E, a, P, hb, hp, hi0, hi1, hs⟩ := id hI
  obtain ⟨y1, y2⟩ := hb.2.2.2.1
  have by1 := y1.irg
  exact lw_no (rr := [y]) C e0 e49 hi hL hw hI tn7_r (en_mk (by simp only [lw_r, lw_e9, List.cons_append, List.nil_append, en_b, and_true]; omega) rfl) sb0 (kc (y1.kn (n := 8) (t := y) rfl (by omega)) (kc (y2.kn (n := 8) (t := y) rfl (by omega)) k0)) k
end XTN
