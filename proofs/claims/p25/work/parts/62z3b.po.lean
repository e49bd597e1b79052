/-! pullsOn of the reference, by stretches -/
theorem vn_at {r0 r' : List Int} (hx : ai_x r0 r') {n : Nat} {o z : Int} (h : r0[n]? = some z) : vn r' (1, n, 0, o) = z + o := by
  unfold vn
  rw [nm_x hx h]
section HSU
variable {ad : List Nat} {M : ai_m} {d : Nat} {p : Program} {l : Launch} {e : Env} {R : Room} {s : State} {m : MethodId} {args : Array Value} {below : List Frame} {meth : Method} {c : Code} {D : va_G} {tys : ai_ty} {A : Nat → Prop} {b L : Nat} {sx : Nat → Int32} {cells slots : Nat} {Q : State → Prop}
/-- fewer locals -/
theorem hG_sub {pc : Nat} {lv lv2 : List (Nat × Value)} {sk : List Value} {ws : va_W} (h : ∀ q ∈ lv2, q ∈ lv) (k : hG M p l e R s m args below meth c D A cells slots Q pc lv2 sk ws) : hG M p l e R s m args below meth c D A cells slots Q pc lv sk ws := by
  intro H locs ls hP hD hS hl
  exact k H locs ls hP hD hS ⟨hl.1, hl.2.1, fun q hq => hl.2.2 q (h q hq)⟩
end HSU
theorem ref_of49 {ad : List Nat} {b : Nat} {r : List Int} {cl a : Nat} {x : Value} (ha : ad[cl]? = some a) (h : ai_dv ad b r (0, cl, 0, 0) x) : x = .ref a := by
  rcases h with ⟨-, q, h1, rfl⟩ | ⟨h, -⟩ | ⟨h, -⟩ | ⟨h, -⟩ | ⟨h, -⟩
  · rw [Option.some.inj (h1.symm.trans ha)]
  all_goals exact absurd (show (0 : Nat) = _ from h) (by decide)
noncomputable def po_g (f : Nat → Nat → Bool) : Bool := ([0, 108] : List Nat).all fun pg => (List.range 4).all fun t => f pg t
theorem po_at {f : Nat → Nat → Bool} (h : po_g f = true) {pg t : Nat} (hg : pg = 0 ∨ pg = 108) (ht : t < 4) : f pg t = true := List.all_eq_true.mp (List.all_eq_true.mp h pg (by rcases hg with rfl | rfl <;> simp)) t (List.mem_range.mpr ht)
theorem yo_r : (po_g fun pg t => (ai_ex (hk []) 200 114 tb_m114 5 [] (0, [(0, (0, 49, 0, 0)), (1, (1, 0, 0, (pg : Int))), (2, (1, 0, 0, (t : Int)))], [], [(0, 0, false, 0, 0), (0, 2555, false, 1, 0), (0, 3, false, 2, 0), (1, 99, false, 3, 0), (0, 99, false, 4, 0), (0, 99, false, 5, 0), (0, 20, false, 6, 0), (0, 999, false, 7, 0)], [(50, t + pg, (1, 2, 0, 0)), (50, 16 + pg, (1, 6, 0, -10)), (50, 12 + t + pg, (1, 5, 0, 0))], [])).any fun xs => xs.all fun x => ([(27, [], [(1, 0, 0, 0)], [], [(0, 0, false, 0, 0), (0, 2555, false, 1, 0), (3, 3, false, 2, 0), (1, 99, false, 3, 0), (0, 99, false, 4, 0), (0, 99, false, 5, 0), (0, 20, false, 6, 0), (0, 999, false, 7, 0), (0, 198, false, 8, 0)], [(4, 6, 8, 6, 1), (502, 5, 5, 8, 0)]),
  (27, [], [(1, 10, 0, 0)], [], [(0, 0, false, 0, 0), (0, 2555, false, 1, 0), (3, 3, false, 2, 0), (1, 99, false, 3, 0), (0, 99, false, 4, 0), (0, 99, false, 5, 0), (1, 20, false, 6, 0), (0, 999, false, 7, 0), (0, 19, false, 8, 0), (0, 198, false, 9, 0), (-197, 20, false, 10, 0)], [(0, 6, 9, 10, 0), (502, 5, 5, 9, 0), (5, 6, 8, 6, 1), (502, 5, 5, 8, 0)]),
  (27, [], [(1, 6, 0, 0)], [], [(0, 0, false, 0, 0), (0, 2555, false, 1, 0), (0, 0, false, 2, 0), (1, 99, false, 3, 0), (0, 99, false, 4, 0), (0, 99, false, 5, 0), (0, 20, false, 6, 0), (0, 999, false, 7, 0)], []),
  (27, [], [(1, 8, 0, 0)], [], [(0, 0, false, 0, 0), (0, 2555, false, 1, 0), (1, 1, false, 2, 0), (1, 99, false, 3, 0), (0, 99, false, 4, 0), (0, 99, false, 5, 0), (0, 20, false, 6, 0), (0, 999, false, 7, 0), (0, 10, false, 8, 0)], [(152, 6, 6, 8, 0)]),
  (27, [], [(1, 9, 0, 0)], [], [(0, 0, false, 0, 0), (0, 2555, false, 1, 0), (2, 2, false, 2, 0), (1, 99, false, 3, 0), (0, 99, false, 4, 0), (0, 99, false, 5, 0), (0, 20, false, 6, 0), (0, 999, false, 7, 0), (0, 10, false, 8, 0), (0, 2, false, 9, 0)], [(154, 8, 8, 9, 0), (152, 6, 6, 8, 0)])] : List sm_t).any fun y => sm_is [] x y) = true := by decide +kernel
theorem po_2a : (po_g fun pg t => (ai_ex (hk []) 60 128 tb_m128 6 [56] (6, [(0, (0, 49, 0, 0)), (1, (1, 0, 0, (pg : Int))), (2, (1, 0, 0, (t : Int))), (3, (1, 0, 0, 0))], [(1, 8, 0, 0)], [(0, 0, false, 0, 0), (0, 2555, false, 1, 0), (0, 3, false, 2, 0), (1, 99, false, 3, 0), (0, 99, false, 4, 0), (0, 99, false, 5, 0), (0, 20, false, 6, 0), (0, 999, false, 7, 0), (0, 20, false, 8, 0)], [(50, 4 + t + pg, (1, 3, 0, 0)), (50, 8 + t + pg, (1, 4, 0, 0))], [])).any fun xs => xs.all fun x => ([(56, [(0, (0, 49, 0, 0)), (1, (1, 0, 0, (pg : Int))), (2, (1, 0, 0, (t : Int))), (4, (1, 8, 0, 0)), (6, (1, 8, 0, 0))], [], [], [(0, 0, false, 0, 0), (0, 2555, false, 1, 0), (0, 3, false, 2, 0), (1, 99, false, 3, 0), (0, 99, false, 4, 0), (0, 99, false, 5, 0), (0, 20, false, 6, 0), (0, 999, false, 7, 0), (0, 20, false, 8, 0), (0, 99, false, 9, 0)], [(4, 8, 9, 8, 1), (0, 3, 4, 9, 0)]),
  (56, [(0, (0, 49, 0, 0)), (1, (1, 0, 0, (pg : Int))), (2, (1, 0, 0, (t : Int))), (4, (1, 8, 0, 0)), (6, (1, 9, 0, 0))], [], [], [(0, 0, false, 0, 0), (0, 2555, false, 1, 0), (0, 3, false, 2, 0), (1, 99, false, 3, 0), (0, 99, false, 4, 0), (0, 99, false, 5, 0), (0, 20, false, 6, 0), (0, 999, false, 7, 0), (0, 20, false, 8, 0), (-98, 19, false, 9, 0)], [(5, 8, 9, 8, 1), (0, 3, 4, 9, 0)])] : List sm_t).any fun y => sm_is [] x y) = true := by decide +kernel
theorem po_2b : (po_g fun pg t => (ai_ex (hk []) 60 128 tb_m128 6 [56] (6, [(0, (0, 49, 0, 0)), (1, (1, 0, 0, (pg : Int))), (2, (1, 0, 0, (t : Int))), (3, (1, 0, 0, 1))], [(1, 8, 0, 0)], [(0, 0, false, 0, 0), (0, 2555, false, 1, 0), (0, 3, false, 2, 0), (1, 99, false, 3, 0), (0, 99, false, 4, 0), (0, 99, false, 5, 0), (0, 20, false, 6, 0), (0, 999, false, 7, 0), (0, 20, false, 8, 0)], [(50, 4 + t + pg, (1, 3, 0, 0)), (50, 8 + t + pg, (1, 4, 0, 0))], [])).any fun xs => xs.all fun x => ([(56, [(0, (0, 49, 0, 0)), (1, (1, 0, 0, (pg : Int))), (2, (1, 0, 0, (t : Int))), (4, (1, 8, 0, 0)), (6, (1, 0, 0, 0))], [], [], [(0, 0, false, 0, 0), (0, 2555, false, 1, 0), (0, 3, false, 2, 0), (1, 99, false, 3, 0), (0, 99, false, 4, 0), (0, 99, false, 5, 0), (0, 20, false, 6, 0), (0, 999, false, 7, 0), (0, 20, false, 8, 0), (-98, 99, false, 9, 0)], [(0, 3, 4, 9, 0)])] : List sm_t).any fun y => sm_is [] x y) = true := by decide +kernel
theorem po_3 : (po_g fun pg t => (ai_ex (hk []) 60 128 tb_m128 6 [90] (56, [(0, (0, 49, 0, 0)), (1, (1, 0, 0, (pg : Int))), (2, (1, 0, 0, (t : Int))), (4, (1, 8, 0, 0)), (6, (1, 9, 0, 0))], [], [(0, 0, false, 0, 0), (0, 2555, false, 1, 0), (0, 3, false, 2, 0), (1, 99, false, 3, 0), (0, 99, false, 4, 0), (0, 99, false, 5, 0), (0, 20, false, 6, 0), (0, 999, false, 7, 0), (0, 20, false, 8, 0), (0, 99, false, 9, 0)], [(50, 16 + pg, (1, 6, 0, -10)), (50, 17 + pg, (1, 7, 0, 0))], [])).any fun xs => xs.all fun x => ([(90, [(0, (0, 49, 0, 0)), (1, (1, 0, 0, (pg : Int))), (2, (1, 0, 0, (t : Int))), (6, (1, 9, 0, 0)), (7, (1, 0, 0, 0))], [], [], [(0, 0, false, 0, 0), (0, 2555, false, 1, 0), (0, 3, false, 2, 0), (1, 99, false, 3, 0), (0, 99, false, 4, 0), (0, 99, false, 5, 0), (0, 20, false, 6, 0), (0, 999, false, 7, 0), (0, 20, false, 8, 0), (0, 99, false, 9, 0), (0, 40, false, 10, 0)], [(5, 10, 6, 10, 0), (502, 8, 8, 10, 0)]),
  (90, [(0, (0, 49, 0, 0)), (1, (1, 0, 0, (pg : Int))), (2, (1, 0, 0, (t : Int))), (6, (1, 9, 0, 0)), (7, (1, 0, 0, 0))], [], [], [(0, 0, false, 0, 0), (0, 2555, false, 1, 0), (0, 3, false, 2, 0), (1, 99, false, 3, 0), (0, 99, false, 4, 0), (0, 99, false, 5, 0), (1, 20, false, 6, 0), (999, 999, false, 7, 0), (0, 20, false, 8, 0), (0, 99, false, 9, 0), (0, 19, false, 10, 0)], [(4, 10, 6, 10, 0), (502, 8, 8, 10, 0)]),
  (90, [(0, (0, 49, 0, 0)), (1, (1, 0, 0, (pg : Int))), (2, (1, 0, 0, (t : Int))), (6, (1, 9, 0, 0)), (7, (1, 0, 0, 1))], [], [], [(0, 0, false, 0, 0), (0, 2555, false, 1, 0), (0, 3, false, 2, 0), (1, 99, false, 3, 0), (0, 99, false, 4, 0), (0, 99, false, 5, 0), (1, 20, false, 6, 0), (0, 998, false, 7, 0), (0, 20, false, 8, 0), (0, 99, false, 9, 0), (0, 19, false, 10, 0)], [(4, 10, 6, 10, 0), (502, 8, 8, 10, 0)])] : List sm_t).any fun y => sm_is [] x y) = true := by decide +kernel
theorem po_4a : (po_g fun pg t => (ai_ex (hk [(50, 8 + t + pg, 9 + t + pg), (50, 12 + t + pg, 13 + t + pg), (50, 16 + pg, 18 + pg)]) 90 128 tb_m128 6 [] (90, [(0, (0, 49, 0, 0)), (1, (1, 0, 0, (pg : Int))), (2, (1, 0, 0, (t : Int))), (6, (1, 9, 0, 0)), (7, (1, 0, 0, 0))], [], [(0, 0, false, 0, 0), (0, 2555, false, 1, 0), (0, 3, false, 2, 0), (1, 99, false, 3, 0), (0, 99, false, 4, 0), (0, 99, false, 5, 0), (1, 20, false, 6, 0), (0, 999, false, 7, 0), (0, 20, false, 8, 0), (0, 99, false, 9, 0)], [(50, 8 + t + pg, (1, 4, 0, 0)), (50, 12 + t + pg, (1, 5, 0, 0)), (50, 17 + pg, (1, 7, 0, 0)), (50, 16 + pg, (1, 6, 0, -10))], [])).any fun xs => xs.all fun x => ([(178, [], [(1, 9, 0, 0)], [(1, 10, 0, 0), (1, 5, 0, 0), (1, 7, 0, 0), (1, 6, 0, -11)], [(0, 0, false, 0, 0), (0, 2555, false, 1, 0), (0, 3, false, 2, 0), (1, 99, false, 3, 0), (0, 99, false, 4, 0), (99, 99, false, 5, 0), (1, 20, false, 6, 0), (0, 999, false, 7, 0), (0, 20, false, 8, 0), (0, 99, false, 9, 0), (0, 198, false, 10, 0)], [(1, 4, 9, 10, 0)]),
  (178, [], [(1, 9, 0, 0)], [(1, 10, 0, 0), (1, 5, 0, 1), (1, 7, 0, 0), (1, 6, 0, -11)], [(0, 0, false, 0, 0), (0, 2555, false, 1, 0), (0, 3, false, 2, 0), (1, 99, false, 3, 0), (0, 99, false, 4, 0), (0, 98, false, 5, 0), (1, 20, false, 6, 0), (0, 999, false, 7, 0), (0, 20, false, 8, 0), (0, 99, false, 9, 0), (0, 198, false, 10, 0)], [(1, 4, 9, 10, 0)])] : List sm_t).any fun y => sm_is [(50, 8 + t + pg), (50, 12 + t + pg), (50, 17 + pg), (50, 16 + pg)] x y) = true := by decide +kernel
theorem po_4b : (po_g fun pg t => (ai_ex (hk [(50, 8 + t + pg, 9 + t + pg), (50, 12 + t + pg, 13 + t + pg), (50, 16 + pg, 18 + pg)]) 90 128 tb_m128 6 [] (90, [(0, (0, 49, 0, 0)), (1, (1, 0, 0, (pg : Int))), (2, (1, 0, 0, (t : Int))), (6, (1, 9, 0, 0)), (7, (1, 0, 0, 1))], [], [(0, 0, false, 0, 0), (0, 2555, false, 1, 0), (0, 3, false, 2, 0), (1, 99, false, 3, 0), (0, 99, false, 4, 0), (0, 99, false, 5, 0), (1, 20, false, 6, 0), (0, 998, false, 7, 0), (0, 20, false, 8, 0), (0, 99, false, 9, 0)], [(50, 8 + t + pg, (1, 4, 0, 0)), (50, 12 + t + pg, (1, 5, 0, 0)), (50, 17 + pg, (1, 7, 0, 0)), (50, 16 + pg, (1, 6, 0, -10))], [])).any fun xs => xs.all fun x => ([(178, [], [(1, 9, 0, 0)], [(1, 10, 0, 0), (1, 5, 0, 0), (1, 7, 0, 1), (1, 6, 0, -11)], [(0, 0, false, 0, 0), (0, 2555, false, 1, 0), (0, 3, false, 2, 0), (1, 99, false, 3, 0), (0, 99, false, 4, 0), (99, 99, false, 5, 0), (1, 20, false, 6, 0), (0, 998, false, 7, 0), (0, 20, false, 8, 0), (0, 99, false, 9, 0), (0, 198, false, 10, 0)], [(1, 4, 9, 10, 0)]),
  (178, [], [(1, 9, 0, 0)], [(1, 10, 0, 0), (1, 5, 0, 1), (1, 7, 0, 1), (1, 6, 0, -11)], [(0, 0, false, 0, 0), (0, 2555, false, 1, 0), (0, 3, false, 2, 0), (1, 99, false, 3, 0), (0, 99, false, 4, 0), (0, 98, false, 5, 0), (1, 20, false, 6, 0), (0, 998, false, 7, 0), (0, 20, false, 8, 0), (0, 99, false, 9, 0), (0, 198, false, 10, 0)], [(1, 4, 9, 10, 0)])] : List sm_t).any fun y => sm_is [(50, 8 + t + pg), (50, 12 + t + pg), (50, 17 + pg), (50, 16 + pg)] x y) = true := by decide +kernel
theorem po_1 : (po_g fun pg t => (ai_ex (hk []) 20 128 tb_m128 6 [3] (0, [(0, (0, 49, 0, 0)), (1, (1, 0, 0, (pg : Int))), (2, (1, 0, 0, (t : Int))), (3, (1, 8, 0, 0))], [], [(0, 0, false, 0, 0), (0, 2555, false, 1, 0), (0, 3, false, 2, 0), (1, 99, false, 3, 0), (0, 99, false, 4, 0), (0, 99, false, 5, 0), (0, 20, false, 6, 0), (0, 999, false, 7, 0), (0, 1, false, 8, 0)], [], [])).any fun xs => xs.all fun x => ([(3, [(0, (0, 49, 0, 0)), (1, (1, 0, 0, (pg : Int))), (2, (1, 0, 0, (t : Int))), (3, (1, 8, 0, 0))], [(1, 0, 0, (t : Int)), (1, 0, 0, (pg : Int)), (0, 49, 0, 0)], [], [(0, 0, false, 0, 0), (0, 2555, false, 1, 0), (0, 3, false, 2, 0), (1, 99, false, 3, 0), (0, 99, false, 4, 0), (0, 99, false, 5, 0), (0, 20, false, 6, 0), (0, 999, false, 7, 0), (0, 1, false, 8, 0)], [])] : List sm_t).any fun y => sm_is [] x y) = true := by decide +kernel
theorem yl_rg {k s p : Int} (h1 : 0 ≤ s) (h2 : s ≤ 20) (h3 : 0 ≤ p) : 0 ≤ yl k s p ∧ yl k s p ≤ 20 := by
  have := yl_eq k s p
  split at this
  · omega
  split at this
  · omega
  split at this
  · omega
  · omega
section POA
variable {ad : List Nat} {M : ai_m} {d : Nat} {p : Program} {l0 : Launch} {e : Env} {R : Room} {s0 : State} {m : MethodId} {args : Array Value} {below : List Frame} {meth : Method} {c : Code} {D : va_G} {tys : ai_ty} {A : Nat → Prop} {b L : Nat} {sx : Nat → Int32} {cells slots : Nat} {Q : State → Prop}
/-- what is known of a page's test t -/
def po_ev (k z mm pp s l : Int) : Prop := (0 ≤ k ∧ k ≤ 3) ∧ (1 ≤ z ∧ z ≤ 99) ∧ (0 ≤ mm ∧ mm ≤ z) ∧ (0 ≤ pp ∧ pp ≤ 99) ∧ (0 ≤ s ∧ s ≤ 20) ∧ (0 ≤ l ∧ l ≤ 999)
def po_vi (ws : va_W) (pg t : Nat) (k z mm pp s l : Int) : Prop := vi ws 50 (t + pg) k ∧ vi ws 50 (4 + t + pg) z ∧ vi ws 50 (8 + t + pg) mm ∧ vi ws 50 (12 + t + pg) pp ∧ vi ws 50 (16 + pg) (s - 10) ∧ vi ws 50 (17 + pg) l
theorem po_vi.fr {ws ws' : va_W} {pg t : Nat} {k z mm pp s l : Int} (h : po_vi ws pg t k z mm pp s l) (hf : ai_fr [] ws ws') : po_vi ws' pg t k z mm pp s l := ⟨h.1.fr hf rfl, h.2.1.fr hf rfl, h.2.2.1.fr hf rfl, h.2.2.2.1.fr hf rfl, h.2.2.2.2.1.fr hf rfl, h.2.2.2.2.2.fr hf rfl⟩
theorem yo_all {pg a t : Nat} {k z mm pp s l : Int} {zp zt : Int32} {ws : va_W} (C : ai_cx tb_m114 5 p R s0 m args c D tys A b L sx cells slots) (hg0 : pg = 0 ∨ pg = 108) (ht : t < 4) (ha : ad[49]? = some a) (ep : zp.toInt = pg) (et : zt.toInt = t) (hg : po_ev k z mm pp s l) (hw : ai_wd tb_TY ad tys ws) (hh : po_vi ws pg t k z mm pp s l)
    (kk : ∀ (ws' : va_W) (y : Int32) (lv' : List (Nat × Value)), ai_wd tb_TY ad tys ws' → ai_fr [] ws ws' → y.toInt = yl k s pp → hG tb_m114 p l0 e R s0 m args below meth c D A cells slots Q 27 lv' [.int y] ws') : hG tb_m114 p l0 e R s0 m args below meth c D A cells slots Q 0 [(0, .ref a), (1, .int zp), (2, .int zt)] [] ws := by
  obtain ⟨b1, b2, b3, b4, b5, b6⟩ := hg
  obtain ⟨v1, v2, v3, v4, v5, v6⟩ := hh
  refine hsum (st := (0, [(0, (0, 49, 0, 0)), (1, (1, 0, 0, (pg : Int))), (2, (1, 0, 0, (t : Int)))], [], [(0, 0, false, 0, 0), (0, 2555, false, 1, 0), (0, 3, false, 2, 0), (1, 99, false, 3, 0), (0, 99, false, 4, 0), (0, 99, false, 5, 0), (0, 20, false, 6, 0), (0, 999, false, 7, 0)], [(50, t + pg, (1, 2, 0, 0)), (50, 16 + pg, (1, 6, 0, -10)), (50, 12 + t + pg, (1, 5, 0, 0))], [])) (po_at yo_r hg0 ht) rfl C (r := [0, 0, k, z, mm, pp, s, l]) ⟨en_mk (by simp only [en_b, and_true]; omega) rfl, sb0, ⟨rfl, Or.inl ⟨rfl, a, ha, rfl⟩, rfl, int_dv (z := 0) rfl (by omega), rfl, int_dv (z := 0) rfl (by omega), trivial⟩, trivial, hw, kc (v1.kn (n := 2) (t := k) rfl (by omega)) (kc (v5.kn (n := 6) (t := s) rfl (by omega)) (kc (v4.kn (n := 5) (t := pp) rfl (by omega)) k0)), fun _ _ _ _ h => h, fun h => by cases h⟩ (fun x hx r' lv' sk' ws1 hx' hb hl hs hlo hsk hw1 hv' hf1 _ => ?_)
  have n0 := nm_x hx' (k := 0) rfl
  have n2 := nm_x hx' (k := 2) rfl
  have n5 := nm_x hx' (k := 5) rfl
  have n6 := nm_x hx' (k := 6) rfl
  have hy := yl_eq k s pp
  rcases List.mem_cons.mp hx with rfl | hx
  · obtain ⟨y, rfl, hz⟩ := sk1 rfl hsk
    unfold vn at hz
    dsimp only at hz
    simp (config := { decide := true }) only [bnd_b, lin_b, lin_q, Nat.reduceAdd, Nat.zero_add, Nat.reduceEqDiff, reduceIte, and_true, Int.add_zero] at hb hl
    refine kk ws1 y lv' hw1 hf1 ?_
    rw [hy]
    omega
  rcases List.mem_cons.mp hx with rfl | hx
  · obtain ⟨y, rfl, hz⟩ := sk1 rfl hsk
    unfold vn at hz
    dsimp only at hz
    simp (config := { decide := true }) only [bnd_b, lin_b, lin_q, Nat.reduceAdd, Nat.zero_add, Nat.reduceEqDiff, reduceIte, and_true, Int.add_zero] at hb hl
    refine kk ws1 y lv' hw1 hf1 ?_
    rw [hy]
    omega
  rcases List.mem_cons.mp hx with rfl | hx
  · obtain ⟨y, rfl, hz⟩ := sk1 rfl hsk
    unfold vn at hz
    dsimp only at hz
    simp (config := { decide := true }) only [bnd_b, lin_b, lin_q, Nat.reduceAdd, Nat.zero_add, Nat.reduceEqDiff, reduceIte, and_true, Int.add_zero] at hb hl
    refine kk ws1 y lv' hw1 hf1 ?_
    rw [hy]
    omega
  rcases List.mem_cons.mp hx with rfl | hx
  · obtain ⟨y, rfl, hz⟩ := sk1 rfl hsk
    unfold vn at hz
    dsimp only at hz
    simp (config := { decide := true }) only [bnd_b, lin_b, lin_q, Nat.reduceAdd, Nat.zero_add, Nat.reduceEqDiff, reduceIte, and_true, Int.add_zero] at hb hl
    refine kk ws1 y lv' hw1 hf1 ?_
    rw [hy]
    omega
  rcases List.mem_cons.mp hx with rfl | hx
  · obtain ⟨y, rfl, hz⟩ := sk1 rfl hsk
    unfold vn at hz
    dsimp only at hz
    simp (config := { decide := true }) only [bnd_b, lin_b, lin_q, Nat.reduceAdd, Nat.zero_add, Nat.reduceEqDiff, reduceIte, and_true, Int.add_zero] at hb hl
    refine kk ws1 y lv' hw1 hf1 ?_
    rw [hy]
    omega
  cases hx
/-- a pull: more, then moved, pulled, laughs, strength -/
def po_P (ad : List Nat) (tys : ai_ty) (pg t : Nat) (sl : Bool) (k z mm pp s l : Int) (ws ws' : va_W) (w : Int32) : Prop := ai_wd tb_TY ad tys ws' ∧ ai_fr [(50, 8 + t + pg, 9 + t + pg), (50, 12 + t + pg, 13 + t + pg), (50, 16 + pg, 18 + pg)] ws ws' ∧ w.toInt = (if sl = true then 0 else min (yl k s pp) (z - mm)) ∧ vi ws' 50 (8 + t + pg) (mm + w.toInt) ∧ vi ws' 50 (12 + t + pg) (min 99 (pp + 1)) ∧ vi ws' 50 (17 + pg) (if 2 * yl k s pp < s then min 999 (l + 1) else l) ∧ vi ws' 50 (16 + pg) (s - 1 - 10)
theorem po_all {pg a t : Nat} {sl : Bool} {k z mm pp s l : Int} {zp zt zs : Int32} {ws : va_W} (C : ai_cx tb_m128 6 p R s0 m args c D tys A b L sx cells slots) (hg0 : pg = 0 ∨ pg = 108) (ht : t < 4) (ha : ad[49]? = some a) (ep : zp.toInt = pg) (et : zt.toInt = t) (es : zs.toInt = (if sl = true then 1 else 0)) (hg : po_ev k z mm pp s l) (hs1 : 1 ≤ s) (hw : ai_wd tb_TY ad tys ws) (hh : po_vi ws pg t k z mm pp s l)
    (kk : ∀ (ws' : va_W) (w : Int32) (lv' : List (Nat × Value)), po_P ad tys pg t sl k z mm pp s l ws ws' w → hG tb_m128 p l0 e R s0 m args below meth c D A cells slots Q 178 lv' [.int w] ws') : hG tb_m128 p l0 e R s0 m args below meth c D A cells slots Q 0 [(0, .ref a), (1, .int zp), (2, .int zt), (3, .int zs)] [] ws := by
  obtain ⟨b1, b2, b3, b4, b5, b6⟩ := id hg
  have n0 : ∀ {u v : va_W} {Wx : List (Nat × Nat × Nat)}, ai_fr [] u v → ai_fr Wx u v := fun h => wsub_ok (V := []) (by rfl) h
  have bs : 0 ≤ zs.toInt ∧ zs.toInt ≤ 1 := by
    rw [es]
    split <;> omega
  -- the last stretch
  have k4 : ∀ (ws4 : va_W) (ww zf : Int32) (f : Nat), f < 2 → zf.toInt = f → ai_wd tb_TY ad tys ws4 → ai_fr [] ws ws4 → (0 ≤ ww.toInt ∧ ww.toInt ≤ 99) → ww.toInt = (if sl = true then 0 else min (yl k s pp) (z - mm)) → (if 2 * yl k s pp < s then min 999 (l + 1) else l) = l + f → (f = 1 → l ≤ 998) → hG tb_m128 p l0 e R s0 m args below meth c D A cells slots Q 90 [(0, .ref a), (1, .int zp), (2, .int zt), (6, .int ww), (7, .int zf)] [] ws4 := by
    intro ws4 ww zf f hf2 ezf hw4 hf4 bw eww hl1 hl2
    obtain ⟨v1, v2, v3, v4, v5, v6⟩ := hh.fr hf4
    have fin : ∀ (ws5 : va_W) (w5 : Int32) (lv5 : List (Nat × Value)) (vm vp : Int), w5.toInt = ww.toInt → ai_wd tb_TY ad tys ws5 → ai_fr [(50, 8 + t + pg, 9 + t + pg), (50, 12 + t + pg, 13 + t + pg), (50, 16 + pg, 18 + pg)] ws4 ws5 → vi ws5 50 (8 + t + pg) vm → vi ws5 50 (12 + t + pg) vp → vi ws5 50 (17 + pg) (l + f) → vi ws5 50 (16 + pg) (s - 11) → vm = mm + ww.toInt → vp = min 99 (pp + 1) → hG tb_m128 p l0 e R s0 m args below meth c D A cells slots Q 178 lv5 [.int w5] ws5 := by
      intro ws5 w5 lv5 vm vp e5 hw5 hf5 q1 q2 q3 q4 q5 q6
      exact kk ws5 w5 lv5 ⟨hw5, (n0 hf4).tr hf5, by rw [e5, eww], q1.eq (by rw [q5, e5]), q2.eq q6, q3.eq hl1.symm, q4.eq (by omega)⟩
    match f, hf2 with
    | 0, _ =>
      refine hsum (st := (90, [(0, (0, 49, 0, 0)), (1, (1, 0, 0, (pg : Int))), (2, (1, 0, 0, (t : Int))), (6, (1, 9, 0, 0)), (7, (1, 0, 0, 0))], [], [(0, 0, false, 0, 0), (0, 2555, false, 1, 0), (0, 3, false, 2, 0), (1, 99, false, 3, 0), (0, 99, false, 4, 0), (0, 99, false, 5, 0), (1, 20, false, 6, 0), (0, 999, false, 7, 0), (0, 20, false, 8, 0), (0, 99, false, 9, 0)], [(50, 8 + t + pg, (1, 4, 0, 0)), (50, 12 + t + pg, (1, 5, 0, 0)), (50, 17 + pg, (1, 7, 0, 0)), (50, 16 + pg, (1, 6, 0, -10))], [])) (po_at po_4a hg0 ht) rfl C (r := [0, 0, k, z, mm, pp, s, l, 0, ww.toInt]) ⟨en_mk (by simp only [en_b, and_true]; omega) rfl, sb0, ⟨rfl, Or.inl ⟨rfl, a, ha, rfl⟩, rfl, int_dv (z := 0) rfl (by omega), rfl, int_dv (z := 0) rfl (by omega), rfl, int_dv (z := ww.toInt) rfl (by omega), rfl, int_dv (z := 0) rfl (by omega), trivial⟩, trivial, hw4, kc (v3.kn (n := 4) (t := mm) rfl (by omega)) (kc (v4.kn (n := 5) (t := pp) rfl (by omega)) (kc (v6.kn (n := 7) (t := l) rfl (by omega)) (kc (v5.kn (n := 6) (t := s) rfl (by omega)) k0))), fun _ _ _ _ h => h, fun h => by cases h⟩ (fun x hx r' lv' sk' ws5 hx' hb hl hs hlo hsk hw5 hv' hf5 _ => ?_)
      rcases List.mem_cons.mp hx with rfl | hx
      · obtain ⟨w5, rfl, h5⟩ := sk1 rfl hsk
        obtain ⟨q1, q2, q3, q4, -⟩ := hv'
        rw [vn_at hx' (n := 9) (z := ww.toInt) rfl] at h5
        have m4 := nm_x hx' (k := 4) rfl
        have m5 := nm_x hx' (k := 5) rfl
        have m6 := nm_x hx' (k := 6) rfl
        have m7 := nm_x hx' (k := 7) rfl
        have m9 := nm_x hx' (k := 9) rfl
        simp (config := { decide := true }) only [bnd_b, lin_b, lin_q, Nat.reduceAdd, Nat.zero_add, Nat.reduceEqDiff, reduceIte, and_true, Int.add_zero] at hb hl
        exact fin ws5 w5 lv' _ _ (by omega) hw5 hf5 q1 q2 (q3.eq (by dsimp only; omega)) (q4.eq (by dsimp only; omega)) (by dsimp only; omega) (by dsimp only; omega)
      rcases List.mem_cons.mp hx with rfl | hx
      · obtain ⟨w5, rfl, h5⟩ := sk1 rfl hsk
        obtain ⟨q1, q2, q3, q4, -⟩ := hv'
        rw [vn_at hx' (n := 9) (z := ww.toInt) rfl] at h5
        have m4 := nm_x hx' (k := 4) rfl
        have m5 := nm_x hx' (k := 5) rfl
        have m6 := nm_x hx' (k := 6) rfl
        have m7 := nm_x hx' (k := 7) rfl
        have m9 := nm_x hx' (k := 9) rfl
        simp (config := { decide := true }) only [bnd_b, lin_b, lin_q, Nat.reduceAdd, Nat.zero_add, Nat.reduceEqDiff, reduceIte, and_true, Int.add_zero] at hb hl
        exact fin ws5 w5 lv' _ _ (by omega) hw5 hf5 q1 q2 (q3.eq (by dsimp only; omega)) (q4.eq (by dsimp only; omega)) (by dsimp only; omega) (by dsimp only; omega)
      cases hx
    | 1, _ =>
      have hl3 := hl2 rfl
      refine hsum (st := (90, [(0, (0, 49, 0, 0)), (1, (1, 0, 0, (pg : Int))), (2, (1, 0, 0, (t : Int))), (6, (1, 9, 0, 0)), (7, (1, 0, 0, 1))], [], [(0, 0, false, 0, 0), (0, 2555, false, 1, 0), (0, 3, false, 2, 0), (1, 99, false, 3, 0), (0, 99, false, 4, 0), (0, 99, false, 5, 0), (1, 20, false, 6, 0), (0, 998, false, 7, 0), (0, 20, false, 8, 0), (0, 99, false, 9, 0)], [(50, 8 + t + pg, (1, 4, 0, 0)), (50, 12 + t + pg, (1, 5, 0, 0)), (50, 17 + pg, (1, 7, 0, 0)), (50, 16 + pg, (1, 6, 0, -10))], [])) (po_at po_4b hg0 ht) rfl C (r := [0, 0, k, z, mm, pp, s, l, 0, ww.toInt]) ⟨en_mk (by simp only [en_b, and_true]; omega) rfl, sb0, ⟨rfl, Or.inl ⟨rfl, a, ha, rfl⟩, rfl, int_dv (z := 0) rfl (by omega), rfl, int_dv (z := 0) rfl (by omega), rfl, int_dv (z := ww.toInt) rfl (by omega), rfl, int_dv (z := 0) rfl (by omega), trivial⟩, trivial, hw4, kc (v3.kn (n := 4) (t := mm) rfl (by omega)) (kc (v4.kn (n := 5) (t := pp) rfl (by omega)) (kc (v6.kn (n := 7) (t := l) rfl (by omega)) (kc (v5.kn (n := 6) (t := s) rfl (by omega)) k0))), fun _ _ _ _ h => h, fun h => by cases h⟩ (fun x hx r' lv' sk' ws5 hx' hb hl hs hlo hsk hw5 hv' hf5 _ => ?_)
      rcases List.mem_cons.mp hx with rfl | hx
      · obtain ⟨w5, rfl, h5⟩ := sk1 rfl hsk
        obtain ⟨q1, q2, q3, q4, -⟩ := hv'
        rw [vn_at hx' (n := 9) (z := ww.toInt) rfl] at h5
        have m4 := nm_x hx' (k := 4) rfl
        have m5 := nm_x hx' (k := 5) rfl
        have m6 := nm_x hx' (k := 6) rfl
        have m7 := nm_x hx' (k := 7) rfl
        have m9 := nm_x hx' (k := 9) rfl
        simp (config := { decide := true }) only [bnd_b, lin_b, lin_q, Nat.reduceAdd, Nat.zero_add, Nat.reduceEqDiff, reduceIte, and_true, Int.add_zero] at hb hl
        exact fin ws5 w5 lv' _ _ (by omega) hw5 hf5 q1 q2 (q3.eq (by dsimp only; omega)) (q4.eq (by dsimp only; omega)) (by dsimp only; omega) (by dsimp only; omega)
      rcases List.mem_cons.mp hx with rfl | hx
      · obtain ⟨w5, rfl, h5⟩ := sk1 rfl hsk
        obtain ⟨q1, q2, q3, q4, -⟩ := hv'
        rw [vn_at hx' (n := 9) (z := ww.toInt) rfl] at h5
        have m4 := nm_x hx' (k := 4) rfl
        have m5 := nm_x hx' (k := 5) rfl
        have m6 := nm_x hx' (k := 6) rfl
        have m7 := nm_x hx' (k := 7) rfl
        have m9 := nm_x hx' (k := 9) rfl
        simp (config := { decide := true }) only [bnd_b, lin_b, lin_q, Nat.reduceAdd, Nat.zero_add, Nat.reduceEqDiff, reduceIte, and_true, Int.add_zero] at hb hl
        exact fin ws5 w5 lv' _ _ (by omega) hw5 hf5 q1 q2 (q3.eq (by dsimp only; omega)) (q4.eq (by dsimp only; omega)) (by dsimp only; omega) (by dsimp only; omega)
      cases hx
    | f + 2, h => exact absurd h (by omega)
  -- laughs
  have k3 : ∀ (ws3 : va_W) (yy ww : Int32), ai_wd tb_TY ad tys ws3 → ai_fr [] ws ws3 → yy.toInt = yl k s pp → (0 ≤ yy.toInt ∧ yy.toInt ≤ 20) → (0 ≤ ww.toInt ∧ ww.toInt ≤ 99) → ww.toInt = (if sl = true then 0 else min (yl k s pp) (z - mm)) → hG tb_m128 p l0 e R s0 m args below meth c D A cells slots Q 56 [(0, .ref a), (1, .int zp), (2, .int zt), (4, .int yy), (6, .int ww)] [] ws3 := by
    intro ws3 yy ww hw3 hf3 eyy by1 bw eww
    obtain ⟨v1, v2, v3, v4, v5, v6⟩ := hh.fr hf3
    refine hsum (st := (56, [(0, (0, 49, 0, 0)), (1, (1, 0, 0, (pg : Int))), (2, (1, 0, 0, (t : Int))), (4, (1, 8, 0, 0)), (6, (1, 9, 0, 0))], [], [(0, 0, false, 0, 0), (0, 2555, false, 1, 0), (0, 3, false, 2, 0), (1, 99, false, 3, 0), (0, 99, false, 4, 0), (0, 99, false, 5, 0), (0, 20, false, 6, 0), (0, 999, false, 7, 0), (0, 20, false, 8, 0), (0, 99, false, 9, 0)], [(50, 16 + pg, (1, 6, 0, -10)), (50, 17 + pg, (1, 7, 0, 0))], [])) (po_at po_3 hg0 ht) rfl C (r := [0, 0, k, z, mm, pp, s, l, yy.toInt, ww.toInt]) ⟨en_mk (by simp only [en_b, and_true]; omega) rfl, sb0, ⟨rfl, Or.inl ⟨rfl, a, ha, rfl⟩, rfl, int_dv (z := 0) rfl (by omega), rfl, int_dv (z := 0) rfl (by omega), rfl, int_dv (z := yy.toInt) rfl (by omega), rfl, int_dv (z := ww.toInt) rfl (by omega), trivial⟩, trivial, hw3, kc (v5.kn (n := 6) (t := s) rfl (by omega)) (kc (v6.kn (n := 7) (t := l) rfl (by omega)) k0), fun _ _ _ _ h => h, fun h => by cases h⟩ (fun x hx r' lv' sk' ws4 hx' hb hl hs hlo hsk hw4 hv' hf4 _ => ?_)
    have m6 := nm_x hx' (k := 6) rfl
    have m7 := nm_x hx' (k := 7) rfl
    have m8 := nm_x hx' (k := 8) rfl
    rcases List.mem_cons.mp hx with rfl | hx
    · dsimp only at hlo hsk ⊢
      cases hsk.nil
      obtain ⟨l3_0, rfl, p3_0⟩ := lo_ref ha hlo
      obtain ⟨up, l3_1, rfl, d_up, p3_1⟩ := lo_int rfl p3_0
      obtain ⟨ut, l3_2, rfl, d_ut, p3_2⟩ := lo_int rfl p3_1
      obtain ⟨uw, l3_3, rfl, d_uw, p3_3⟩ := lo_int rfl p3_2
      obtain ⟨uf, l3_4, rfl, d_uf, p3_4⟩ := lo_int rfl p3_3
      cases lo_nil p3_4
      rw [vn_at hx' (n := 0) (z := 0) rfl] at d_up
      rw [vn_at hx' (n := 0) (z := 0) rfl] at d_ut
      rw [vn_at hx' (n := 9) (z := ww.toInt) rfl] at d_uw
      rw [vn_at hx' (n := 0) (z := 0) rfl] at d_uf
      have e_up : zp = up := Int32.toInt_inj.mp (by omega)
      subst e_up
      have e_ut : zt = ut := Int32.toInt_inj.mp (by omega)
      subst e_ut
      have e_uw : ww = uw := Int32.toInt_inj.mp (by omega)
      subst e_uw
      simp (config := { decide := true }) only [bnd_b, lin_b, lin_q, Nat.reduceAdd, Nat.zero_add, Nat.reduceEqDiff, reduceIte, and_true, Int.add_zero] at hb hl
      exact k4 ws4 ww uf 0 (by decide) (by omega) hw4 (hf3.tr hf4) bw eww (by split <;> omega) (by omega)
    rcases List.mem_cons.mp hx with rfl | hx
    · dsimp only at hlo hsk ⊢
      cases hsk.nil
      obtain ⟨l3_0, rfl, p3_0⟩ := lo_ref ha hlo
      obtain ⟨up, l3_1, rfl, d_up, p3_1⟩ := lo_int rfl p3_0
      obtain ⟨ut, l3_2, rfl, d_ut, p3_2⟩ := lo_int rfl p3_1
      obtain ⟨uw, l3_3, rfl, d_uw, p3_3⟩ := lo_int rfl p3_2
      obtain ⟨uf, l3_4, rfl, d_uf, p3_4⟩ := lo_int rfl p3_3
      cases lo_nil p3_4
      rw [vn_at hx' (n := 0) (z := 0) rfl] at d_up
      rw [vn_at hx' (n := 0) (z := 0) rfl] at d_ut
      rw [vn_at hx' (n := 9) (z := ww.toInt) rfl] at d_uw
      rw [vn_at hx' (n := 0) (z := 0) rfl] at d_uf
      have e_up : zp = up := Int32.toInt_inj.mp (by omega)
      subst e_up
      have e_ut : zt = ut := Int32.toInt_inj.mp (by omega)
      subst e_ut
      have e_uw : ww = uw := Int32.toInt_inj.mp (by omega)
      subst e_uw
      simp (config := { decide := true }) only [bnd_b, lin_b, lin_q, Nat.reduceAdd, Nat.zero_add, Nat.reduceEqDiff, reduceIte, and_true, Int.add_zero] at hb hl
      exact k4 ws4 ww uf 0 (by decide) (by omega) hw4 (hf3.tr hf4) bw eww (by split <;> omega) (by omega)
    rcases List.mem_cons.mp hx with rfl | hx
    · dsimp only at hlo hsk ⊢
      cases hsk.nil
      obtain ⟨l3_0, rfl, p3_0⟩ := lo_ref ha hlo
      obtain ⟨up, l3_1, rfl, d_up, p3_1⟩ := lo_int rfl p3_0
      obtain ⟨ut, l3_2, rfl, d_ut, p3_2⟩ := lo_int rfl p3_1
      obtain ⟨uw, l3_3, rfl, d_uw, p3_3⟩ := lo_int rfl p3_2
      obtain ⟨uf, l3_4, rfl, d_uf, p3_4⟩ := lo_int rfl p3_3
      cases lo_nil p3_4
      rw [vn_at hx' (n := 0) (z := 0) rfl] at d_up
      rw [vn_at hx' (n := 0) (z := 0) rfl] at d_ut
      rw [vn_at hx' (n := 9) (z := ww.toInt) rfl] at d_uw
      rw [vn_at hx' (n := 0) (z := 0) rfl] at d_uf
      have e_up : zp = up := Int32.toInt_inj.mp (by omega)
      subst e_up
      have e_ut : zt = ut := Int32.toInt_inj.mp (by omega)
      subst e_ut
      have e_uw : ww = uw := Int32.toInt_inj.mp (by omega)
      subst e_uw
      simp (config := { decide := true }) only [bnd_b, lin_b, lin_q, Nat.reduceAdd, Nat.zero_add, Nat.reduceEqDiff, reduceIte, and_true, Int.add_zero] at hb hl
      exact k4 ws4 ww uf 1 (by decide) (by omega) hw4 (hf3.tr hf4) bw eww (by split <;> omega) (by omega)
    cases hx
  -- how much more
  refine hsum (st := (0, [(0, (0, 49, 0, 0)), (1, (1, 0, 0, (pg : Int))), (2, (1, 0, 0, (t : Int))), (3, (1, 8, 0, 0))], [], [(0, 0, false, 0, 0), (0, 2555, false, 1, 0), (0, 3, false, 2, 0), (1, 99, false, 3, 0), (0, 99, false, 4, 0), (0, 99, false, 5, 0), (0, 20, false, 6, 0), (0, 999, false, 7, 0), (0, 1, false, 8, 0)], [], [])) (po_at po_1 hg0 ht) rfl C (r := [0, 0, k, z, mm, pp, s, l, zs.toInt]) ⟨en_mk (by simp only [en_b, and_true]; omega) rfl, sb0, ⟨rfl, Or.inl ⟨rfl, a, ha, rfl⟩, rfl, int_dv (z := 0) rfl (by omega), rfl, int_dv (z := 0) rfl (by omega), rfl, int_dv (z := zs.toInt) rfl (by omega), trivial⟩, trivial, hw, k0, fun _ _ _ _ h => h, fun h => by cases h⟩ (fun x hx r' lv' sk' ws1 hx' hb hl hs hlo hsk hw1 hv' hf1 _ => ?_)
  rw [List.mem_singleton.mp hx] at hlo hsk ⊢
  dsimp only at hlo hsk ⊢
  obtain ⟨l1_0, rfl, p1_0⟩ := lo_ref ha hlo
  obtain ⟨vp, l1_1, rfl, d_vp, p1_1⟩ := lo_int rfl p1_0
  obtain ⟨vt, l1_2, rfl, d_vt, p1_2⟩ := lo_int rfl p1_1
  obtain ⟨vs, l1_3, rfl, d_vs, p1_3⟩ := lo_int rfl p1_2
  cases lo_nil p1_3
  rw [vn_at hx' (n := 0) (z := 0) rfl] at d_vp
  rw [vn_at hx' (n := 0) (z := 0) rfl] at d_vt
  rw [vn_at hx' (n := 8) (z := zs.toInt) rfl] at d_vs
  have e_vp : zp = vp := Int32.toInt_inj.mp (by omega)
  subst e_vp
  have e_vt : zt = vt := Int32.toInt_inj.mp (by omega)
  subst e_vt
  have e_vs : zs = vs := Int32.toInt_inj.mp (by omega)
  subst e_vs
  obtain ⟨x1, s1, rfl, d1, g4⟩ := hsk.cons
  obtain ⟨x2, s2, rfl, d2, g5⟩ := g4.cons
  obtain ⟨x3, s3, rfl, d3, g6⟩ := g5.cons
  cases g6.nil
  obtain ⟨u1, rfl, w1⟩ := dvn d1 (hx'.at (k := 0) rfl)
  obtain ⟨u2, rfl, w2⟩ := dvn d2 (hx'.at (k := 0) rfl)
  have f3 := ref_of49 ha d3
  subst f3
  refine hcallI (q := (148, 0, 114, 2, 6)) (M' := tb_m114) (cl := 49) (a := a) (As := [.int u2, .int u1]) (rest := []) (rets := [27]) (P := fun w y => ai_wd tb_TY ad tys w ∧ ai_fr [] ws1 w ∧ y.toInt = yl k s pp) C (by decide) (tv_m128.1.1.1 (3, .invokevirtual 148, 3) (List.mem_of_getElem? (i := 3) rfl)) (tv_m128.2 _ (List.mem_of_getElem? (i := 15) rfl)) rfl rfl rfl rfl (by decide) (Nat.le_of_ble_eq_true rfl) rfl rfl rfl rfl hw1 ha (by decide) ?_ ?_ ?_
  · intro pcr hp
    rw [List.mem_singleton.mp hp]
    exact tv_m114.1.1.1 (27, .ireturn, 1) (List.mem_of_getElem? (i := 18) rfl)
  · intro p2 e2 R2 s2 m2 args2 below2 meth2 c2 Q2 C2 kk2
    exact yo_all C2 hg0 ht ha (by omega) (by omega) hg hw1 (hh.fr hf1) (fun w y lv2 h1 h2 h3 => kk2 27 w y lv2 (by decide) ⟨h1, h2, h3⟩)
  · intro ws2 y hP
    obtain ⟨hw2, hf2, ey⟩ := hP
    have by0 := yl_rg (k := k) (s := s) (p := pp) b5.1 b5.2 b4.1
    obtain ⟨v1, v2, v3, v4, v5, v6⟩ := hh.fr (hf1.tr hf2)
    have kn2 : ai_kn ad b [0, 0, k, z, mm, pp, s, l, y.toInt] ws2 [(50, 4 + t + pg, (1, 3, 0, 0)), (50, 8 + t + pg, (1, 4, 0, 0))] := kc (v2.kn (n := 3) (t := z) rfl (by omega)) (kc (v3.kn (n := 4) (t := mm) rfl (by omega)) k0)
    cases sl with
    | true =>
      rw [if_pos rfl] at es
      refine hsum (st := (6, [(0, (0, 49, 0, 0)), (1, (1, 0, 0, (pg : Int))), (2, (1, 0, 0, (t : Int))), (3, (1, 0, 0, 1))], [(1, 8, 0, 0)], [(0, 0, false, 0, 0), (0, 2555, false, 1, 0), (0, 3, false, 2, 0), (1, 99, false, 3, 0), (0, 99, false, 4, 0), (0, 99, false, 5, 0), (0, 20, false, 6, 0), (0, 999, false, 7, 0), (0, 20, false, 8, 0)], [(50, 4 + t + pg, (1, 3, 0, 0)), (50, 8 + t + pg, (1, 4, 0, 0))], [])) (po_at po_2b hg0 ht) rfl C (r := [0, 0, k, z, mm, pp, s, l, y.toInt]) ⟨en_mk (by simp only [en_b, and_true]; omega) rfl, sb0, ⟨rfl, Or.inl ⟨rfl, a, ha, rfl⟩, rfl, int_dv (z := 0) rfl (by omega), rfl, int_dv (z := 0) rfl (by omega), rfl, int_dv (z := 0) rfl (by omega), trivial⟩, ⟨int_dv (z := y.toInt) rfl (by omega), trivial⟩, hw2, kn2, fun _ _ _ _ h => h, fun h => by cases h⟩ (fun x hx r' lv' sk' ws3 hx' hb hl hs hlo hsk hw3 hv' hf3 _ => ?_)
      have hx9 := List.mem_singleton.mp hx
      subst hx9
      dsimp only at hlo hsk ⊢
      cases hsk.nil
      obtain ⟨l4_0, rfl, p4_0⟩ := lo_ref ha hlo
      obtain ⟨up, l4_1, rfl, d_up, p4_1⟩ := lo_int rfl p4_0
      obtain ⟨ut, l4_2, rfl, d_ut, p4_2⟩ := lo_int rfl p4_1
      obtain ⟨yy, l4_3, rfl, d_yy, p4_3⟩ := lo_int rfl p4_2
      obtain ⟨ww, l4_4, rfl, d_ww, p4_4⟩ := lo_int rfl p4_3
      cases lo_nil p4_4
      rw [vn_at hx' (n := 0) (z := 0) rfl] at d_up
      rw [vn_at hx' (n := 0) (z := 0) rfl] at d_ut
      rw [vn_at hx' (n := 8) (z := y.toInt) rfl] at d_yy
      rw [vn_at hx' (n := 0) (z := 0) rfl] at d_ww
      have e_up : zp = up := Int32.toInt_inj.mp (by omega)
      subst e_up
      have e_ut : zt = ut := Int32.toInt_inj.mp (by omega)
      subst e_ut
      exact k3 ws3 yy ww hw3 ((hf1.tr hf2).tr hf3) (by omega) (by omega) (by omega) (by rw [if_pos rfl]; omega)
    | false =>
      rw [if_neg (by decide)] at es
      refine hsum (st := (6, [(0, (0, 49, 0, 0)), (1, (1, 0, 0, (pg : Int))), (2, (1, 0, 0, (t : Int))), (3, (1, 0, 0, 0))], [(1, 8, 0, 0)], [(0, 0, false, 0, 0), (0, 2555, false, 1, 0), (0, 3, false, 2, 0), (1, 99, false, 3, 0), (0, 99, false, 4, 0), (0, 99, false, 5, 0), (0, 20, false, 6, 0), (0, 999, false, 7, 0), (0, 20, false, 8, 0)], [(50, 4 + t + pg, (1, 3, 0, 0)), (50, 8 + t + pg, (1, 4, 0, 0))], [])) (po_at po_2a hg0 ht) rfl C (r := [0, 0, k, z, mm, pp, s, l, y.toInt]) ⟨en_mk (by simp only [en_b, and_true]; omega) rfl, sb0, ⟨rfl, Or.inl ⟨rfl, a, ha, rfl⟩, rfl, int_dv (z := 0) rfl (by omega), rfl, int_dv (z := 0) rfl (by omega), rfl, int_dv (z := 0) rfl (by omega), trivial⟩, ⟨int_dv (z := y.toInt) rfl (by omega), trivial⟩, hw2, kn2, fun _ _ _ _ h => h, fun h => by cases h⟩ (fun x hx r' lv' sk' ws3 hx' hb hl hs hlo hsk hw3 hv' hf3 _ => ?_)
      have m3 := nm_x hx' (k := 3) rfl
      have m4 := nm_x hx' (k := 4) rfl
      have m8 := nm_x hx' (k := 8) rfl
      rcases List.mem_cons.mp hx with rfl | hx
      · dsimp only at hlo hsk ⊢
        cases hsk.nil
        obtain ⟨l2_0, rfl, p2_0⟩ := lo_ref ha hlo
        obtain ⟨up, l2_1, rfl, d_up, p2_1⟩ := lo_int rfl p2_0
        obtain ⟨ut, l2_2, rfl, d_ut, p2_2⟩ := lo_int rfl p2_1
        obtain ⟨yy, l2_3, rfl, d_yy, p2_3⟩ := lo_int rfl p2_2
        obtain ⟨ww, l2_4, rfl, d_ww, p2_4⟩ := lo_int rfl p2_3
        cases lo_nil p2_4
        rw [vn_at hx' (n := 0) (z := 0) rfl] at d_up
        rw [vn_at hx' (n := 0) (z := 0) rfl] at d_ut
        rw [vn_at hx' (n := 8) (z := y.toInt) rfl] at d_yy
        unfold vn at d_ww
        dsimp only at d_ww
        have e_up : zp = up := Int32.toInt_inj.mp (by omega)
        subst e_up
        have e_ut : zt = ut := Int32.toInt_inj.mp (by omega)
        subst e_ut
        simp (config := { decide := true }) only [bnd_b, lin_b, lin_q, Nat.reduceAdd, Nat.zero_add, Nat.reduceEqDiff, reduceIte, and_true, Int.add_zero] at hb hl
        exact k3 ws3 yy ww hw3 ((hf1.tr hf2).tr hf3) (by omega) (by omega) (by omega) (by rw [if_neg (by decide)]; omega)
      rcases List.mem_cons.mp hx with rfl | hx
      · dsimp only at hlo hsk ⊢
        cases hsk.nil
        obtain ⟨l2_0, rfl, p2_0⟩ := lo_ref ha hlo
        obtain ⟨up, l2_1, rfl, d_up, p2_1⟩ := lo_int rfl p2_0
        obtain ⟨ut, l2_2, rfl, d_ut, p2_2⟩ := lo_int rfl p2_1
        obtain ⟨yy, l2_3, rfl, d_yy, p2_3⟩ := lo_int rfl p2_2
        obtain ⟨ww, l2_4, rfl, d_ww, p2_4⟩ := lo_int rfl p2_3
        cases lo_nil p2_4
        rw [vn_at hx' (n := 0) (z := 0) rfl] at d_up
        rw [vn_at hx' (n := 0) (z := 0) rfl] at d_ut
        rw [vn_at hx' (n := 8) (z := y.toInt) rfl] at d_yy
        unfold vn at d_ww
        dsimp only at d_ww
        have e_up : zp = up := Int32.toInt_inj.mp (by omega)
        subst e_up
        have e_ut : zt = ut := Int32.toInt_inj.mp (by omega)
        subst e_ut
        simp (config := { decide := true }) only [bnd_b, lin_b, lin_q, Nat.reduceAdd, Nat.zero_add, Nat.reduceEqDiff, reduceIte, and_true, Int.add_zero] at hb hl
        exact k3 ws3 yy ww hw3 ((hf1.tr hf2).tr hf3) (by omega) (by omega) (by omega) (by rw [if_neg (by decide)]; omega)
      cases hx
end POA
theorem mp_c : ((List.range 4).all fun t => (ai_ex (hk []) 200 131 tb_m131 9 [23] (0, [(0, (0, 49, 0, 0)), (1, (1, 0, 0, (t : Int)))], [], [(0, 0, false, 0, 0), (0, 2555, false, 1, 0), (1, 99, false, 2, 0), (0, 99, false, 3, 0), (0, 20, false, 4, 0), ((t : Int) + 1, 4, false, 5, 0)], [(50, 4 + t, (1, 2, 0, 0)), (50, 8 + t, (1, 3, 0, 0)), (50, 16, (1, 4, 0, -10)), (49, 1, (1, 5, 0, 0))], [(5, 2, 3, 2, 0)])).any fun xs => xs.all fun x => ([(31, [], [(1, 0, 0, -2)], [], [(0, 0, false, 0, 0), (0, 2555, false, 1, 0), (1, 99, false, 2, 0), (0, 99, false, 3, 0), (0, 0, false, 4, 0), ((t : Int) + 1, 4, false, 5, 0)], [(140, 3, 2, 3, 0), (5, 2, 3, 2, 0)]), (23, [], [(1, 0, 0, 0), (1, 0, 0, (t : Int)), (1, 0, 0, 0), (0, 49, 0, 0)], [], [(0, 0, false, 0, 0), (0, 2555, false, 1, 0), (1, 99, false, 2, 0), (0, 99, false, 3, 0), (1, 20, false, 4, 0), ((t : Int) + 1, 4, false, 5, 0)], [(140, 3, 2, 3, 0), (5, 2, 3, 2, 0)]), (31, [], [(1, 0, 0, -2)], [], [(0, 0, false, 0, 0), (0, 2555, false, 1, 0), (1, 99, false, 2, 0), (1, 99, false, 3, 0), (0, 20, false, 4, 0), ((t : Int) + 1, 4, false, 5, 0)], [(4, 3, 2, 3, 1), (5, 3, 2, 3, 0), (5, 2, 3, 2, 0)])] : List sm_t).any fun y => sm_is [] x y) = true := by decide +kernel
theorem mp_e : ((ai_ex (hk []) 20 131 tb_m131 9 [] (26, [], [(1, 2, 0, 0)], [(0, 0, false, 0, 0), (0, 2555, false, 1, 0), (0, 99, false, 2, 0)], [], [])).any fun xs => xs.all fun x => ([(31, [], [(1, 2, 0, 0)], [], [(0, 0, false, 0, 0), (0, 2555, false, 1, 0), (0, 99, false, 2, 0)], [])] : List sm_t).any fun y => sm_is [] x y) = true := by decide +kernel
section PLM
variable {ad : List Nat} {p : Program} {l : Launch} {e : Env} {R : Room} {s : State} {m : MethodId} {args : Array Value} {below : List Frame} {meth : Method} {c : Code} {D : va_G} {tys : ai_ty} {A : Nat → Prop} {b L : Nat} {sx : Nat → Int32} {cells slots : Nat} {Q : State → Prop}
theorem mp_all {n a : Nat} {E : Nat → Int} {z : Int32} {ws : va_W} (C : ai_cx tb_m131 9 p R s m args c D tys A b L sx cells slots) (hw : ai_wd tb_TY ad tys ws) (ha : ad[49]? = some a) (hn4 : n ≤ 4) (hn : vi ws 49 1 n) (hc : pev ws 0 n E) (hg : good n E)
    (k : ∀ (pcr : Nat) (ws' : va_W) (z' : Int32) (lv' : List (Nat × Value)), pcr ∈ [9, 31] → mp_P ad tys n E z.toInt ws ws' z' → hG tb_m131 p l e R s m args below meth c D A cells slots Q pcr lv' [.int z'] ws') : hG tb_m131 p l e R s m args below meth c D A cells slots Q 0 [(0, .ref a), (1, .int z)] [] ws := by
  have hz1 := Int32.le_toInt z
  have hz2 := Int32.toInt_lt z
  by_cases hin : 0 ≤ z.toInt ∧ z.toInt < n
  · obtain ⟨t, ht⟩ : ∃ t : Nat, z.toInt = (t : Int) := ⟨z.toInt.toNat, by omega⟩
    have htn : t < n := by omega
    obtain ⟨v1, v2, v3, v4⟩ := hc.1 t htn
    obtain ⟨b1, b2, b3, b4⟩ := hg.1 t htn
    obtain ⟨b5, b6⟩ := hg.2
    have htt : z.toInt.toNat = t := by omega
    have n0 : ∀ {u v : va_W} {Wx : List (Nat × Nat × Nat)}, ai_fr [] u v → ai_fr Wx u v := fun h => wsub_ok (V := []) (by rfl) h
    have sbq : ai_sb ws [0, 0, E (4 + t), E (8 + t), E 16, (n : Int)] [(5, 2, 3, 2, 0)] := fun q hq => by
      rw [List.mem_singleton.mp hq]
      refine ⟨E (4 + t), E (8 + t), E (4 + t), rfl, rfl, rfl, fun h0 => ?_, fun h0 => ?_, fun h0 => ?_, fun h0 => ?_, fun h0 => ?_, fun h0 => ?_⟩
      all_goals dsimp only at h0 ⊢
      all_goals omega
    have no : ∀ (ws' : va_W) (i : Int32) (lv' : List (Nat × Value)), ai_wd tb_TY ad tys ws' → ai_fr [] ws ws' → i.toInt = -2 → ¬ (1 ≤ E 16 ∧ E (8 + t) < E (4 + t)) → hG tb_m131 p l e R s m args below meth c D A cells slots Q 31 lv' [.int i] ws' := fun ws' i lv' hw' hf hi hno => k 31 ws' i lv' (by decide) ⟨hw', by
      rw [if_pos hin, htt]
      have e1 : ev_pl E t = E := by
        unfold ev_pl
        rw [if_neg hno]
      refine ⟨n0 hf, ?_, ?_⟩
      · rw [e1]
        exact hc.fr hn4 hf (fun _ _ => rfl)
      · unfold ev_pr
        rw [if_neg hno]
        exact hi⟩
    refine hsum (st := (0, [(0, (0, 49, 0, 0)), (1, (1, 0, 0, (t : Int)))], [], [(0, 0, false, 0, 0), (0, 2555, false, 1, 0), (1, 99, false, 2, 0), (0, 99, false, 3, 0), (0, 20, false, 4, 0), ((t : Int) + 1, 4, false, 5, 0)], [(50, 4 + t, (1, 2, 0, 0)), (50, 8 + t, (1, 3, 0, 0)), (50, 16, (1, 4, 0, -10)), (49, 1, (1, 5, 0, 0))], [(5, 2, 3, 2, 0)])) (List.all_eq_true.mp mp_c t (List.mem_range.mpr (by omega))) rfl C (r := [0, 0, E (4 + t), E (8 + t), E 16, (n : Int)]) ⟨en_mk (by simp only [en_b, and_true]; omega) rfl, sbq, ⟨rfl, Or.inl ⟨rfl, a, ha, rfl⟩, rfl, int_dv (z := 0) rfl (by omega), trivial⟩, trivial, hw, kc (v2.kn (n := 2) (t := E (4 + t)) rfl (by omega)) (kc (v3.kn (n := 3) (t := E (8 + t)) rfl (by omega)) (kc (hc.2.1.kn (n := 4) (t := E 16) rfl (by omega)) (kc (hn.kn (n := 5) (t := (n : Int)) rfl (by omega)) k0))), fun _ _ _ _ h => h, fun h => by cases h⟩ (fun x hx r' lv' sk' ws1 hx' hb hl hs hlo hsk hw1 hv' hf1 _ => ?_)
    have m2 := nm_x hx' (k := 2) rfl
    have m3 := nm_x hx' (k := 3) rfl
    have m4 := nm_x hx' (k := 4) rfl
    rcases List.mem_cons.mp hx with rfl | hx
    · obtain ⟨i, rfl, hi⟩ := sk1 rfl hsk
      rw [vn_at hx' (n := 0) (z := 0) rfl] at hi
      simp (config := { decide := true }) only [bnd_b, lin_b, lin_q, Nat.reduceAdd, Nat.zero_add, Nat.reduceEqDiff, reduceIte, and_true, Int.add_zero] at hb hl
      exact no ws1 i lv' hw1 hf1 (by omega) (by omega)
    rcases List.mem_cons.mp hx with rfl | hx
    · dsimp only at hsk ⊢
      obtain ⟨x0, s0, rfl, d0, g3⟩ := hsk.cons
      obtain ⟨x1, s1, rfl, d1, g4⟩ := g3.cons
      obtain ⟨x2, s2, rfl, d2, g5⟩ := g4.cons
      obtain ⟨x3, s3, rfl, d3, g6⟩ := g5.cons
      cases g6.nil
      obtain ⟨u0, rfl, w0⟩ := dvn d0 (hx'.at (k := 0) rfl)
      obtain ⟨u1, rfl, w1⟩ := dvn d1 (hx'.at (k := 0) rfl)
      obtain ⟨u2, rfl, w2⟩ := dvn d2 (hx'.at (k := 0) rfl)
      have f3 := ref_of49 ha d3
      subst f3
      simp (config := { decide := true }) only [bnd_b, lin_b, lin_q, Nat.reduceAdd, Nat.zero_add, Nat.reduceEqDiff, reduceIte, and_true, Int.add_zero] at hb hl
      have hyes : 1 ≤ E 16 ∧ E (8 + t) < E (4 + t) := by omega
      refine hcallI (q := (167, 0, 128, 3, 6)) (M' := tb_m128) (cl := 49) (a := a) (As := [.int u2, .int u1, .int u0]) (rest := []) (rets := [178]) (P := fun w i => po_P ad tys 0 t false (E t) (E (4 + t)) (E (8 + t)) (E (12 + t)) (E 16) (E 17) ws1 w i) C (by decide) (tv_m131.1.1.1 (23, .invokevirtual 167, 3) (List.mem_of_getElem? (i := 15) rfl)) (tv_m131.2 _ (List.mem_of_getElem? (i := 19) rfl)) rfl rfl rfl rfl (by decide) (Nat.le_of_ble_eq_true rfl) rfl rfl rfl rfl hw1 ha (by decide) ?_ ?_ ?_
      · intro pcr hp
        rw [List.mem_singleton.mp hp]
        exact tv_m128.1.1.1 (178, .ireturn, 1) (List.mem_of_getElem? (i := 114) rfl)
      · intro p2 e2 R2 s2 m2 args2 below2 meth2 c2 Q2 C2 kk2
        exact po_all (sl := false) (mm_cx (by decide) C2) (Or.inl rfl) (by omega) ha (by omega) (by omega) (by rw [if_neg (by decide)]; omega) ⟨b1, b2, b3, b4, b5, b6⟩ (by omega) hw1 ⟨v1.fr hf1 rfl, v2.fr hf1 rfl, v3.fr hf1 rfl, v4.fr hf1 rfl, hc.2.1.fr hf1 rfl, hc.2.2.fr hf1 rfl⟩ (fun w i lv2 hP => kk2 178 w i lv2 (by decide) hP)
      · intro ws2 i hP
        obtain ⟨hw2, hf2, ei, q1, q2, q3, q4⟩ := hP
        rw [if_neg (by decide)] at ei
        have bi : 0 ≤ i.toInt ∧ i.toInt ≤ 99 := by
          have := yl_rg (k := E t) (s := E 16) (p := E (12 + t)) b5.1 b5.2 b4.1
          omega
        have hf2' : ai_fr (mp_W t) ws1 ws2 := hf2
        refine hG_sub (lv2 := []) (fun q hq => by cases hq) ?_
        refine hsum (st := (26, [], [(1, 2, 0, 0)], [(0, 0, false, 0, 0), (0, 2555, false, 1, 0), (0, 99, false, 2, 0)], [], [])) mp_e rfl C (r := [0, 0, i.toInt]) ⟨en_mk (by simp only [en_b, and_true]; omega) rfl, sb0, trivial, ⟨int_dv (z := i.toInt) rfl (by omega), trivial⟩, hw2, k0, fun _ _ _ _ h => h, fun h => by cases h⟩ (fun x hx r3 lv3 sk3 ws3 hx3 hb3 hl3 hs3 hlo3 hsk3 hw3 hv3 hf3 _ => ?_)
        have hx9 := List.mem_singleton.mp hx
        subst hx9
        obtain ⟨i2, rfl, hi2⟩ := sk1 rfl hsk3
        rw [vn_at hx3 (n := 2) (z := i.toInt) rfl] at hi2
        have hfx : ai_fr (mp_W t) ws ws3 := ((n0 hf1).tr hf2').tr (n0 hf3)
        obtain ⟨a1, a2, a3, a4⟩ := ev_pull_at (E := E) (t := t) (by omega)
        have e1 : ev_pl E t = ev_pull E t := by
          unfold ev_pl
          rw [if_pos hyes]
        refine k 31 ws3 i2 lv3 (by decide) ⟨hw3, ?_⟩
        rw [if_pos hin, htt]
        refine ⟨hfx, pev_pl hn4 htn hc hfx (fun j h1 h2 h3 => wr_no fun q hq => ?_) ?_ ?_ ?_ ?_, ?_⟩
        · unfold mp_W at hq
          simp only [List.mem_cons, List.not_mem_nil, or_false] at hq
          rcases hq with rfl | rfl | rfl <;> dsimp only <;> omega
        · rw [e1, a1]
          exact (q1.fr hf3 rfl).eq (by omega)
        · rw [e1, a2]
          exact q2.fr hf3 rfl
        · rw [e1, a4]
          exact q4.fr hf3 rfl
        · rw [e1, a3]
          exact q3.fr hf3 rfl
        · unfold ev_pr
          rw [if_pos hyes]
          omega
    rcases List.mem_cons.mp hx with rfl | hx
    · obtain ⟨i, rfl, hi⟩ := sk1 rfl hsk
      rw [vn_at hx' (n := 0) (z := 0) rfl] at hi
      simp (config := { decide := true }) only [bnd_b, lin_b, lin_q, Nat.reduceAdd, Nat.zero_add, Nat.reduceEqDiff, reduceIte, and_true, Int.add_zero] at hb hl
      exact no ws1 i lv' hw1 hf1 (by omega) (by omega)
    · cases hx
  · have fin : ∀ {st : ai_s} {r : List Int}, ((ai_ex (hk []) 200 131 tb_m131 9 [] st).any fun xs => xs.all (pl_bad 9)) = true → st.1 = 0 → r[0]? = some 0 → ai_gm tb_TY [] ws ad b L sx tys tb_m131.2.2.2.2.1 r st [(0, .ref a), (1, .int z)] [] ws → hG tb_m131 p l e R s m args below meth c D A cells slots Q 0 [(0, .ref a), (1, .int z)] [] ws := fun {st r} hrun h0 hr0 gm => by
      obtain ⟨xs, y1, y2⟩ := ai_anyE hrun
      suffices key : hG tb_m131 p l e R s m args below meth c D A cells slots Q st.1 [(0, .ref a), (1, .int z)] [] ws by
        rw [h0] at key
        exact key
      refine hseg (st := st) y1 rfl C gm (fun x hx r' lv' sk' ws' hx' g' => ?_)
      obtain ⟨g1, g2, g3, g4, g5, g6, g7, g8⟩ := g'
      have hb := List.all_eq_true.mp y2 x hx
      unfold pl_bad at hb
      rw [Bool.and_eq_true, ai_beq, decide_eq_true_eq] at hb
      rw [hb.2] at g4
      obtain ⟨i, rfl, hi⟩ := sk1 rfl g4
      rw [hb.1]
      refine k 9 ws' i lv' (by decide) ⟨g5, ?_⟩
      rw [if_neg hin]
      refine ⟨g7, ?_⟩
      rw [hi]
      unfold vn
      rw [nm_x hx' hr0]
      rfl
    by_cases hneg : z.toInt < 0
    · exact fin (r := [0, 0, z.toInt]) mp_o1 rfl rfl ⟨en_mk (by simp only [pl_o1, en_b, and_true]; omega) rfl, sb0, ⟨rfl, Or.inl ⟨rfl, a, ha, rfl⟩, rfl, int_dv (z := z.toInt) rfl (by omega), trivial⟩, trivial, hw, k0, fun _ _ _ _ h => h, fun h => by cases h⟩
    · exact fin (r := [0, 0, z.toInt, (n : Int)]) mp_o2 rfl rfl ⟨en_mk (by simp only [pl_o2, en_b, and_true]; omega) rfl, f5 (za := z.toInt) (zb := (n : Int)) rfl rfl (by omega), ⟨rfl, Or.inl ⟨rfl, a, ha, rfl⟩, rfl, int_dv (z := z.toInt) rfl (by omega), trivial⟩, trivial, hw, kc (hn.kn (n := 3) (t := (n : Int)) rfl (by omega)) k0, fun _ _ _ _ h => h, fun h => by cases h⟩
end PLM
