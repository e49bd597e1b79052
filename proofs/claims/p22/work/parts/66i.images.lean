/-! keep, back: contracts, and in the law -/
def kb_e : List ai_e := [(0, 0, false, 0, 0), (0, 2555, false, 1, 0)]
def kb_lo (cl k : Nat) : List (Nat × ai_v) := [(0, (0, cl, 0, 0)), (1, (1, 0, 0, (k : Int)))]
noncomputable def kb_2 (f : Nat → Nat → Bool) : Bool := (List.range 2).all fun k => (List.range 2).all fun v => f k v
theorem kb_at {f : Nat → Nat → Bool} (h : kb_2 f = true) {k v : Nat} (hk : k < 2) (hv : v < 2) : f k v = true := List.all_eq_true.mp (List.all_eq_true.mp h k (List.mem_range.mpr hk)) v (List.mem_range.mpr hv)
/-- keep of the class -/
theorem ck_1 : kb_2 (fun k v => (ai_ex (hk []) 100 86 tb_m86 10 [35] (0, kb_lo 0 k, [], kb_e, [(25, k, (1, 0, 0, (v : Int)))], [])).any fun xs => xs.all fun x => ([(35, [(0, (0, 0, 0, 0)), (1, (1, 0, 0, (k : Int))), (2, (1, 0, 0, (v : Int)))], [(0, 1, 0, 0), (0, 13 + 6 * k, 0, 0)], [], kb_e, [])] : List sm_t).any fun t => sm_is [] x t) = true := by decide +kernel
theorem ck_2 : kb_2 (fun k v => (ai_ex (hk [(25, k, k + 1)]) 100 86 tb_m86 10 [] (38, [(0, (0, 0, 0, 0)), (1, (1, 0, 0, (k : Int))), (2, (1, 0, 0, (v : Int)))], [], kb_e, [], [])).any fun xs => xs.all fun x => ([(46, [], [(1, 0, 0, (v : Int))], [(1, 0, 0, 1)], kb_e, [])] : List sm_t).any fun t => sm_is [(25, k)] x t) = true := by decide +kernel
theorem mk_1 : kb_2 (fun k _ => (ai_ex (hk []) 100 162 tb_m162 10 [20] (0, kb_lo 49 k, [], kb_e, [], [])).any fun xs => xs.all fun x => ([(20, kb_lo 49 k, [(1, 0, 0, 27 + 27 * (k : Int)), (1, 0, 0, 0), (0, 49, 0, 0)], [], kb_e, [])] : List sm_t).any fun t => sm_is [] x t) = true := by decide +kernel
theorem mk_2 : kb_2 (fun k v => (ai_ex (hk [(56, k, k + 1)]) 100 162 tb_m162 10 [] (23, kb_lo 49 k, [], kb_e, [(56, k, (1, 0, 0, (v : Int)))], [])).any fun xs => xs.all fun x => ([(46, [], [(1, 0, 0, (v : Int))], [(1, 0, 0, 1)], kb_e, [])] : List sm_t).any fun t => sm_is [(56, k)] x t) = true := by decide +kernel
/-- back -/
theorem cb_0 : kb_2 (fun k _ => (ai_ex (hk []) 100 87 tb_m87 10 [] (0, kb_lo 0 k, [], kb_e, [(25, k, (1, 0, 0, 0))], [])).any fun xs => xs.all fun x => ([(22, [], [(1, 0, 0, -2)], [], kb_e, [])] : List sm_t).any fun t => sm_is [] x t) = true := by decide +kernel
theorem cb_1 : kb_2 (fun k _ => (ai_ex (hk []) 100 87 tb_m87 10 [32] (0, kb_lo 0 k, [], kb_e, [(25, k, (1, 0, 0, 1))], [])).any fun xs => xs.all fun x => ([(32, kb_lo 0 k, [(0, 13 + 6 * k, 0, 0), (0, 1, 0, 0)], [], kb_e, [])] : List sm_t).any fun t => sm_is [] x t) = true := by decide +kernel
theorem cb_2 : kb_2 (fun k _ => (ai_ex (hk []) 100 87 tb_m87 10 [] (35, kb_lo 0 k, [], kb_e ++ [(-2147483648, 2147483647, false, 2, 0)], [(1, 2, (1, 2, 0, 0))], [])).any fun xs => xs.all fun x => ([(42, [], [(1, 2, 0, 0)], [], kb_e ++ [(-2147483648, 2147483647, false, 2, 0)], [])] : List sm_t).any fun t => sm_is [] x t) = true := by decide +kernel
theorem mb_0 : kb_2 (fun k _ => (ai_ex (hk []) 100 163 tb_m163 10 [] (0, kb_lo 49 k, [], kb_e, [(56, k, (1, 0, 0, 0))], [])).any fun xs => xs.all fun x => ([(23, [], [(1, 0, 0, -2)], [], kb_e, [])] : List sm_t).any fun t => sm_is [] x t) = true := by decide +kernel
theorem mb_1 : kb_2 (fun k _ => (ai_ex (hk []) 100 163 tb_m163 10 [32] (0, kb_lo 49 k, [], kb_e, [(56, k, (1, 0, 0, 1))], [])).any fun xs => xs.all fun x => ([(32, kb_lo 49 k, [(1, 0, 0, 0), (1, 0, 0, 27 + 27 * (k : Int)), (0, 49, 0, 0)], [], kb_e, [])] : List sm_t).any fun t => sm_is [] x t) = true := by decide +kernel
theorem mb_2 : kb_2 (fun k _ => (ai_ex (hk []) 100 163 tb_m163 10 [] (35, kb_lo 49 k, [], kb_e ++ [(-2147483648, 2147483647, false, 2, 0)], [(50, 17, (1, 2, 0, 0))], [])).any fun xs => xs.all fun x => ([(42, [], [(1, 2, 0, 0)], [], kb_e ++ [(-2147483648, 2147483647, false, 2, 0)], [])] : List sm_t).any fun t => sm_is [] x t) = true := by decide +kernel
def kb_n (cl : Nat) (lo hi : Int) : ai_s := (0, [(0, (0, cl, 0, 0)), (1, (1, 2, 0, 0))], [], [(0, 0, false, 0, 0), (0, 2555, false, 1, 0), (lo, hi, false, 2, 0)], [], [])
theorem ck_n : (((ai_ex (hk []) 60 86 tb_m86 10 [35] (kb_n 0 (-2147483648) (-1))).any fun xs => xs.all (pl_bad 10)) && ((ai_ex (hk []) 60 86 tb_m86 10 [35] (kb_n 0 2 2147483647)).any fun xs => xs.all (pl_bad 10))) = true := by decide +kernel
theorem cb_n : (((ai_ex (hk []) 60 87 tb_m87 10 [35] (kb_n 0 (-2147483648) (-1))).any fun xs => xs.all (pl_bad 10)) && ((ai_ex (hk []) 60 87 tb_m87 10 [35] (kb_n 0 2 2147483647)).any fun xs => xs.all (pl_bad 10))) = true := by decide +kernel
theorem mk_n : (((ai_ex (hk []) 60 162 tb_m162 10 [35] (kb_n 49 (-2147483648) (-1))).any fun xs => xs.all (pl_bad 11)) && ((ai_ex (hk []) 60 162 tb_m162 10 [35] (kb_n 49 2 2147483647)).any fun xs => xs.all (pl_bad 11))) = true := by decide +kernel
theorem mb_n : (((ai_ex (hk []) 60 163 tb_m163 10 [35] (kb_n 49 (-2147483648) (-1))).any fun xs => xs.all (pl_bad 11)) && ((ai_ex (hk []) 60 163 tb_m163 10 [35] (kb_n 49 2 2147483647)).any fun xs => xs.all (pl_bad 11))) = true := by decide +kernel
section KBI
variable {ad : List Nat} {p : Program} {l : Launch} {e : Env} {R : Room} {s : State} {m : MethodId} {args : Array Value} {below : List Frame} {meth : Method} {c : Code} {D : va_G} {tys : ai_ty} {A : Nat → Prop} {b L : Nat} {sx : Nat → Int32} {cells slots : Nat} {Q : State → Prop}
theorem kb_bad {M : ai_m} {mid cl a pcb : Nat} {z : Int32} {ws : va_W} (hM : tb_MT[mid]? = some M) (hsc : M.2.2.2.2.1 = false) (C : ai_cx M 10 p R s m args c D tys A b L sx cells slots) (hw : ai_wd tb_TY ad tys ws) (ha : ad[cl]? = some a) (hrun : (((ai_ex (hk []) 60 mid M 10 [35] (kb_n cl (-2147483648) (-1))).any fun xs => xs.all (pl_bad pcb)) && ((ai_ex (hk []) 60 mid M 10 [35] (kb_n cl 2 2147483647)).any fun xs => xs.all (pl_bad pcb))) = true) (hno : ¬ (0 ≤ z.toInt ∧ z.toInt ≤ 1))
    (k : ∀ (ws' : va_W) (z' : Int32) (lv' : List (Nat × Value)), ai_wd tb_TY ad tys ws' → ai_fr [] ws ws' → z'.toInt = -1 → hG M p l e R s m args below meth c D A cells slots Q pcb lv' [.int z'] ws') : hG M p l e R s m args below meth c D A cells slots Q 0 [(0, .ref a), (1, .int z)] [] ws := by
  obtain ⟨r1, r2⟩ := band hrun
  have bz := ai_irg z
  have fin : ∀ {lo hi : Int}, ((ai_ex (hk []) 60 mid M 10 [35] (kb_n cl lo hi)).any fun xs => xs.all (pl_bad pcb)) = true → lo ≤ z.toInt → z.toInt ≤ hi → hG M p l e R s m args below meth c D A cells slots Q 0 [(0, .ref a), (1, .int z)] [] ws := fun {lo hi} hr h1 h2 => by
    obtain ⟨xs, y1, y2⟩ := ai_anyE hr
    refine hseg (st := kb_n cl lo hi) (r := [0, 0, z.toInt]) y1 hM C ⟨en_mk (by simp only [kb_n, en_b, and_true]; omega) rfl, sb0, ⟨rfl, Or.inl ⟨rfl, a, ha, rfl⟩, rfl, int_dv (z := z.toInt) rfl (by omega), trivial⟩, trivial, hw, k0, fun _ _ _ _ h => h, fun h => by rw [hsc] at h; cases h⟩ (fun x hx r' lv' sk' ws' hx' g' => ?_)
    obtain ⟨g1, g2, g3, g4, g5, g6, g7, g8⟩ := g'
    have hb := List.all_eq_true.mp y2 x hx
    unfold pl_bad at hb
    rw [Bool.and_eq_true, ai_beq, decide_eq_true_eq] at hb
    rw [hb.2] at g4
    obtain ⟨i, rfl, hi⟩ := sk1 rfl g4
    rw [hb.1]
    refine k ws' i lv' g5 g7 ?_
    rw [hi]
    unfold vn
    rw [nm_x hx' (k := 0) rfl]
    rfl
  by_cases h : z.toInt < 0
  · exact fin r1 (by omega) (by omega)
  · exact fin r2 (by omega) (by omega)
theorem kb_ok : ai_ok ([0, 0] : List Int) kb_e := en_mk (by simp only [kb_e, en_b, and_true]; omega) rfl
theorem kb_l2 {cl a k : Nat} {z : Int32} (ha : ad[cl]? = some a) (hz : z.toInt = k) : ai_lo ad b [0, 0] (kb_lo cl k) [(0, .ref a), (1, .int z)] := ⟨rfl, Or.inl ⟨rfl, a, ha, rfl⟩, rfl, int_dv (z := 0) rfl (by omega), trivial⟩
end KBI
