/-! the trial evening: whether a pull can be, a pull -/
def pa_S : List sm_t := [
  (94, [], [(1, 15, 0, 0)], [(1, 12, 0, 0), (1, 13, 0, 99), (1, 7, 0, 0), (1, 6, 0, -1)], [(0, 0, false, 0, 0), (0, 2555, false, 1, 0), (3, 3, false, 2, 0), (1, 99, false, 3, 0), (0, 99, false, 4, 0), (0, 99, false, 5, 0), (1, 20, false, 6, 0), (0, 999, false, 7, 0), (0, 198, false, 8, 0), (-197, 20, false, 9, 0), (0, 20, false, 10, 0), (0, 119, false, 11, 0), (0, 99, false, 12, 0), (-98, 0, false, 13, 0), (1, 40, false, 14, 0), (-99, 99, false, 15, 0)], [(0, 12, 4, 15, 0), (5, 14, 6, 14, 0), (502, 10, 10, 14, 0), (141, 0, 5, 13, -98), (141, 3, 11, 12, 0), (1, 4, 10, 11, 0), (142, 0, 9, 10, 0), (0, 6, 8, 9, 0), (502, 5, 5, 8, 0)]),
  (94, [], [(1, 16, 0, 0)], [(1, 12, 0, 0), (1, 13, 0, 99), (1, 15, 0, 999), (1, 6, 0, -1)], [(0, 0, false, 0, 0), (0, 2555, false, 1, 0), (3, 3, false, 2, 0), (1, 99, false, 3, 0), (0, 99, false, 4, 0), (0, 99, false, 5, 0), (1, 20, false, 6, 0), (0, 999, false, 7, 0), (0, 198, false, 8, 0), (-197, 20, false, 9, 0), (0, 20, false, 10, 0), (0, 119, false, 11, 0), (0, 99, false, 12, 0), (-98, 0, false, 13, 0), (0, 19, false, 14, 0), (-998, 0, false, 15, 0), (-99, 99, false, 16, 0)], [(0, 12, 4, 16, 0), (141, 0, 7, 15, -998), (4, 14, 6, 14, 0), (502, 10, 10, 14, 0), (141, 0, 5, 13, -98), (141, 3, 11, 12, 0), (1, 4, 10, 11, 0), (142, 0, 9, 10, 0), (0, 6, 8, 9, 0), (502, 5, 5, 8, 0)]),
  (94, [], [(1, 12, 0, 0)], [(1, 9, 0, 0), (1, 10, 0, 99), (1, 7, 0, 0), (1, 6, 0, -1)], [(0, 0, false, 0, 0), (0, 2555, false, 1, 0), (0, 0, false, 2, 0), (1, 99, false, 3, 0), (0, 99, false, 4, 0), (0, 99, false, 5, 0), (1, 20, false, 6, 0), (0, 999, false, 7, 0), (1, 119, false, 8, 0), (1, 99, false, 9, 0), (-98, 0, false, 10, 0), (2, 40, false, 11, 0), (-98, 99, false, 12, 0)], [(0, 9, 4, 12, 0), (5, 11, 6, 11, 0), (502, 6, 6, 11, 0), (141, 0, 5, 10, -98), (141, 3, 8, 9, 0), (1, 4, 6, 8, 0)]),
  (94, [], [(1, 13, 0, 0)], [(1, 9, 0, 0), (1, 10, 0, 99), (1, 12, 0, 999), (1, 6, 0, -1)], [(0, 0, false, 0, 0), (0, 2555, false, 1, 0), (0, 0, false, 2, 0), (1, 99, false, 3, 0), (0, 99, false, 4, 0), (0, 99, false, 5, 0), (3, 20, false, 6, 0), (0, 999, false, 7, 0), (1, 119, false, 8, 0), (1, 99, false, 9, 0), (-98, 0, false, 10, 0), (2, 19, false, 11, 0), (-998, 0, false, 12, 0), (-98, 99, false, 13, 0)], [(0, 9, 4, 13, 0), (141, 0, 7, 12, -998), (4, 11, 6, 11, 0), (502, 6, 6, 11, 0), (141, 0, 5, 10, -98), (141, 3, 8, 9, 0), (1, 4, 6, 8, 0)]),
  (94, [], [(1, 13, 0, 0)], [(1, 10, 0, 0), (1, 11, 0, 99), (1, 7, 0, 0), (1, 6, 0, -1)], [(0, 0, false, 0, 0), (0, 2555, false, 1, 0), (1, 1, false, 2, 0), (1, 99, false, 3, 0), (0, 99, false, 4, 0), (0, 99, false, 5, 0), (1, 20, false, 6, 0), (0, 999, false, 7, 0), (0, 10, false, 8, 0), (0, 109, false, 9, 0), (0, 99, false, 10, 0), (-98, 0, false, 11, 0), (1, 20, false, 12, 0), (-99, 99, false, 13, 0)], [(0, 10, 4, 13, 0), (5, 12, 6, 12, 0), (502, 8, 8, 12, 0), (141, 0, 5, 11, -98), (141, 3, 9, 10, 0), (1, 4, 8, 9, 0), (152, 6, 6, 8, 0)]),
  (94, [], [(1, 14, 0, 0)], [(1, 10, 0, 0), (1, 11, 0, 99), (1, 13, 0, 999), (1, 6, 0, -1)], [(0, 0, false, 0, 0), (0, 2555, false, 1, 0), (1, 1, false, 2, 0), (1, 99, false, 3, 0), (0, 99, false, 4, 0), (0, 99, false, 5, 0), (1, 20, false, 6, 0), (0, 999, false, 7, 0), (0, 10, false, 8, 0), (0, 109, false, 9, 0), (0, 99, false, 10, 0), (-98, 0, false, 11, 0), (0, 19, false, 12, 0), (-998, 0, false, 13, 0), (-99, 99, false, 14, 0)], [(0, 10, 4, 14, 0), (141, 0, 7, 13, -998), (4, 12, 6, 12, 0), (502, 8, 8, 12, 0), (141, 0, 5, 11, -98), (141, 3, 9, 10, 0), (1, 4, 8, 9, 0), (152, 6, 6, 8, 0)]),
  (94, [], [(1, 14, 0, 0)], [(1, 11, 0, 0), (1, 12, 0, 99), (1, 7, 0, 0), (1, 6, 0, -1)], [(0, 0, false, 0, 0), (0, 2555, false, 1, 0), (2, 2, false, 2, 0), (1, 99, false, 3, 0), (0, 99, false, 4, 0), (0, 99, false, 5, 0), (1, 4, false, 6, 0), (0, 999, false, 7, 0), (0, 10, false, 8, 0), (0, 2, false, 9, 0), (0, 101, false, 10, 0), (0, 99, false, 11, 0), (-98, 0, false, 12, 0), (1, 4, false, 13, 0), (-99, 99, false, 14, 0)], [(0, 11, 4, 14, 0), (5, 13, 6, 13, 0), (502, 9, 9, 13, 0), (141, 0, 5, 12, -98), (141, 3, 10, 11, 0), (1, 4, 9, 10, 0), (154, 8, 8, 9, 0), (152, 6, 6, 8, 0)]),
  (94, [], [(1, 15, 0, 0)], [(1, 11, 0, 0), (1, 12, 0, 99), (1, 14, 0, 999), (1, 6, 0, -1)], [(0, 0, false, 0, 0), (0, 2555, false, 1, 0), (2, 2, false, 2, 0), (1, 99, false, 3, 0), (0, 99, false, 4, 0), (0, 99, false, 5, 0), (1, 20, false, 6, 0), (0, 999, false, 7, 0), (0, 10, false, 8, 0), (0, 2, false, 9, 0), (0, 101, false, 10, 0), (0, 99, false, 11, 0), (-98, 0, false, 12, 0), (0, 4, false, 13, 0), (-998, 0, false, 14, 0), (-99, 99, false, 15, 0)], [(0, 11, 4, 15, 0), (141, 0, 7, 14, -998), (4, 13, 6, 13, 0), (502, 9, 9, 13, 0), (141, 0, 5, 12, -98), (141, 3, 10, 11, 0), (1, 4, 9, 10, 0), (154, 8, 8, 9, 0), (152, 6, 6, 8, 0)])]
def cc_S (t : Nat) : List sm_t := [
  (29, [], [(1, 0, 0, 0)], [], [(0, 0, false, 0, 0), (0, 2555, false, 1, 0), (1, 99, false, 2, 0), (0, 99, false, 3, 0), (0, 0, false, 4, 0), ((t : Int) + 1, 4, false, 5, 0)], []),
  (29, [], [(1, 0, 0, 1)], [], [(0, 0, false, 0, 0), (0, 2555, false, 1, 0), (1, 99, false, 2, 0), (0, 98, false, 3, 0), (1, 20, false, 4, 0), ((t : Int) + 1, 4, false, 5, 0)], [(4, 3, 2, 3, 0)]),
  (29, [], [(1, 0, 0, 0)], [], [(0, 0, false, 0, 0), (0, 2555, false, 1, 0), (1, 99, false, 2, 0), (1, 99, false, 3, 0), (1, 20, false, 4, 0), ((t : Int) + 1, 4, false, 5, 0)], [(5, 3, 2, 3, 0)])]
set_option maxHeartbeats 4000000 in
theorem pa_core {s : sm_t} (hs : s ∈ pa_S) {r : List Int} (hb : bnd_b r 0 s.2.2.2.2.1) (hl : lin_b r s.2.2.2.2.2) (hmz : nm r 4 < nm r 3) (h0 : nm r 0 = 0) : pl_out 0 r s := by
  unfold pa_S at hs
  rcases List.mem_cons.mp hs with rfl | hs
  · simp (config := { decide := true }) only [bnd_b, lin_b, lin_q, Nat.reduceAdd, Nat.zero_add, Nat.reduceEqDiff, reduceIte, and_true, Int.add_zero] at hb hl
    unfold pl_out vn
    have hy := yl_eq (nm r 2) (nm r 6) (nm r 5)
    show pl_rel _ _ _ _ _ _ _ _ _ _ _
    unfold pl_rel
    generalize yl (nm r 2) (nm r 6) (nm r 5) = y at hy ⊢
    dsimp only
    exact Or.inl ⟨by omega, by omega, by omega, by omega, by omega, by omega, by omega⟩
  rcases List.mem_cons.mp hs with rfl | hs
  · simp (config := { decide := true }) only [bnd_b, lin_b, lin_q, Nat.reduceAdd, Nat.zero_add, Nat.reduceEqDiff, reduceIte, and_true, Int.add_zero] at hb hl
    unfold pl_out vn
    have hy := yl_eq (nm r 2) (nm r 6) (nm r 5)
    show pl_rel _ _ _ _ _ _ _ _ _ _ _
    unfold pl_rel
    generalize yl (nm r 2) (nm r 6) (nm r 5) = y at hy ⊢
    dsimp only
    exact Or.inl ⟨by omega, by omega, by omega, by omega, by omega, by omega, by omega⟩
  rcases List.mem_cons.mp hs with rfl | hs
  · simp (config := { decide := true }) only [bnd_b, lin_b, lin_q, Nat.reduceAdd, Nat.zero_add, Nat.reduceEqDiff, reduceIte, and_true, Int.add_zero] at hb hl
    unfold pl_out vn
    have hy := yl_eq (nm r 2) (nm r 6) (nm r 5)
    show pl_rel _ _ _ _ _ _ _ _ _ _ _
    unfold pl_rel
    generalize yl (nm r 2) (nm r 6) (nm r 5) = y at hy ⊢
    dsimp only
    exact Or.inl ⟨by omega, by omega, by omega, by omega, by omega, by omega, by omega⟩
  rcases List.mem_cons.mp hs with rfl | hs
  · simp (config := { decide := true }) only [bnd_b, lin_b, lin_q, Nat.reduceAdd, Nat.zero_add, Nat.reduceEqDiff, reduceIte, and_true, Int.add_zero] at hb hl
    unfold pl_out vn
    have hy := yl_eq (nm r 2) (nm r 6) (nm r 5)
    show pl_rel _ _ _ _ _ _ _ _ _ _ _
    unfold pl_rel
    generalize yl (nm r 2) (nm r 6) (nm r 5) = y at hy ⊢
    dsimp only
    exact Or.inl ⟨by omega, by omega, by omega, by omega, by omega, by omega, by omega⟩
  rcases List.mem_cons.mp hs with rfl | hs
  · simp (config := { decide := true }) only [bnd_b, lin_b, lin_q, Nat.reduceAdd, Nat.zero_add, Nat.reduceEqDiff, reduceIte, and_true, Int.add_zero] at hb hl
    unfold pl_out vn
    have hy := yl_eq (nm r 2) (nm r 6) (nm r 5)
    show pl_rel _ _ _ _ _ _ _ _ _ _ _
    unfold pl_rel
    generalize yl (nm r 2) (nm r 6) (nm r 5) = y at hy ⊢
    dsimp only
    exact Or.inl ⟨by omega, by omega, by omega, by omega, by omega, by omega, by omega⟩
  rcases List.mem_cons.mp hs with rfl | hs
  · simp (config := { decide := true }) only [bnd_b, lin_b, lin_q, Nat.reduceAdd, Nat.zero_add, Nat.reduceEqDiff, reduceIte, and_true, Int.add_zero] at hb hl
    unfold pl_out vn
    have hy := yl_eq (nm r 2) (nm r 6) (nm r 5)
    show pl_rel _ _ _ _ _ _ _ _ _ _ _
    unfold pl_rel
    generalize yl (nm r 2) (nm r 6) (nm r 5) = y at hy ⊢
    dsimp only
    exact Or.inl ⟨by omega, by omega, by omega, by omega, by omega, by omega, by omega⟩
  rcases List.mem_cons.mp hs with rfl | hs
  · simp (config := { decide := true }) only [bnd_b, lin_b, lin_q, Nat.reduceAdd, Nat.zero_add, Nat.reduceEqDiff, reduceIte, and_true, Int.add_zero] at hb hl
    unfold pl_out vn
    have hy := yl_eq (nm r 2) (nm r 6) (nm r 5)
    show pl_rel _ _ _ _ _ _ _ _ _ _ _
    unfold pl_rel
    generalize yl (nm r 2) (nm r 6) (nm r 5) = y at hy ⊢
    dsimp only
    exact Or.inl ⟨by omega, by omega, by omega, by omega, by omega, by omega, by omega⟩
  rcases List.mem_cons.mp hs with rfl | hs
  · simp (config := { decide := true }) only [bnd_b, lin_b, lin_q, Nat.reduceAdd, Nat.zero_add, Nat.reduceEqDiff, reduceIte, and_true, Int.add_zero] at hb hl
    unfold pl_out vn
    have hy := yl_eq (nm r 2) (nm r 6) (nm r 5)
    show pl_rel _ _ _ _ _ _ _ _ _ _ _
    unfold pl_rel
    generalize yl (nm r 2) (nm r 6) (nm r 5) = y at hy ⊢
    dsimp only
    exact Or.inl ⟨by omega, by omega, by omega, by omega, by omega, by omega, by omega⟩
  · cases hs
def pa_st (t : Nat) : ai_s := (0, [(0, (0, 7, 0, 0)), (1, (1, 0, 0, (t : Int)))], [], [(0, 0, false, 0, 0), (0, 2555, false, 1, 0), (0, 3, false, 2, 0), (1, 99, false, 3, 0), (0, 99, false, 4, 0), (0, 99, false, 5, 0), (1, 20, false, 6, 0), (0, 999, false, 7, 0)], [(8, t, (1, 2, 0, 0)), (9, t, (1, 3, 0, 0)), (10, t, (1, 4, 0, 0)), (11, t, (1, 5, 0, 0)), (7, 1, (1, 6, 0, 0)), (7, 2, (1, 7, 0, 0))], [])
def pa_W (t : Nat) : List (Nat × Nat × Nat) := [(7, 1, 3), (10, t, t + 1), (11, t, t + 1)]
def cc_st (t : Nat) : ai_s := (0, [(0, (0, 7, 0, 0)), (1, (1, 0, 0, (t : Int)))], [], [(0, 0, false, 0, 0), (0, 2555, false, 1, 0), (1, 99, false, 2, 0), (0, 99, false, 3, 0), (0, 20, false, 4, 0), ((t : Int) + 1, 4, false, 5, 0)], [(9, t, (1, 2, 0, 0)), (10, t, (1, 3, 0, 0)), (7, 1, (1, 4, 0, 0)), (7, 0, (1, 5, 0, 0))], [])
noncomputable def pa_r (t : Nat) : Bool := (ai_ex (hk (pa_W t)) 900 13 tb_m13 9 [] (pa_st t)).any fun xs => xs.all fun x => pa_S.any fun s => sm_is [(10, t), (11, t), (7, 2), (7, 1)] x s
noncomputable def cc_r (t : Nat) : Bool := (ai_ex (hk []) 200 12 tb_m12 9 [] (cc_st t)).any fun xs => xs.all fun x => (cc_S t).any fun s => sm_is [] x s
theorem pa_ra : ((List.range 4).all pa_r) = true := by decide +kernel
theorem cc_ra : ((List.range 4).all cc_r) = true := by decide +kernel
def cc_z (x : ai_s) : Bool := Nat.beq x.1 29 && decide (x.2.2.1 = [(1, 0, 0, 0)])
theorem cc_o1 : ((ai_ex (hk []) 200 12 tb_m12 9 [] (pl_o1 7)).any fun xs => xs.all cc_z) = true := by decide +kernel
theorem cc_o2 : ((ai_ex (hk []) 200 12 tb_m12 9 [] (pl_o2 7 7 0)).any fun xs => xs.all cc_z) = true := by decide +kernel
/-- whether a pull at t can be -/
def ev_can (n : Nat) (E : Nat → Int) (t : Int) : Prop := 0 ≤ t ∧ t < n ∧ 1 ≤ E 16 ∧ E (8 + t.toNat) < E (4 + t.toNat)
section TRI
variable {ad : List Nat} {M : ai_m} {d : Nat} {p : Program} {l : Launch} {e : Env} {R : Room} {s : State} {m : MethodId} {args : Array Value} {below : List Frame} {meth : Method} {c : Code} {D : va_G} {tys : ai_ty} {A : Nat → Prop} {b L : Nat} {sx : Nat → Int32} {cells slots : Nat} {Q : State → Prop}
theorem hcallZ {q : ai_l5} {M' : ai_m} {pc cl a : Nat} {t : ai_c} {rets : List Nat} {P : va_W → Int32 → Prop} {ws : va_W} {As rest : List Value} {lv : List (Nat × Value)}
    (C : ai_cx M d p R s m args c D tys A b L sx cells slots) (hd1 : 1 ≤ d) (hdec : decode M.2.1 pc = .ok (.invokevirtual q.1, 3)) (hlok : ai_lok tb_MT M.1.cls q) (hq0 : q.2.1 = 0) (hq1 : q.2.2.2.1 = As.length) (hM' : tb_MT[q.2.2.1]? = some M') (hsc : M'.2.2.2.2.1 = false) (hml : M'.2.2.1 ≤ 17) (hm1 : (lg_sl (.ref a :: As)).length ≤ M'.2.2.1) (hv : M'.2.2.2.1 = some .boolean)
    (ht : tb_TY[cl]? = some t) (t0 : t.1 = 0) (t1 : t.2.1 = q.2.2.2.2) (hw : ai_wd tb_TY ad tys ws) (ha : ad[cl]? = some a) (hrest : (rest.map fun v => v.category).sum ≤ 8)
    (hr : ∀ pcr ∈ rets, decode M'.2.1 pcr = .ok (.ireturn, 1)) (h01 : ∀ ws z, P ws z → z = 0 ∨ z = 1)
    (callee : ∀ {p : Program} {e : Env} {R : Room} {s : State} {m : MethodId} {args : Array Value} {below : List Frame} {meth : Method} {c : Code} {Q : State → Prop}, ai_cx M' (d - 1) p R s m args c D tys A b L sx 0 0 → (∀ (pcr : Nat) (ws' : va_W) (z : Int32) (lv' : List (Nat × Value)), pcr ∈ rets → P ws' z → hG M' p l e R s m args below meth c D A 0 0 Q pcr lv' [.int z] ws') → hG M' p l e R s m args below meth c D A 0 0 Q 0 (lv_args 0 (.ref a :: As)) [] ws)
    (k : ∀ ws' z, P ws' z → hG M p l e R s m args below meth c D A cells slots Q (pc + 3) lv (.int z :: rest) ws') : hG M p l e R s m args below meth c D A cells slots Q pc lv (As.reverse ++ .ref a :: rest) ws := by
  intro H locs ls hP hD hS hl
  obtain ⟨a', e1, w1, w2, w3⟩ := hw.get ht
  cases Option.some.inj (ha.symm.trans w2)
  unfold ai_lok at hlok
  rw [hq0] at hlok
  obtain ⟨M2, rr, m1, m2, m3, m4⟩ := hlok
  rw [hM'] at m1
  cases m1
  obtain ⟨hok, hpl⟩ := (tv_MT M' (List.mem_of_getElem? hM')).1
  have hA : ∀ q, H.size ≤ q → A q := fun q hq => C.2.2.2.2.2.2.2.1 q (Nat.le_trans hS.1 hq)
  have met : Met l M'.1 (ai_ws M') (ai_rm (d - 1)) (va_Pc (.ref a :: As) (fun U => U.heap = H ∧ va_K D vwCl tys U ∧ ai_nj A U)) (hb_Q P D A) 0 0 A := by
    refine Met.ofW (cc := M'.2.1) (maxL := M'.2.2.1) (ret := M'.2.2.2.1) hpl rfl ?_
    intro p e s m args below meth c s₁ B hmL hv'
    obtain ⟨rfl, hH, hK, hN⟩ := hv'
    have hts := atoms_spec (ws := ai_ws M') B.pre
    have hown : s.vm.findClass M'.1.cls = some m.cls := findClass_of_methodNamed B.named
    have C' : ai_cx M' (d - 1) p (headSpec (ai_ws M') (ai_rm (d - 1))).room s m (Value.ref a :: As : List Value).toArray c D tys A b L sx 0 0 :=
      ⟨B.exec, B.bytes, hmL, hown, fun w h => hts w (List.mem_cons_of_mem _ h), hN, hK, fun q hq => hA q (by rw [← hH]; exact hq), ⟨Nat.le_refl _, Nat.le_refl _, Nat.zero_le _, Nat.zero_le _⟩, fun h => by rw [hsc] at h; cases h⟩
    have hl' := lv_entry (Value.ref a :: As) (n := M'.2.2.1) (by exact hm1)
    rw [lg_entry_eq]
    have hh : s.heap = H := hH
    refine callee C' (fun pcr ws' z lv' hpr hPw => ?_) s.heap [] _ (by rw [hh]; exact hP) hD va_S.rf hl'
    intro H2 locs2 ls2 hP2 hD2 hS2 hl2
    exact W.zret C'.1 C'.2.1 (B.returns.trans hv) (by rcases h01 ws' z hPw with rfl | rfl <;> rfl) (fun t ht hW => ⟨⟨ws', z, hPw, by rw [ht]; exact hP2, hD2, rfl⟩, hS2.F ht⟩) hS2.2.2 (hr pcr hpr) B.notSynchronized
  rcases w3 with ⟨-, fs, rfl, -⟩ | ⟨q1, -⟩ | ⟨q1, -⟩ | ⟨q1, -⟩
  · rw [t1] at w1
    refine ai_callW (va_runV (C := rr.1) (As := As) (rest := rest) (Ts := ai_GT) (own := M.1.cls) ⟨C.1, C.2.1, C.2.2.1, C.2.2.2.1, C.2.2.2.2.1⟩ met (cwV q.2.2.2.1 C.2.2.2.2.1 m3 rfl rfl rfl m4 (ai_roomOK C hd1 hml)) ⟨ai_PcB, va_recv C.2.2.2.2.2.2.1 hP m2 w1, ai_PcW C hS⟩ rfl hq1.symm hl.1 rfl (lv_room hrest) hdec ⟨C.2.2.2.2.2.2.2.2.1.2.2.1, C.2.2.2.2.2.2.2.2.1.2.2.2⟩) (fun v0 st₀ t LL h0 hL hQ => ?_)
    obtain ⟨⟨ws', z, p1, p2, p3, p4⟩, hF⟩ := hQ
    injection p4 with p4
    subst p4
    exact k ws' z p1 t.heap (locs ++ LL) ls p2 p3 (ai_SF hS h0 hF hL) hl
  · omega
  · omega
  · omega
def cc_P (ad : List Nat) (tys : ai_ty) (n : Nat) (E : Nat → Int) (t : Int) (ws ws' : va_W) (z' : Int32) : Prop := ai_wd tb_TY ad tys ws' ∧ ai_fr [] ws ws' ∧ ((ev_can n E t ∧ z' = 1) ∨ (¬ ev_can n E t ∧ z' = 0))
theorem i01 {i : Int32} (h : i.toInt = 0) : i = 0 := Int32.toInt_inj.mp (by rw [h]; rfl)
theorem i11 {i : Int32} (h : i.toInt = 1) : i = 1 := Int32.toInt_inj.mp (by rw [h]; rfl)
theorem cc_all {n a : Nat} {E : Nat → Int} {z : Int32} {ws : va_W} (C : ai_cx tb_m12 9 p R s m args c D tys A b L sx cells slots) (hw : ai_wd tb_TY ad tys ws) (ha : ad[7]? = some a) (hn4 : n ≤ 4) (hn : vi ws 7 0 n) (hc : cev ws 7 n E) (hg : good n E)
    (k : ∀ (pcr : Nat) (ws' : va_W) (z' : Int32) (lv' : List (Nat × Value)), pcr ∈ [29] → cc_P ad tys n E z.toInt ws ws' z' → hG tb_m12 p l e R s m args below meth c D A cells slots Q pcr lv' [.int z'] ws') : hG tb_m12 p l e R s m args below meth c D A cells slots Q 0 [(0, .ref a), (1, .int z)] [] ws := by
  have hz1 := Int32.le_toInt z
  have hz2 := Int32.toInt_lt z
  by_cases hin : 0 ≤ z.toInt ∧ z.toInt < n
  · obtain ⟨t, ht⟩ : ∃ t : Nat, z.toInt = (t : Int) := ⟨z.toInt.toNat, by omega⟩
    have htn : t < n := by omega
    have htt : z.toInt.toNat = t := by omega
    obtain ⟨v1, v2, v3, v4⟩ := hc.1 t htn
    obtain ⟨b1, b2, b3, b4⟩ := hg.1 t htn
    obtain ⟨b5, b6⟩ := hg.2
    refine hsum (st := cc_st t) (List.all_eq_true.mp cc_ra t (List.mem_range.mpr (by omega))) rfl C (r := [0, 0, E (4 + t), E (8 + t), E 16, (n : Int)]) ⟨en_mk (by simp only [cc_st, en_b, and_true]; omega) rfl, sb0, ⟨rfl, Or.inl ⟨rfl, a, ha, rfl⟩, rfl, int_dv (z := 0) rfl (by omega), trivial⟩, trivial, hw, kc (v2.kn (n := 2) (t := E (4 + t)) rfl (by omega)) (kc (v3.kn (n := 3) (t := E (8 + t)) rfl (by omega)) (kc (hc.2.1.kn (n := 4) (t := E 16) rfl (by omega)) (kc (hn.kn (n := 5) (t := (n : Int)) rfl (by omega)) k0))), fun _ _ _ _ h => h, fun h => by cases h⟩ (fun x hx r' lv' sk' ws' hx' hb hl hs hlo hsk hw' hv hf _ => ?_)
    have e0 := nm_x hx' (k := 0) rfl
    have e2 := nm_x hx' (k := 2) rfl
    have e3 := nm_x hx' (k := 3) rfl
    have e4 := nm_x hx' (k := 4) rfl
    unfold cc_S at hx
    rcases List.mem_cons.mp hx with rfl | hx
    · simp (config := { decide := true }) only [bnd_b, lin_b, lin_q, Nat.reduceAdd, Nat.zero_add, Nat.reduceEqDiff, reduceIte, and_true, Int.add_zero] at hb hl
      obtain ⟨i, rfl, hi⟩ := sk1 rfl hsk
      unfold vn at hi
      dsimp only at hi
      refine k 29 ws' i lv' (by decide) ⟨hw', hf, Or.inr ⟨fun h => ?_, i01 (by omega)⟩⟩
      have := h.2.2.1
      omega
    · rcases List.mem_cons.mp hx with rfl | hx
      · simp (config := { decide := true }) only [bnd_b, lin_b, lin_q, Nat.reduceAdd, Nat.zero_add, Nat.reduceEqDiff, reduceIte, and_true, Int.add_zero] at hb hl
        obtain ⟨i, rfl, hi⟩ := sk1 rfl hsk
        unfold vn at hi
        dsimp only at hi
        refine k 29 ws' i lv' (by decide) ⟨hw', hf, Or.inl ⟨⟨hin.1, hin.2, by omega, ?_⟩, i11 (by omega)⟩⟩
        rw [htt]
        omega
      · rcases List.mem_cons.mp hx with rfl | hx
        · simp (config := { decide := true }) only [bnd_b, lin_b, lin_q, Nat.reduceAdd, Nat.zero_add, Nat.reduceEqDiff, reduceIte, and_true, Int.add_zero] at hb hl
          obtain ⟨i, rfl, hi⟩ := sk1 rfl hsk
          unfold vn at hi
          dsimp only at hi
          refine k 29 ws' i lv' (by decide) ⟨hw', hf, Or.inr ⟨fun h => ?_, i01 (by omega)⟩⟩
          have := h.2.2.2
          rw [htt] at this
          omega
        · cases hx
  · have fin : ∀ {st : ai_s} {r : List Int}, ((ai_ex (hk []) 200 12 tb_m12 9 [] st).any fun xs => xs.all cc_z) = true → st.1 = 0 → r[0]? = some 0 → ai_gm tb_TY [] ws ad b L sx tys tb_m12.2.2.2.2.1 r st [(0, .ref a), (1, .int z)] [] ws → hG tb_m12 p l e R s m args below meth c D A cells slots Q 0 [(0, .ref a), (1, .int z)] [] ws := fun {st r} hrun h0 hr0 gm => by
      obtain ⟨xs, y1, y2⟩ := ai_anyE hrun
      suffices key : hG tb_m12 p l e R s m args below meth c D A cells slots Q st.1 [(0, .ref a), (1, .int z)] [] ws by
        rw [h0] at key
        exact key
      refine hseg (st := st) y1 rfl C gm (fun x hx r' lv' sk' ws' hx' g' => ?_)
      obtain ⟨g1, g2, g3, g4, g5, g6, g7, g8⟩ := g'
      have hb := List.all_eq_true.mp y2 x hx
      unfold cc_z at hb
      rw [Bool.and_eq_true, ai_beq, decide_eq_true_eq] at hb
      rw [hb.2] at g4
      obtain ⟨i, rfl, hi⟩ := sk1 rfl g4
      rw [hb.1]
      unfold vn at hi
      rw [nm_x hx' hr0] at hi
      exact k 29 ws' i lv' (by decide) ⟨g5, g7, Or.inr ⟨fun h => hin ⟨h.1, h.2.1⟩, i01 hi⟩⟩
    by_cases hneg : z.toInt < 0
    · exact fin (r := [0, 0, z.toInt]) cc_o1 rfl rfl ⟨en_mk (by simp only [pl_o1, en_b, and_true]; omega) rfl, sb0, ⟨rfl, Or.inl ⟨rfl, a, ha, rfl⟩, rfl, int_dv (z := z.toInt) rfl (by omega), trivial⟩, trivial, hw, k0, fun _ _ _ _ h => h, fun h => by cases h⟩
    · exact fin (r := [0, 0, z.toInt, (n : Int)]) cc_o2 rfl rfl ⟨en_mk (by simp only [pl_o2, en_b, and_true]; omega) rfl, f5 (za := z.toInt) (zb := (n : Int)) rfl rfl (by omega), ⟨rfl, Or.inl ⟨rfl, a, ha, rfl⟩, rfl, int_dv (z := z.toInt) rfl (by omega), trivial⟩, trivial, hw, kc (hn.kn (n := 3) (t := (n : Int)) rfl (by omega)) k0, fun _ _ _ _ h => h, fun h => by cases h⟩
def pa_P (ad : List Nat) (tys : ai_ty) (n : Nat) (E : Nat → Int) (t : Nat) (ws ws' : va_W) (_ : Int32) : Prop := ai_wd tb_TY ad tys ws' ∧ ai_fr (pa_W t) ws ws' ∧ cev ws' 7 n (ev_pl E t)
theorem pa_all {n a t : Nat} {E : Nat → Int} {z : Int32} {ws : va_W} (C : ai_cx tb_m13 9 p R s m args c D tys A b L sx cells slots) (hw : ai_wd tb_TY ad tys ws) (ha : ad[7]? = some a) (hn4 : n ≤ 4) (hc : cev ws 7 n E) (hg : good n E) (htz : z.toInt = t) (htn : t < n) (hs1 : 1 ≤ E 16) (hmz : E (8 + t) < E (4 + t))
    (k : ∀ (pcr : Nat) (ws' : va_W) (z' : Int32) (lv' : List (Nat × Value)), pcr ∈ [94] → pa_P ad tys n E t ws ws' z' → hG tb_m13 p l e R s m args below meth c D A cells slots Q pcr lv' [.int z'] ws') : hG tb_m13 p l e R s m args below meth c D A cells slots Q 0 [(0, .ref a), (1, .int z)] [] ws := by
  obtain ⟨v1, v2, v3, v4⟩ := hc.1 t htn
  obtain ⟨b1, b2, b3, b4⟩ := hg.1 t htn
  obtain ⟨b5, b6⟩ := hg.2
  refine hsum (st := pa_st t) (List.all_eq_true.mp pa_ra t (List.mem_range.mpr (by omega))) rfl C (r := [0, 0, E t, E (4 + t), E (8 + t), E (12 + t), E 16, E 17]) ⟨en_mk (by simp only [pa_st, en_b, and_true]; omega) rfl, sb0, ⟨rfl, Or.inl ⟨rfl, a, ha, rfl⟩, rfl, int_dv (z := 0) rfl (by omega), trivial⟩, trivial, hw, kc (v1.kn (n := 2) (t := E t) rfl (by omega)) (kc (v2.kn (n := 3) (t := E (4 + t)) rfl (by omega)) (kc (v3.kn (n := 4) (t := E (8 + t)) rfl (by omega)) (kc (v4.kn (n := 5) (t := E (12 + t)) rfl (by omega)) (kc (hc.2.1.kn (n := 6) (t := E 16) rfl (by omega)) (kc (hc.2.2.kn (n := 7) (t := E 17) rfl (by omega)) k0))))), fun _ _ _ _ h => h, fun h => by cases h⟩ (fun x hx r' lv' sk' ws' hx' hb hl hs hlo hsk hw' hv hf _ => ?_)
  have core := pa_core hx hb hl (by rw [nm_x hx' (k := 4) rfl, nm_x hx' (k := 3) rfl]; exact hmz) (nm_x hx' (k := 0) rfl)
  have hpc : x.1 = 94 := List.all_eq_true.mp (show (pa_S.all fun x => Nat.beq x.1 94) = true by rfl) x hx |> ai_beq.mp
  unfold pl_out at core
  split at core
  · rename_i w0 w1 w2 w3 w hvs hss
    rw [hvs] at hv
    rw [hss] at hsk
    rw [nm_x hx' (k := 2) rfl, nm_x hx' (k := 3) rfl, nm_x hx' (k := 4) rfl, nm_x hx' (k := 5) rfl, nm_x hx' (k := 6) rfl, nm_x hx' (k := 7) rfl] at core
    obtain ⟨u0, u1, u2, u3, u4⟩ := pl_use (by omega) core
    obtain ⟨q0, q1, q2, q3, -⟩ := hv
    have hw1 : w.1 = 1 := by
      have h1 := List.all_eq_true.mp (show (pa_S.all fun x => x.2.2.1.all fun v => Nat.beq v.1 1) = true by rfl) x hx
      rw [hss] at h1
      exact ai_beq.mp (List.all_eq_true.mp h1 w List.mem_cons_self)
    obtain ⟨i, rfl, hi⟩ := sk1 hw1 hsk
    rw [hpc]
    refine k 94 ws' i lv' (by decide) ⟨hw', hf, cev_pl hn4 htn hc hf (fun i => wr_no fun q hq => ?_) (fun i => wr_no fun q hq => ?_) (fun i hi => wr_no fun q hq => ?_) (fun i hi => wr_no fun q hq => ?_) ?_ ?_ ?_ ?_⟩
    · unfold pa_W at hq
      simp only [List.mem_cons, List.not_mem_nil, or_false] at hq
      rcases hq with rfl | rfl | rfl <;> dsimp only <;> omega
    · unfold pa_W at hq
      simp only [List.mem_cons, List.not_mem_nil, or_false] at hq
      rcases hq with rfl | rfl | rfl <;> dsimp only <;> omega
    · unfold pa_W at hq
      simp only [List.mem_cons, List.not_mem_nil, or_false] at hq
      rcases hq with rfl | rfl | rfl <;> dsimp only <;> omega
    · unfold pa_W at hq
      simp only [List.mem_cons, List.not_mem_nil, or_false] at hq
      rcases hq with rfl | rfl | rfl <;> dsimp only <;> omega
    · rw [← u0]; exact q0
    · rw [← u1]; exact q1
    · rw [← u3, Int.add_zero]; exact q3
    · rw [← u2]; exact q2
  · exact core.elim
end TRI
