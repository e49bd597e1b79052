section PLQ
variable {ad : List Nat} {p : Program} {l : Launch} {e : Env} {R : Room} {s : State} {m : MethodId} {args : Array Value} {below : List Frame} {meth : Method} {c : Code} {D : va_G} {tys : ai_ty} {A : Nat → Prop} {b L : Nat} {sx : Nat → Int32} {cells slots : Nat} {Q : State → Prop}
/-- pull of the reference: pulls -/
theorem mq_r : ((ai_ex (hk []) 20 132 tb_m132 10 [2] (0, [(0, (0, 49, 0, 0)), (1, (1, 2, 0, 0))], [], [(0, 0, false, 0, 0), (0, 2555, false, 1, 0), (-2147483648, 2147483647, false, 2, 0)], [], [])).any fun xs => xs.all fun x => Nat.beq x.1 2 && decide (x.2.2.1 = [(1, 2, 0, 0), (0, 49, 0, 0)])) = true := by decide +kernel
theorem mq_all {n a : Nat} {E : Nat → Int} {z : Int32} {ws : va_W} (C : ai_cx tb_m132 10 p R s m args c D tys A b L sx cells slots) (hw : ai_wd tb_TY ad tys ws) (ha : ad[49]? = some a) (hn4 : n ≤ 4) (hn : vi ws 49 1 n) (hc : pev ws 0 n E) (hg : good n E)
    (k : ∀ (pcr : Nat) (ws' : va_W) (z' : Int32) (lv' : List (Nat × Value)), pcr ∈ [5] → mp_P ad tys n E z.toInt ws ws' z' → hG tb_m132 p l e R s m args below meth c D A cells slots Q pcr lv' [.int z'] ws') : hG tb_m132 p l e R s m args below meth c D A cells slots Q 0 [(0, .ref a), (1, .int z)] [] ws := by
  obtain ⟨xs, y1, y2⟩ := ai_anyE mq_r
  have hz := ai_irg z
  refine hseg (r := [0, 0, z.toInt]) (lv := [(0, .ref a), (1, .int z)]) y1 rfl C ⟨en_mk (by simp only [en_b, and_true]; omega) rfl, sb0, ⟨rfl, Or.inl ⟨rfl, a, ha, rfl⟩, rfl, int_dv (z := z.toInt) rfl (by omega), trivial⟩, trivial, hw, k0, fun _ _ _ _ h => h, fun h => by cases h⟩ (fun x hx r' lv' sk' ws' hx' g' => ?_)
  obtain ⟨g1, g2, g3, g4, g5, g6, g7, g8⟩ := g'
  have hb := List.all_eq_true.mp y2 x hx
  rw [Bool.and_eq_true, ai_beq, decide_eq_true_eq] at hb
  rw [hb.2] at g4
  obtain ⟨x1, s1, rfl, d1, g4⟩ := g4.cons
  obtain ⟨x2, s2, rfl, d2, g4⟩ := g4.cons
  cases g4.nil
  obtain ⟨z2, rfl, hz2⟩ := dvn d1 (hx'.at rfl)
  have hzz : z2 = z := Int32.toInt_inj.mp (by omega)
  subst hzz
  have hx2 : x2 = .ref a := by
    rcases d2 with ⟨-, q, q1, q2⟩ | ⟨q, -⟩ | ⟨q, -⟩ | ⟨q, -⟩ | ⟨q, -⟩
    · rw [q2, Option.some.inj (q1.symm.trans ha)]
    all_goals exact absurd q (by decide)
  subst hx2
  rw [hb.1]
  have hn' : vi ws' 49 1 n := hn.fr g7 rfl
  have hc' : pev ws' 0 n E := hc.fr hn4 g7 (fun _ _ => rfl)
  refine hcallI (q := (171, 0, 131, 1, 6)) (M' := tb_m131) (cl := 49) (a := a) (As := [.int z2]) (rest := []) (rets := [9, 31]) (P := mp_P ad tys n E z2.toInt ws) C (by decide) (tv_m132.1.1.1 (2, .invokevirtual 171, 3) (List.mem_of_getElem? (i := 2) rfl)) (tv_m132.2 _ (List.mem_of_getElem? (i := 20) rfl)) rfl rfl rfl rfl (by decide) (Nat.le_of_ble_eq_true rfl) rfl rfl rfl rfl g5 ha (by decide) ?_ ?_ ?_
  · intro pcr hp
    rcases List.mem_cons.mp hp with rfl | hp
    · exact tv_m131.1.1.1 (9, .ireturn, 1) (List.mem_of_getElem? (i := 5) rfl)
    · rw [List.mem_singleton.mp hp]
      exact tv_m131.1.1.1 (31, .ireturn, 1) (List.mem_of_getElem? (i := 18) rfl)
  · intro p2 e2 R2 s2 m2 args2 below2 meth2 c2 Q2 C2 kk
    refine mp_all C2 g5 ha hn4 hn' hc' hg (fun pcr w z' lv2 hp hP => kk pcr w z' lv2 hp ?_)
    unfold mp_P at hP ⊢
    refine ⟨hP.1, ?_⟩
    have hP := hP.2
    by_cases hh : 0 ≤ z2.toInt ∧ z2.toInt < n
    · rw [if_pos hh] at hP ⊢
      exact ⟨(wsub_ok (V := []) rfl g7).tr hP.1, hP.2⟩
    · rw [if_neg hh] at hP ⊢
      exact ⟨g7.tr hP.1, hP.2⟩
  · intro w z' hP
    exact k 5 w z' lv' (by decide) hP
end PLQ
