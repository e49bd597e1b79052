/-! a static method by its contract -/
section HCS
variable {ad : List Nat} {M : ai_m} {d : Nat} {p : Program} {l : Launch} {e : Env} {R : Room} {s : State} {m : MethodId} {args : Array Value} {below : List Frame} {meth : Method} {c : Code} {D : va_G} {tys : ai_ty} {A : Nat → Prop} {b L : Nat} {sx : Nat → Int32} {cells slots : Nat} {Q : State → Prop}
theorem hcallS {q : ai_l5} {M' : ai_m} {pc : Nat} {rets : List Nat} {P : va_W → Int32 → Prop} {ws : va_W} {As rest : List Value} {lv : List (Nat × Value)}
    (C : ai_cx M d p R s m args c D tys A b L sx cells slots) (hd1 : 1 ≤ d) (hdec : decode M.2.1 pc = .ok (.invokestatic q.1, 3)) (hlok : ai_lok tb_MT M.1.cls q) (hq0 : q.2.1 = 1 ∨ q.2.1 = 2) (hq1 : q.2.2.2.1 = As.length) (hM' : tb_MT[q.2.2.1]? = some M') (hsc : M'.2.2.2.2.1 = false) (hml : M'.2.2.1 ≤ 17) (hm1 : (lg_sl As).length ≤ M'.2.2.1) (hv : M'.2.2.2.1 = some .int) (hrest : (rest.map fun v => v.category).sum ≤ 8)
    (hr : ∀ pcr ∈ rets, decode M'.2.1 pcr = .ok (.ireturn, 1))
    (callee : ∀ {p : Program} {e : Env} {R : Room} {s : State} {m : MethodId} {args : Array Value} {below : List Frame} {meth : Method} {c : Code} {Q : State → Prop}, ai_cx M' (d - 1) p R s m args c D tys A b L sx 0 0 → (∀ (pcr : Nat) (ws' : va_W) (z : Int32) (lv' : List (Nat × Value)), pcr ∈ rets → P ws' z → hG M' p l e R s m args below meth c D A 0 0 Q pcr lv' [.int z] ws') → hG M' p l e R s m args below meth c D A 0 0 Q 0 (lv_args 0 As) [] ws)
    (k : ∀ ws' z, P ws' z → hG M p l e R s m args below meth c D A cells slots Q (pc + 3) lv (.int z :: rest) ws') : hG M p l e R s m args below meth c D A cells slots Q pc lv (As.reverse ++ rest) ws := by
  intro H locs ls hP hD hS hl
  obtain ⟨hok, hpl⟩ := (tv_MT M' (List.mem_of_getElem? hM')).1
  have hA : ∀ q, H.size ≤ q → A q := fun q hq => C.2.2.2.2.2.2.2.1 q (Nat.le_trans hS.1 hq)
  have met : Met l M'.1 (ai_ws M') (ai_rm (d - 1)) (va_Pc As (fun U => U.heap = H ∧ va_K D vwCl tys U ∧ ai_nj A U)) (hb_Q P D A) 0 0 A := by
    refine Met.ofW (cc := M'.2.1) (maxL := M'.2.2.1) (ret := M'.2.2.2.1) hpl rfl ?_
    intro p e s m args below meth c s₁ B hmL hv'
    obtain ⟨rfl, hH, hK, hN⟩ := hv'
    have hts := atoms_spec (ws := ai_ws M') B.pre
    have hown : s.vm.findClass M'.1.cls = some m.cls := findClass_of_methodNamed B.named
    have C' : ai_cx M' (d - 1) p (headSpec (ai_ws M') (ai_rm (d - 1))).room s m As.toArray c D tys A b L sx 0 0 :=
      ⟨B.exec, B.bytes, hmL, hown, fun w h => hts w (List.mem_cons_of_mem _ h), hN, hK, fun q hq => hA q (by rw [← hH]; exact hq), ⟨Nat.le_refl _, Nat.le_refl _, Nat.zero_le _, Nat.zero_le _⟩, fun h => by rw [hsc] at h; cases h⟩
    have hl' := lv_entry As (n := M'.2.2.1) (by exact hm1)
    rw [lg_entry_eq]
    have hh : s.heap = H := hH
    refine callee C' (fun pcr ws' z lv' hpr hPw => ?_) s.heap [] _ (by rw [hh]; exact hP) hD va_S.rf hl'
    intro H2 locs2 ls2 hP2 hD2 hS2 hl2
    exact W.iret C'.1 C'.2.1 (B.returns.trans hv) (fun t ht hW => ⟨⟨ws', z, hPw, by rw [ht]; exact hP2, hD2, rfl⟩, hS2.F ht⟩) hS2.2.2 (hr pcr hpr) B.notSynchronized
  have hrooms := C.2.2.2.2.2.2.2.2.1
  unfold ai_lok at hlok
  rcases hq0 with hk | hk
  · rw [hk] at hlok
    obtain ⟨M2, m1, m3, m4⟩ := hlok
    rw [hM'] at m1
    cases m1
    refine ai_callW (va_runS (As := As) (rest := rest) (Ts := ai_GT) (own := M.1.cls) ⟨C.1, C.2.1, C.2.2.1, C.2.2.2.1, C.2.2.2.2.1⟩ met (va_cwS q.2.2.2.1 C.2.2.2.2.1 m3 rfl rfl rfl m4 (ai_roomOK C hd1 hml)) ⟨ai_PcB, ai_PcW C hS⟩ rfl hq1.symm hl.1 rfl (lv_room hrest) hdec ⟨hrooms.2.2.1, hrooms.2.2.2⟩) (fun v0 st₀ t LL h0 hL hQ => ?_)
    obtain ⟨⟨ws', z, p1, p2, p3, p4⟩, hF⟩ := hQ
    injection p4 with p4
    subst p4
    exact k ws' z p1 t.heap (locs ++ LL) ls p2 p3 (ai_SF hS h0 hF hL) hl
  · rw [hk] at hlok
    obtain ⟨M2, host, m1, m2, m3, m5, m6, m4⟩ := hlok
    rw [hM'] at m1
    cases m1
    refine ai_callW (va_runSN (As := As) (rest := rest) (Ts := ai_GT) (own := M.1.cls) ⟨C.1, C.2.1, C.2.2.1, C.2.2.2.1, C.2.2.2.2.1⟩ met ⟨va_cnB q.2.2.2.1 C.2.2.2.2.1 m3 rfl rfl rfl (C.2.2.2.2.2.1.1 _ m2) (C.2.2.2.2.1 _ m6) m4 (ai_roomOK C hd1 hml), C.2.2.2.2.1 _ m5, trivial⟩ ⟨ai_PcB, ai_PcW C hS⟩ rfl hq1.symm hl.1 rfl (lv_room hrest) hdec ⟨hrooms.2.2.1, hrooms.2.2.2⟩) (fun v0 st₀ t LL h0 hL hQ => ?_)
    obtain ⟨⟨ws', z, p1, p2, p3, p4⟩, hF⟩ := hQ
    injection p4 with p4
    subst p4
    exact k ws' z p1 t.heap (locs ++ LL) ls p2 p3 (ai_SF hS h0 hF hL) hl
theorem hiand {pc : Nat} {x y : Int32} {ws : va_W} {sk : List Value} {lv : List (Nat × Value)} (C : ai_cx M d p R s m args c D tys A b L sx cells slots) (hd : decode M.2.1 pc = .ok (.iand, 1)) (k : hG M p l e R s m args below meth c D A cells slots Q (pc + 1) lv (.int (x &&& y) :: sk) ws) : hG M p l e R s m args below meth c D A cells slots Q pc lv (.int y :: .int x :: sk) ws := by
  intro H locs ls hP hD hS hl
  exact lv_iand C.1 C.2.1 hd (k H locs ls hP hD hS hl)
end HCS
/-! the kinds that a sighting, and all sightings, leave -/
theorem yl_0 (s p : Int) : yl ((0 : Nat) : Int) s p = s := rfl
theorem yl_1 (s p : Int) : yl ((1 : Nat) : Int) s p = s / 2 := rfl
theorem yl_2 (s p : Int) : yl ((2 : Nat) : Int) s p = s / 2 / 4 := rfl
theorem yl_3 (s p : Int) : yl ((3 : Nat) : Int) s p = max 0 (s - 2 * p) := rfl
/-- which kinds below k yield y -/
def ktF (s p y : Int) : Nat → Nat
  | 0 => 0
  | k + 1 => if yl (k : Int) s p = y then ktF s p y k ||| 2 ^ k else ktF s p y k
theorem ktF_y {s p y : Int} {k : Nat} (h : yl (k : Int) s p = y) : ktF s p y (k + 1) = ktF s p y k ||| 2 ^ k := if_pos h
theorem ktF_n {s p y : Int} {k : Nat} (h : ¬ yl (k : Int) s p = y) : ktF s p y (k + 1) = ktF s p y k := if_neg h
theorem ktF_b (s p y : Int) : ∀ k, k ≤ 4 → ktF s p y k < 16
  | 0, _ => by
    show 0 < 16
    decide
  | k + 1, h => by
    have ih := ktF_b s p y k (by omega)
    by_cases c : yl (k : Int) s p = y
    · rw [ktF_y c]
      exact or_b k (by omega) _ ih
    · rw [ktF_n c]
      exact ih
theorem and_b : ∀ a, a < 16 → ∀ c, c < 16 → a &&& c < 16 := by decide +kernel
theorem and_i : ∀ a, a < 16 → ∀ c, c < 16 → (Int32.ofNat a &&& Int32.ofNat c).toInt = ((a &&& c : Nat) : Int) := by decide +kernel
/-- the class's way: sighting after sighting -/
def kiB (S : Nat → Nat → Int) (T : Int) : Nat → Nat
  | 0 => 15
  | j + 1 => if S j 0 = T then kiB S T j &&& ktF (S j 1) (S j 2) (S j 3) 4 else kiB S T j
theorem kiB_y {S : Nat → Nat → Int} {T : Int} {j : Nat} (h : S j 0 = T) : kiB S T (j + 1) = kiB S T j &&& ktF (S j 1) (S j 2) (S j 3) 4 := if_pos h
theorem kiB_n {S : Nat → Nat → Int} {T : Int} {j : Nat} (h : ¬ S j 0 = T) : kiB S T (j + 1) = kiB S T j := if_neg h
theorem kiB_b (S : Nat → Nat → Int) (T : Int) : ∀ j, kiB S T j < 16
  | 0 => by show 15 < 16; decide
  | j + 1 => by
    by_cases c : S j 0 = T
    · rw [kiB_y c]
      exact and_b _ (kiB_b S T j) _ (ktF_b _ _ _ 4 (by decide))
    · rw [kiB_n c]
      exact kiB_b S T j
/-- the reference's way: kind after kind -/
def kiK (S : Nat → Nat → Int) (T : Int) (k : Nat) : Nat → Bool
  | 0 => true
  | j + 1 => kiK S T k j && (!decide (S j 0 = T) || decide (yl (k : Int) (S j 1) (S j 2) = S j 3))
def kiM (S : Nat → Nat → Int) (T : Int) (q : Nat) : Nat → Nat
  | 0 => 0
  | k + 1 => kiM S T q k ||| (if kiK S T k q = true then 2 ^ k else 0)
theorem kiM_b (S : Nat → Nat → Int) (T : Int) (q : Nat) : ∀ k, k ≤ 4 → kiM S T q k < 16
  | 0, _ => by
    show 0 < 16
    decide
  | k + 1, h => by
    have ih := kiM_b S T q k (by omega)
    show kiM S T q k ||| (if kiK S T k q = true then 2 ^ k else 0) < 16
    by_cases c : kiK S T k q = true
    · rw [if_pos c]
      exact or_b k (by omega) _ ih
    · rw [if_neg c, Nat.or_zero]
      exact ih
def bt4 (b0 b1 b2 b3 : Bool) : Nat := (((0 ||| if b0 = true then 2 ^ 0 else 0) ||| if b1 = true then 2 ^ 1 else 0) ||| if b2 = true then 2 ^ 2 else 0) ||| if b3 = true then 2 ^ 3 else 0
theorem bt4_and : ∀ b0 b1 b2 b3 c0 c1 c2 c3 : Bool, bt4 b0 b1 b2 b3 &&& bt4 c0 c1 c2 c3 = bt4 (b0 && c0) (b1 && c1) (b2 && c2) (b3 && c3) := by decide +kernel
theorem ktF_s {s p y : Int} (k : Nat) : ktF s p y (k + 1) = ktF s p y k ||| (if decide (yl (k : Int) s p = y) = true then 2 ^ k else 0) := by
  by_cases c : yl (k : Int) s p = y
  · rw [ktF_y c, decide_eq_true c, if_pos rfl]
  · rw [ktF_n c, decide_eq_false c, if_neg (by decide), Nat.or_zero]
theorem ktF_4 (s p y : Int) : ktF s p y 4 = bt4 (decide (yl ((0 : Nat) : Int) s p = y)) (decide (yl ((1 : Nat) : Int) s p = y)) (decide (yl ((2 : Nat) : Int) s p = y)) (decide (yl ((3 : Nat) : Int) s p = y)) := by
  rw [ktF_s 3, ktF_s 2, ktF_s 1, ktF_s 0]
  rfl
theorem kiB_4 (S : Nat → Nat → Int) (T : Int) : ∀ j, kiB S T j = bt4 (kiK S T 0 j) (kiK S T 1 j) (kiK S T 2 j) (kiK S T 3 j)
  | 0 => by
    show 15 = bt4 true true true true
    decide
  | j + 1 => by
    have e : ∀ k, kiK S T k (j + 1) = (kiK S T k j && (!decide (S j 0 = T) || decide (yl (k : Int) (S j 1) (S j 2) = S j 3))) := fun k => rfl
    by_cases c : S j 0 = T
    · rw [kiB_y c, kiB_4 S T j, ktF_4, bt4_and, e, e, e, e, decide_eq_true c]
      simp only [Bool.not_true, Bool.false_or]
    · rw [kiB_n c, kiB_4 S T j, e, e, e, e, decide_eq_false c]
      simp only [Bool.not_false, Bool.true_or, Bool.and_true]
theorem ki_eq (S : Nat → Nat → Int) (T : Int) (q : Nat) : kiM S T q 4 = kiB S T q := by
  rw [kiB_4]
  rfl
theorem kiK_y {S : Nat → Nat → Int} {T : Int} {k j : Nat} (h : kiK S T k j = true) (c : ¬ S j 0 = T ∨ yl (k : Int) (S j 1) (S j 2) = S j 3) : kiK S T k (j + 1) = true := by
  show (kiK S T k j && (!decide (S j 0 = T) || decide (yl (k : Int) (S j 1) (S j 2) = S j 3))) = true
  rw [h, Bool.true_and]
  rcases c with c | c
  · rw [decide_eq_false c]
    rfl
  · rw [decide_eq_true c, Bool.or_true]
theorem kiK_0 {S : Nat → Nat → Int} {T : Int} {k j : Nat} (h : ¬ kiK S T k j = true) : ¬ kiK S T k (j + 1) = true := by
  show ¬ (kiK S T k j && (!decide (S j 0 = T) || decide (yl (k : Int) (S j 1) (S j 2) = S j 3))) = true
  rw [Bool.not_eq_true] at h
  rw [h, Bool.false_and]
  decide
theorem kiK_n {S : Nat → Nat → Int} {T : Int} {k j : Nat} (c : S j 0 = T) (h : ¬ yl (k : Int) (S j 1) (S j 2) = S j 3) : ¬ kiK S T k (j + 1) = true := by
  show ¬ (kiK S T k j && (!decide (S j 0 = T) || decide (yl (k : Int) (S j 1) (S j 2) = S j 3))) = true
  rw [decide_eq_true c, decide_eq_false h]
  simp
theorem vi_un {ws : va_W} {c i : Nat} {x y : Int} (h1 : vi ws c i x) (h2 : vi ws c i y) : x = y := by
  obtain ⟨j, j1, j2⟩ := h1
  obtain ⟨k, k1, k2⟩ := h2
  have := j1.fun k1
  cases this
  omega
def kt_x_S : List sm_t := [
  (36, [], [(1, 5, 0, 0)], [], [(0, 0, false, 0, 0), (0, 2555, false, 1, 0), (0, 20, false, 2, 0), (1, 20, false, 3, 0), (0, 99, false, 4, 0), (0, 15, false, 5, 0)], [])]
theorem kt_x : ((ai_ex (hk []) 300 97 tb_m97 8 [] (7, [(0, (1, 2, 0, 0)), (1, (1, 3, 0, 0)), (2, (1, 4, 0, 0)), (3, (1, 5, 0, 0)), (4, (1, 0, 0, 4))], [(1, 0, 0, 4)], [(0, 0, false, 0, 0), (0, 2555, false, 1, 0), (0, 20, false, 2, 0), (1, 20, false, 3, 0), (0, 99, false, 4, 0), (0, 15, false, 5, 0)], [], [])).any fun xs => xs.all fun x => (kt_x_S : List sm_t).any fun y => sm_is [] x y) = true := by decide +kernel
def kt_0_S : List sm_t := [
  (5, [(0, (1, 2, 0, 0)), (1, (1, 3, 0, 0)), (2, (1, 4, 0, 0)), (3, (1, 5, 0, 0)), (4, (1, 0, 0, 1))], [], [], [(0, 0, false, 0, 0), (0, 2555, false, 1, 0), (0, 20, false, 2, 0), (1, 20, false, 3, 0), (0, 99, false, 4, 0), (0, 15, false, 5, 0)], [(140, 3, 2, 3, 0)]),
  (26, [(0, (1, 2, 0, 0)), (1, (1, 3, 0, 0)), (2, (1, 4, 0, 0)), (3, (1, 5, 0, 0)), (4, (1, 0, 0, 0))], [(1, 0, 0, 0), (1, 0, 0, 1), (1, 5, 0, 0)], [], [(0, 0, false, 0, 0), (0, 2555, false, 1, 0), (1, 20, false, 2, 0), (1, 20, false, 3, 0), (0, 99, false, 4, 0), (0, 15, false, 5, 0)], [(4, 3, 2, 3, 1), (5, 3, 2, 3, 0)])]
theorem kt_0 : ((ai_ex (hk []) 300 97 tb_m97 8 [5, 26] (7, [(0, (1, 2, 0, 0)), (1, (1, 3, 0, 0)), (2, (1, 4, 0, 0)), (3, (1, 5, 0, 0)), (4, (1, 0, 0, 0))], [(1, 0, 0, 0)], [(0, 0, false, 0, 0), (0, 2555, false, 1, 0), (0, 20, false, 2, 0), (1, 20, false, 3, 0), (0, 99, false, 4, 0), (0, 15, false, 5, 0)], [], [])).any fun xs => xs.all fun x => (kt_0_S : List sm_t).any fun y => sm_is [] x y) = true := by decide +kernel
theorem kt_b0 : ((ai_ex (hk []) 300 97 tb_m97 8 [5] (28, [(0, (1, 2, 0, 0)), (1, (1, 3, 0, 0)), (2, (1, 4, 0, 0)), (3, (1, 5, 0, 0)), (4, (1, 0, 0, 0))], [(1, 6, 0, 0)], [(0, 0, false, 0, 0), (0, 2555, false, 1, 0), (0, 20, false, 2, 0), (1, 20, false, 3, 0), (0, 99, false, 4, 0), (0, 15, false, 5, 0), (0, 15, false, 6, 0)], [], [])).any fun xs => xs.all fun x => ([(5, [(0, (1, 2, 0, 0)), (1, (1, 3, 0, 0)), (2, (1, 4, 0, 0)), (3, (1, 6, 0, 0)), (4, (1, 0, 0, 1))], [], [], [(0, 0, false, 0, 0), (0, 2555, false, 1, 0), (0, 20, false, 2, 0), (1, 20, false, 3, 0), (0, 99, false, 4, 0), (0, 15, false, 5, 0), (0, 15, false, 6, 0)], [])] : List sm_t).any fun y => sm_is [] x y) = true := by decide +kernel
def kt_1_S : List sm_t := [
  (5, [(0, (1, 2, 0, 0)), (1, (1, 3, 0, 0)), (2, (1, 4, 0, 0)), (3, (1, 5, 0, 0)), (4, (1, 0, 0, 2))], [], [], [(0, 0, false, 0, 0), (0, 2555, false, 1, 0), (0, 20, false, 2, 0), (1, 20, false, 3, 0), (0, 99, false, 4, 0), (0, 15, false, 5, 0), (0, 10, false, 6, 0)], [(140, 6, 2, 6, 0), (152, 3, 3, 6, 0)]),
  (26, [(0, (1, 2, 0, 0)), (1, (1, 3, 0, 0)), (2, (1, 4, 0, 0)), (3, (1, 5, 0, 0)), (4, (1, 0, 0, 1))], [(1, 0, 0, 1), (1, 0, 0, 1), (1, 5, 0, 0)], [], [(0, 0, false, 0, 0), (0, 2555, false, 1, 0), (0, 10, false, 2, 0), (1, 20, false, 3, 0), (0, 99, false, 4, 0), (0, 15, false, 5, 0), (0, 10, false, 6, 0)], [(4, 6, 2, 6, 1), (5, 6, 2, 6, 0), (152, 3, 3, 6, 0)])]
theorem kt_1 : ((ai_ex (hk []) 300 97 tb_m97 8 [5, 26] (7, [(0, (1, 2, 0, 0)), (1, (1, 3, 0, 0)), (2, (1, 4, 0, 0)), (3, (1, 5, 0, 0)), (4, (1, 0, 0, 1))], [(1, 0, 0, 1)], [(0, 0, false, 0, 0), (0, 2555, false, 1, 0), (0, 20, false, 2, 0), (1, 20, false, 3, 0), (0, 99, false, 4, 0), (0, 15, false, 5, 0)], [], [])).any fun xs => xs.all fun x => (kt_1_S : List sm_t).any fun y => sm_is [] x y) = true := by decide +kernel
theorem kt_b1 : ((ai_ex (hk []) 300 97 tb_m97 8 [5] (28, [(0, (1, 2, 0, 0)), (1, (1, 3, 0, 0)), (2, (1, 4, 0, 0)), (3, (1, 5, 0, 0)), (4, (1, 0, 0, 1))], [(1, 6, 0, 0)], [(0, 0, false, 0, 0), (0, 2555, false, 1, 0), (0, 20, false, 2, 0), (1, 20, false, 3, 0), (0, 99, false, 4, 0), (0, 15, false, 5, 0), (0, 15, false, 6, 0)], [], [])).any fun xs => xs.all fun x => ([(5, [(0, (1, 2, 0, 0)), (1, (1, 3, 0, 0)), (2, (1, 4, 0, 0)), (3, (1, 6, 0, 0)), (4, (1, 0, 0, 2))], [], [], [(0, 0, false, 0, 0), (0, 2555, false, 1, 0), (0, 20, false, 2, 0), (1, 20, false, 3, 0), (0, 99, false, 4, 0), (0, 15, false, 5, 0), (0, 15, false, 6, 0)], [])] : List sm_t).any fun y => sm_is [] x y) = true := by decide +kernel
def kt_2_S : List sm_t := [
  (5, [(0, (1, 2, 0, 0)), (1, (1, 3, 0, 0)), (2, (1, 4, 0, 0)), (3, (1, 5, 0, 0)), (4, (1, 0, 0, 3))], [], [], [(0, 0, false, 0, 0), (0, 2555, false, 1, 0), (0, 20, false, 2, 0), (1, 20, false, 3, 0), (0, 99, false, 4, 0), (0, 15, false, 5, 0), (0, 10, false, 6, 0), (0, 2, false, 7, 0)], [(140, 7, 2, 7, 0), (154, 6, 6, 7, 0), (152, 3, 3, 6, 0)]),
  (26, [(0, (1, 2, 0, 0)), (1, (1, 3, 0, 0)), (2, (1, 4, 0, 0)), (3, (1, 5, 0, 0)), (4, (1, 0, 0, 2))], [(1, 0, 0, 2), (1, 0, 0, 1), (1, 5, 0, 0)], [], [(0, 0, false, 0, 0), (0, 2555, false, 1, 0), (0, 2, false, 2, 0), (1, 20, false, 3, 0), (0, 99, false, 4, 0), (0, 15, false, 5, 0), (0, 10, false, 6, 0), (0, 2, false, 7, 0)], [(4, 7, 2, 7, 1), (5, 7, 2, 7, 0), (154, 6, 6, 7, 0), (152, 3, 3, 6, 0)])]
theorem kt_2 : ((ai_ex (hk []) 300 97 tb_m97 8 [5, 26] (7, [(0, (1, 2, 0, 0)), (1, (1, 3, 0, 0)), (2, (1, 4, 0, 0)), (3, (1, 5, 0, 0)), (4, (1, 0, 0, 2))], [(1, 0, 0, 2)], [(0, 0, false, 0, 0), (0, 2555, false, 1, 0), (0, 20, false, 2, 0), (1, 20, false, 3, 0), (0, 99, false, 4, 0), (0, 15, false, 5, 0)], [], [])).any fun xs => xs.all fun x => (kt_2_S : List sm_t).any fun y => sm_is [] x y) = true := by decide +kernel
theorem kt_b2 : ((ai_ex (hk []) 300 97 tb_m97 8 [5] (28, [(0, (1, 2, 0, 0)), (1, (1, 3, 0, 0)), (2, (1, 4, 0, 0)), (3, (1, 5, 0, 0)), (4, (1, 0, 0, 2))], [(1, 6, 0, 0)], [(0, 0, false, 0, 0), (0, 2555, false, 1, 0), (0, 20, false, 2, 0), (1, 20, false, 3, 0), (0, 99, false, 4, 0), (0, 15, false, 5, 0), (0, 15, false, 6, 0)], [], [])).any fun xs => xs.all fun x => ([(5, [(0, (1, 2, 0, 0)), (1, (1, 3, 0, 0)), (2, (1, 4, 0, 0)), (3, (1, 6, 0, 0)), (4, (1, 0, 0, 3))], [], [], [(0, 0, false, 0, 0), (0, 2555, false, 1, 0), (0, 20, false, 2, 0), (1, 20, false, 3, 0), (0, 99, false, 4, 0), (0, 15, false, 5, 0), (0, 15, false, 6, 0)], [])] : List sm_t).any fun y => sm_is [] x y) = true := by decide +kernel
def kt_3_S : List sm_t := [
  (5, [(0, (1, 2, 0, 0)), (1, (1, 3, 0, 0)), (2, (1, 4, 0, 0)), (3, (1, 5, 0, 0)), (4, (1, 0, 0, 4))], [], [], [(0, 0, false, 0, 0), (0, 2555, false, 1, 0), (0, 20, false, 2, 0), (1, 20, false, 3, 0), (0, 99, false, 4, 0), (0, 15, false, 5, 0), (0, 198, false, 6, 0), (-197, 20, false, 7, 0), (0, 20, false, 8, 0)], [(140, 8, 2, 8, 0), (142, 0, 7, 8, 0), (0, 3, 6, 7, 0), (502, 4, 4, 6, 0)]),
  (26, [(0, (1, 2, 0, 0)), (1, (1, 3, 0, 0)), (2, (1, 4, 0, 0)), (3, (1, 5, 0, 0)), (4, (1, 0, 0, 3))], [(1, 0, 0, 3), (1, 0, 0, 1), (1, 5, 0, 0)], [], [(0, 0, false, 0, 0), (0, 2555, false, 1, 0), (0, 20, false, 2, 0), (1, 20, false, 3, 0), (0, 99, false, 4, 0), (0, 15, false, 5, 0), (0, 198, false, 6, 0), (-197, 20, false, 7, 0), (0, 20, false, 8, 0)], [(4, 8, 2, 8, 1), (5, 8, 2, 8, 0), (142, 0, 7, 8, 0), (0, 3, 6, 7, 0), (502, 4, 4, 6, 0)])]
theorem kt_3 : ((ai_ex (hk []) 300 97 tb_m97 8 [5, 26] (7, [(0, (1, 2, 0, 0)), (1, (1, 3, 0, 0)), (2, (1, 4, 0, 0)), (3, (1, 5, 0, 0)), (4, (1, 0, 0, 3))], [(1, 0, 0, 3)], [(0, 0, false, 0, 0), (0, 2555, false, 1, 0), (0, 20, false, 2, 0), (1, 20, false, 3, 0), (0, 99, false, 4, 0), (0, 15, false, 5, 0)], [], [])).any fun xs => xs.all fun x => (kt_3_S : List sm_t).any fun y => sm_is [] x y) = true := by decide +kernel
theorem kt_b3 : ((ai_ex (hk []) 300 97 tb_m97 8 [5] (28, [(0, (1, 2, 0, 0)), (1, (1, 3, 0, 0)), (2, (1, 4, 0, 0)), (3, (1, 5, 0, 0)), (4, (1, 0, 0, 3))], [(1, 6, 0, 0)], [(0, 0, false, 0, 0), (0, 2555, false, 1, 0), (0, 20, false, 2, 0), (1, 20, false, 3, 0), (0, 99, false, 4, 0), (0, 15, false, 5, 0), (0, 15, false, 6, 0)], [], [])).any fun xs => xs.all fun x => ([(5, [(0, (1, 2, 0, 0)), (1, (1, 3, 0, 0)), (2, (1, 4, 0, 0)), (3, (1, 6, 0, 0)), (4, (1, 0, 0, 4))], [], [], [(0, 0, false, 0, 0), (0, 2555, false, 1, 0), (0, 20, false, 2, 0), (1, 20, false, 3, 0), (0, 99, false, 4, 0), (0, 15, false, 5, 0), (0, 15, false, 6, 0)], [])] : List sm_t).any fun y => sm_is [] x y) = true := by decide +kernel
theorem kt_e : ((ai_ex (hk []) 300 97 tb_m97 8 [5] (0, [(0, (1, 2, 0, 0)), (1, (1, 3, 0, 0)), (2, (1, 4, 0, 0))], [], [(0, 0, false, 0, 0), (0, 2555, false, 1, 0), (0, 20, false, 2, 0), (1, 20, false, 3, 0), (0, 99, false, 4, 0)], [], [])).any fun xs => xs.all fun x => ([(5, [(0, (1, 2, 0, 0)), (1, (1, 3, 0, 0)), (2, (1, 4, 0, 0)), (3, (1, 0, 0, 0)), (4, (1, 0, 0, 0))], [], [], [(0, 0, false, 0, 0), (0, 2555, false, 1, 0), (0, 20, false, 2, 0), (1, 20, false, 3, 0), (0, 99, false, 4, 0)], [])] : List sm_t).any fun y => sm_is [] x y) = true := by decide +kernel
def kc_x_S (j : Nat) : List sm_t := [
  (54, [], [(1, 4, 0, 0)], [], [(0, 0, false, 0, 0), (0, 2555, false, 1, 0), (0, (j : Int), false, 2, 0), (0, 3, false, 3, 0), (0, 15, false, 4, 0)], [])]
theorem kc_x : ((List.range 7).all fun j => (ai_ex (hk []) 300 45 tb_m45 9 [5] (6, [(0, (0, 34, 0, 0)), (1, (1, 3, 0, 0)), (2, (1, 4, 0, 0)), (3, (1, 0, 0, (j : Int)))], [(1, 0, 0, (j : Int))], [(0, 0, false, 0, 0), (0, 2555, false, 1, 0), (0, (j : Int), false, 2, 0), (0, 3, false, 3, 0), (0, 15, false, 4, 0)], [(34, 0, (1, 2, 0, 0))], [])).any fun xs => xs.all fun x => (kc_x_S j : List sm_t).any fun y => sm_is [] x y) = true := by decide +kernel
def kc_m_S (j : Nat) : List sm_t := [
  (5, [(0, (0, 34, 0, 0)), (1, (1, 3, 0, 0)), (2, (1, 4, 0, 0)), (3, (1, 0, 0, (j : Int) + 1))], [], [], [(0, 0, false, 0, 0), (0, 2555, false, 1, 0), ((j : Int) + 1, 6, false, 2, 0), (0, 3, false, 3, 0), (0, 15, false, 4, 0), (0, 3, false, 5, 0), (1, 20, false, 6, 0), (0, 20, false, 7, 0), (0, 20, false, 8, 0)], [(140, 5, 3, 5, 0)]),
  (42, [(0, (0, 34, 0, 0)), (1, (1, 3, 0, 0)), (2, (1, 4, 0, 0)), (3, (1, 0, 0, (j : Int)))], [(1, 7, 0, 0), (1, 6, 0, 0), (1, 8, 0, 0), (1, 4, 0, 0)], [], [(0, 0, false, 0, 0), (0, 2555, false, 1, 0), ((j : Int) + 1, 6, false, 2, 0), (0, 3, false, 3, 0), (0, 15, false, 4, 0), (0, 3, false, 5, 0), (1, 20, false, 6, 0), (0, 20, false, 7, 0), (0, 20, false, 8, 0)], [(4, 5, 3, 5, 1), (5, 5, 3, 5, 0)])]
theorem kc_m : ((List.range 6).all fun j => (ai_ex (hk []) 300 45 tb_m45 9 [5, 42] (6, [(0, (0, 34, 0, 0)), (1, (1, 3, 0, 0)), (2, (1, 4, 0, 0)), (3, (1, 0, 0, (j : Int)))], [(1, 0, 0, (j : Int))], [(0, 0, false, 0, 0), (0, 2555, false, 1, 0), ((j : Int) + 1, 6, false, 2, 0), (0, 3, false, 3, 0), (0, 15, false, 4, 0), (0, 3, false, 5, 0), (1, 20, false, 6, 0), (0, 20, false, 7, 0), (0, 20, false, 8, 0)], [(34, 0, (1, 2, 0, 0)), (35, j, (1, 5, 0, 0)), (36, j, (1, 6, 0, 0)), (37, j, (1, 7, 0, 0)), (38, j, (1, 8, 0, 0))], [])).any fun xs => xs.all fun x => (kc_m_S j : List sm_t).any fun y => sm_is [] x y) = true := by decide +kernel
theorem kc_b : ((List.range 6).all fun j => (ai_ex (hk []) 300 45 tb_m45 9 [5] (46, [(0, (0, 34, 0, 0)), (1, (1, 3, 0, 0)), (2, (1, 4, 0, 0)), (3, (1, 0, 0, (j : Int)))], [(1, 2, 0, 0)], [(0, 0, false, 0, 0), (0, 2555, false, 1, 0), (0, 15, false, 2, 0), (0, 3, false, 3, 0), (0, 15, false, 4, 0)], [], [])).any fun xs => xs.all fun x => ([(5, [(0, (0, 34, 0, 0)), (1, (1, 3, 0, 0)), (2, (1, 2, 0, 0)), (3, (1, 0, 0, (j : Int) + 1))], [], [], [(0, 0, false, 0, 0), (0, 2555, false, 1, 0), (0, 15, false, 2, 0), (0, 3, false, 3, 0), (0, 15, false, 4, 0)], [])] : List sm_t).any fun y => sm_is [] x y) = true := by decide +kernel
theorem kc_0 : ((ai_ex (hk []) 300 45 tb_m45 9 [5] (0, [(0, (0, 34, 0, 0)), (1, (1, 2, 0, 0))], [], [(0, 0, false, 0, 0), (0, 2555, false, 1, 0), (0, 3, false, 2, 0)], [], [])).any fun xs => xs.all fun x => ([(5, [(0, (0, 34, 0, 0)), (1, (1, 2, 0, 0)), (2, (1, 0, 0, 15)), (3, (1, 0, 0, 0))], [], [], [(0, 0, false, 0, 0), (0, 2555, false, 1, 0), (0, 3, false, 2, 0)], [])] : List sm_t).any fun y => sm_is [] x y) = true := by decide +kernel
def km_0x_S (j : Nat) : List sm_t := [
  (108, [(0, (0, 49, 0, 0)), (1, (1, 3, 0, 0)), (2, (1, 4, 0, 0)), (3, (1, 0, 0, 0)), (4, (1, 5, 0, 0)), (5, (1, 0, 0, (j : Int)))], [(1, 0, 0, 0), (1, 4, 0, 0)], [], [(0, 0, false, 0, 0), (0, 2555, false, 1, 0), (0, (j : Int), false, 2, 0), (0, 3, false, 3, 0), (0, 15, false, 4, 0), (0, 0, false, 5, 0)], []),
  (103, [(0, (0, 49, 0, 0)), (1, (1, 3, 0, 0)), (2, (1, 4, 0, 0)), (3, (1, 0, 0, 0)), (4, (1, 5, 0, 0)), (5, (1, 0, 0, (j : Int)))], [(1, 0, 0, 0), (1, 0, 0, 1), (1, 4, 0, 0)], [], [(0, 0, false, 0, 0), (0, 2555, false, 1, 0), (0, (j : Int), false, 2, 0), (0, 3, false, 3, 0), (0, 15, false, 4, 0), (1, 1, false, 5, 0)], [(140, 5, 0, 5, 0)])]
theorem km_0x : ((List.range 7).all fun j => (ai_ex (hk []) 300 157 tb_m157 9 [15, 103, 108] (17, [(0, (0, 49, 0, 0)), (1, (1, 3, 0, 0)), (2, (1, 4, 0, 0)), (3, (1, 0, 0, 0)), (4, (1, 5, 0, 0)), (5, (1, 0, 0, (j : Int)))], [(1, 0, 0, (j : Int))], [(0, 0, false, 0, 0), (0, 2555, false, 1, 0), (0, (j : Int), false, 2, 0), (0, 3, false, 3, 0), (0, 15, false, 4, 0), (0, 1, false, 5, 0)], [(49, 19, (1, 2, 0, 0))], [])).any fun xs => xs.all fun x => (km_0x_S j : List sm_t).any fun y => sm_is [] x y) = true := by decide +kernel
theorem km_0tn : ((List.range 7).all fun j => (ai_ex (hk []) 300 157 tb_m157 9 [4] (109, [(0, (0, 49, 0, 0)), (1, (1, 3, 0, 0)), (2, (1, 4, 0, 0)), (3, (1, 0, 0, 0)), (4, (1, 5, 0, 0)), (5, (1, 0, 0, (j : Int)))], [(1, 2, 0, 0)], [(0, 0, false, 0, 0), (0, 2555, false, 1, 0), (0, 15, false, 2, 0), (0, 3, false, 3, 0), (0, 15, false, 4, 0), (0, 1, false, 5, 0)], [], [])).any fun xs => xs.all fun x => ([(4, [(0, (0, 49, 0, 0)), (1, (1, 3, 0, 0)), (2, (1, 2, 0, 0)), (3, (1, 0, 0, 1))], [], [], [(0, 0, false, 0, 0), (0, 2555, false, 1, 0), (0, 15, false, 2, 0), (0, 3, false, 3, 0), (0, 15, false, 4, 0), (0, 1, false, 5, 0)], [])] : List sm_t).any fun y => sm_is [] x y) = true := by decide +kernel
theorem km_0ty : ((List.range 7).all fun j => (ai_ex (hk []) 300 157 tb_m157 9 [4] (109, [(0, (0, 49, 0, 0)), (1, (1, 3, 0, 0)), (2, (1, 4, 0, 0)), (3, (1, 0, 0, 0)), (4, (1, 5, 0, 0)), (5, (1, 0, 0, (j : Int)))], [(1, 2, 0, 0)], [(0, 0, false, 0, 0), (0, 2555, false, 1, 0), (0, 15, false, 2, 0), (0, 3, false, 3, 0), (0, 15, false, 4, 0), (0, 1, false, 5, 0)], [], [])).any fun xs => xs.all fun x => ([(4, [(0, (0, 49, 0, 0)), (1, (1, 3, 0, 0)), (2, (1, 2, 0, 0)), (3, (1, 0, 0, 1))], [], [], [(0, 0, false, 0, 0), (0, 2555, false, 1, 0), (0, 15, false, 2, 0), (0, 3, false, 3, 0), (0, 15, false, 4, 0), (0, 1, false, 5, 0)], [])] : List sm_t).any fun y => sm_is [] x y) = true := by decide +kernel
def km_0m_S (j : Nat) : List sm_t := [
  (15, [(0, (0, 49, 0, 0)), (1, (1, 3, 0, 0)), (2, (1, 4, 0, 0)), (3, (1, 0, 0, 0)), (4, (1, 0, 0, 0)), (5, (1, 0, 0, (j : Int) + 1))], [], [], [(0, 0, false, 0, 0), (0, 2555, false, 1, 0), ((j : Int) + 1, 6, false, 2, 0), (0, 3, false, 3, 0), (0, 15, false, 4, 0), (0, 0, false, 5, 0), (0, 3, false, 6, 0), (1, 20, false, 7, 0), (0, 20, false, 8, 0), (0, 20, false, 9, 0)], []),
  (15, [(0, (0, 49, 0, 0)), (1, (1, 3, 0, 0)), (2, (1, 4, 0, 0)), (3, (1, 0, 0, 0)), (4, (1, 0, 0, 1)), (5, (1, 0, 0, (j : Int) + 1))], [], [], [(0, 0, false, 0, 0), (0, 2555, false, 1, 0), ((j : Int) + 1, 6, false, 2, 0), (0, 3, false, 3, 0), (0, 15, false, 4, 0), (1, 1, false, 5, 0), (0, 3, false, 6, 0), (1, 20, false, 7, 0), (0, 20, false, 8, 0), (0, 20, false, 9, 0)], [(140, 6, 3, 6, 0), (140, 5, 0, 5, 0)]),
  (15, [(0, (0, 49, 0, 0)), (1, (1, 3, 0, 0)), (2, (1, 4, 0, 0)), (3, (1, 0, 0, 0)), (4, (1, 0, 0, 0)), (5, (1, 0, 0, (j : Int) + 1))], [], [], [(0, 0, false, 0, 0), (0, 2555, false, 1, 0), ((j : Int) + 1, 6, false, 2, 0), (0, 3, false, 3, 0), (0, 15, false, 4, 0), (1, 1, false, 5, 0), (0, 3, false, 6, 0), (1, 20, false, 7, 0), (0, 20, false, 8, 0), (0, 20, false, 9, 0)], [(140, 7, 9, 7, 0), (4, 6, 3, 6, 1), (5, 6, 3, 6, 0), (140, 5, 0, 5, 0)]),
  (15, [(0, (0, 49, 0, 0)), (1, (1, 3, 0, 0)), (2, (1, 4, 0, 0)), (3, (1, 0, 0, 0)), (4, (1, 0, 0, 1)), (5, (1, 0, 0, (j : Int) + 1))], [], [], [(0, 0, false, 0, 0), (0, 2555, false, 1, 0), ((j : Int) + 1, 6, false, 2, 0), (0, 3, false, 3, 0), (0, 15, false, 4, 0), (1, 1, false, 5, 0), (0, 3, false, 6, 0), (1, 20, false, 7, 0), (0, 20, false, 8, 0), (1, 20, false, 9, 0)], [(4, 7, 9, 7, 1), (5, 7, 9, 7, 0), (4, 6, 3, 6, 1), (5, 6, 3, 6, 0), (140, 5, 0, 5, 0)])]
theorem km_0m : ((List.range 6).all fun j => (ai_ex (hk []) 300 157 tb_m157 9 [15] (17, [(0, (0, 49, 0, 0)), (1, (1, 3, 0, 0)), (2, (1, 4, 0, 0)), (3, (1, 0, 0, 0)), (4, (1, 5, 0, 0)), (5, (1, 0, 0, (j : Int)))], [(1, 0, 0, (j : Int))], [(0, 0, false, 0, 0), (0, 2555, false, 1, 0), ((j : Int) + 1, 6, false, 2, 0), (0, 3, false, 3, 0), (0, 15, false, 4, 0), (0, 1, false, 5, 0), (0, 3, false, 6, 0), (1, 20, false, 7, 0), (0, 20, false, 8, 0), (0, 20, false, 9, 0)], [(49, 19, (1, 2, 0, 0)), (55, 4 * j + 0, (1, 6, 0, 0)), (55, 4 * j + 1, (1, 7, 0, 0)), (55, 4 * j + 2, (1, 8, 0, 0)), (55, 4 * j + 3, (1, 9, 0, 0))], [])).any fun xs => xs.all fun x => (km_0m_S j : List sm_t).any fun y => sm_is [] x y) = true := by decide +kernel
def km_1x_S (j : Nat) : List sm_t := [
  (108, [(0, (0, 49, 0, 0)), (1, (1, 3, 0, 0)), (2, (1, 4, 0, 0)), (3, (1, 0, 0, 1)), (4, (1, 5, 0, 0)), (5, (1, 0, 0, (j : Int)))], [(1, 0, 0, 0), (1, 4, 0, 0)], [], [(0, 0, false, 0, 0), (0, 2555, false, 1, 0), (0, (j : Int), false, 2, 0), (0, 3, false, 3, 0), (0, 15, false, 4, 0), (0, 0, false, 5, 0)], []),
  (103, [(0, (0, 49, 0, 0)), (1, (1, 3, 0, 0)), (2, (1, 4, 0, 0)), (3, (1, 0, 0, 1)), (4, (1, 5, 0, 0)), (5, (1, 0, 0, (j : Int)))], [(1, 0, 0, 1), (1, 0, 0, 1), (1, 4, 0, 0)], [], [(0, 0, false, 0, 0), (0, 2555, false, 1, 0), (0, (j : Int), false, 2, 0), (0, 3, false, 3, 0), (0, 15, false, 4, 0), (1, 1, false, 5, 0)], [(140, 5, 0, 5, 0)])]
theorem km_1x : ((List.range 7).all fun j => (ai_ex (hk []) 300 157 tb_m157 9 [15, 103, 108] (17, [(0, (0, 49, 0, 0)), (1, (1, 3, 0, 0)), (2, (1, 4, 0, 0)), (3, (1, 0, 0, 1)), (4, (1, 5, 0, 0)), (5, (1, 0, 0, (j : Int)))], [(1, 0, 0, (j : Int))], [(0, 0, false, 0, 0), (0, 2555, false, 1, 0), (0, (j : Int), false, 2, 0), (0, 3, false, 3, 0), (0, 15, false, 4, 0), (0, 1, false, 5, 0)], [(49, 19, (1, 2, 0, 0))], [])).any fun xs => xs.all fun x => (km_1x_S j : List sm_t).any fun y => sm_is [] x y) = true := by decide +kernel
theorem km_1tn : ((List.range 7).all fun j => (ai_ex (hk []) 300 157 tb_m157 9 [4] (109, [(0, (0, 49, 0, 0)), (1, (1, 3, 0, 0)), (2, (1, 4, 0, 0)), (3, (1, 0, 0, 1)), (4, (1, 5, 0, 0)), (5, (1, 0, 0, (j : Int)))], [(1, 2, 0, 0)], [(0, 0, false, 0, 0), (0, 2555, false, 1, 0), (0, 15, false, 2, 0), (0, 3, false, 3, 0), (0, 15, false, 4, 0), (0, 1, false, 5, 0)], [], [])).any fun xs => xs.all fun x => ([(4, [(0, (0, 49, 0, 0)), (1, (1, 3, 0, 0)), (2, (1, 2, 0, 0)), (3, (1, 0, 0, 2))], [], [], [(0, 0, false, 0, 0), (0, 2555, false, 1, 0), (0, 15, false, 2, 0), (0, 3, false, 3, 0), (0, 15, false, 4, 0), (0, 1, false, 5, 0)], [])] : List sm_t).any fun y => sm_is [] x y) = true := by decide +kernel
theorem km_1ty : ((List.range 7).all fun j => (ai_ex (hk []) 300 157 tb_m157 9 [4] (109, [(0, (0, 49, 0, 0)), (1, (1, 3, 0, 0)), (2, (1, 4, 0, 0)), (3, (1, 0, 0, 1)), (4, (1, 5, 0, 0)), (5, (1, 0, 0, (j : Int)))], [(1, 2, 0, 0)], [(0, 0, false, 0, 0), (0, 2555, false, 1, 0), (0, 15, false, 2, 0), (0, 3, false, 3, 0), (0, 15, false, 4, 0), (0, 1, false, 5, 0)], [], [])).any fun xs => xs.all fun x => ([(4, [(0, (0, 49, 0, 0)), (1, (1, 3, 0, 0)), (2, (1, 2, 0, 0)), (3, (1, 0, 0, 2))], [], [], [(0, 0, false, 0, 0), (0, 2555, false, 1, 0), (0, 15, false, 2, 0), (0, 3, false, 3, 0), (0, 15, false, 4, 0), (0, 1, false, 5, 0)], [])] : List sm_t).any fun y => sm_is [] x y) = true := by decide +kernel
def km_1m_S (j : Nat) : List sm_t := [
  (15, [(0, (0, 49, 0, 0)), (1, (1, 3, 0, 0)), (2, (1, 4, 0, 0)), (3, (1, 0, 0, 1)), (4, (1, 0, 0, 0)), (5, (1, 0, 0, (j : Int) + 1))], [], [], [(0, 0, false, 0, 0), (0, 2555, false, 1, 0), ((j : Int) + 1, 6, false, 2, 0), (0, 3, false, 3, 0), (0, 15, false, 4, 0), (0, 0, false, 5, 0), (0, 3, false, 6, 0), (1, 20, false, 7, 0), (0, 20, false, 8, 0), (0, 20, false, 9, 0)], []),
  (15, [(0, (0, 49, 0, 0)), (1, (1, 3, 0, 0)), (2, (1, 4, 0, 0)), (3, (1, 0, 0, 1)), (4, (1, 0, 0, 1)), (5, (1, 0, 0, (j : Int) + 1))], [], [], [(0, 0, false, 0, 0), (0, 2555, false, 1, 0), ((j : Int) + 1, 6, false, 2, 0), (0, 3, false, 3, 0), (0, 15, false, 4, 0), (1, 1, false, 5, 0), (0, 3, false, 6, 0), (1, 20, false, 7, 0), (0, 20, false, 8, 0), (0, 20, false, 9, 0)], [(140, 6, 3, 6, 0), (140, 5, 0, 5, 0)]),
  (15, [(0, (0, 49, 0, 0)), (1, (1, 3, 0, 0)), (2, (1, 4, 0, 0)), (3, (1, 0, 0, 1)), (4, (1, 0, 0, 0)), (5, (1, 0, 0, (j : Int) + 1))], [], [], [(0, 0, false, 0, 0), (0, 2555, false, 1, 0), ((j : Int) + 1, 6, false, 2, 0), (0, 3, false, 3, 0), (0, 15, false, 4, 0), (1, 1, false, 5, 0), (0, 3, false, 6, 0), (1, 20, false, 7, 0), (0, 20, false, 8, 0), (0, 20, false, 9, 0), (0, 10, false, 10, 0)], [(140, 10, 9, 10, 0), (152, 7, 7, 10, 0), (4, 6, 3, 6, 1), (5, 6, 3, 6, 0), (140, 5, 0, 5, 0)]),
  (15, [(0, (0, 49, 0, 0)), (1, (1, 3, 0, 0)), (2, (1, 4, 0, 0)), (3, (1, 0, 0, 1)), (4, (1, 0, 0, 1)), (5, (1, 0, 0, (j : Int) + 1))], [], [], [(0, 0, false, 0, 0), (0, 2555, false, 1, 0), ((j : Int) + 1, 6, false, 2, 0), (0, 3, false, 3, 0), (0, 15, false, 4, 0), (1, 1, false, 5, 0), (0, 3, false, 6, 0), (1, 20, false, 7, 0), (0, 20, false, 8, 0), (0, 10, false, 9, 0), (0, 10, false, 10, 0)], [(4, 10, 9, 10, 1), (5, 10, 9, 10, 0), (152, 7, 7, 10, 0), (4, 6, 3, 6, 1), (5, 6, 3, 6, 0), (140, 5, 0, 5, 0)])]
theorem km_1m : ((List.range 6).all fun j => (ai_ex (hk []) 300 157 tb_m157 9 [15] (17, [(0, (0, 49, 0, 0)), (1, (1, 3, 0, 0)), (2, (1, 4, 0, 0)), (3, (1, 0, 0, 1)), (4, (1, 5, 0, 0)), (5, (1, 0, 0, (j : Int)))], [(1, 0, 0, (j : Int))], [(0, 0, false, 0, 0), (0, 2555, false, 1, 0), ((j : Int) + 1, 6, false, 2, 0), (0, 3, false, 3, 0), (0, 15, false, 4, 0), (0, 1, false, 5, 0), (0, 3, false, 6, 0), (1, 20, false, 7, 0), (0, 20, false, 8, 0), (0, 20, false, 9, 0)], [(49, 19, (1, 2, 0, 0)), (55, 4 * j + 0, (1, 6, 0, 0)), (55, 4 * j + 1, (1, 7, 0, 0)), (55, 4 * j + 2, (1, 8, 0, 0)), (55, 4 * j + 3, (1, 9, 0, 0))], [])).any fun xs => xs.all fun x => (km_1m_S j : List sm_t).any fun y => sm_is [] x y) = true := by decide +kernel
def km_2x_S (j : Nat) : List sm_t := [
  (108, [(0, (0, 49, 0, 0)), (1, (1, 3, 0, 0)), (2, (1, 4, 0, 0)), (3, (1, 0, 0, 2)), (4, (1, 5, 0, 0)), (5, (1, 0, 0, (j : Int)))], [(1, 0, 0, 0), (1, 4, 0, 0)], [], [(0, 0, false, 0, 0), (0, 2555, false, 1, 0), (0, (j : Int), false, 2, 0), (0, 3, false, 3, 0), (0, 15, false, 4, 0), (0, 0, false, 5, 0)], []),
  (103, [(0, (0, 49, 0, 0)), (1, (1, 3, 0, 0)), (2, (1, 4, 0, 0)), (3, (1, 0, 0, 2)), (4, (1, 5, 0, 0)), (5, (1, 0, 0, (j : Int)))], [(1, 0, 0, 2), (1, 0, 0, 1), (1, 4, 0, 0)], [], [(0, 0, false, 0, 0), (0, 2555, false, 1, 0), (0, (j : Int), false, 2, 0), (0, 3, false, 3, 0), (0, 15, false, 4, 0), (1, 1, false, 5, 0)], [(140, 5, 0, 5, 0)])]
theorem km_2x : ((List.range 7).all fun j => (ai_ex (hk []) 300 157 tb_m157 9 [15, 103, 108] (17, [(0, (0, 49, 0, 0)), (1, (1, 3, 0, 0)), (2, (1, 4, 0, 0)), (3, (1, 0, 0, 2)), (4, (1, 5, 0, 0)), (5, (1, 0, 0, (j : Int)))], [(1, 0, 0, (j : Int))], [(0, 0, false, 0, 0), (0, 2555, false, 1, 0), (0, (j : Int), false, 2, 0), (0, 3, false, 3, 0), (0, 15, false, 4, 0), (0, 1, false, 5, 0)], [(49, 19, (1, 2, 0, 0))], [])).any fun xs => xs.all fun x => (km_2x_S j : List sm_t).any fun y => sm_is [] x y) = true := by decide +kernel
theorem km_2tn : ((List.range 7).all fun j => (ai_ex (hk []) 300 157 tb_m157 9 [4] (109, [(0, (0, 49, 0, 0)), (1, (1, 3, 0, 0)), (2, (1, 4, 0, 0)), (3, (1, 0, 0, 2)), (4, (1, 5, 0, 0)), (5, (1, 0, 0, (j : Int)))], [(1, 2, 0, 0)], [(0, 0, false, 0, 0), (0, 2555, false, 1, 0), (0, 15, false, 2, 0), (0, 3, false, 3, 0), (0, 15, false, 4, 0), (0, 1, false, 5, 0)], [], [])).any fun xs => xs.all fun x => ([(4, [(0, (0, 49, 0, 0)), (1, (1, 3, 0, 0)), (2, (1, 2, 0, 0)), (3, (1, 0, 0, 3))], [], [], [(0, 0, false, 0, 0), (0, 2555, false, 1, 0), (0, 15, false, 2, 0), (0, 3, false, 3, 0), (0, 15, false, 4, 0), (0, 1, false, 5, 0)], [])] : List sm_t).any fun y => sm_is [] x y) = true := by decide +kernel
theorem km_2ty : ((List.range 7).all fun j => (ai_ex (hk []) 300 157 tb_m157 9 [4] (109, [(0, (0, 49, 0, 0)), (1, (1, 3, 0, 0)), (2, (1, 4, 0, 0)), (3, (1, 0, 0, 2)), (4, (1, 5, 0, 0)), (5, (1, 0, 0, (j : Int)))], [(1, 2, 0, 0)], [(0, 0, false, 0, 0), (0, 2555, false, 1, 0), (0, 15, false, 2, 0), (0, 3, false, 3, 0), (0, 15, false, 4, 0), (0, 1, false, 5, 0)], [], [])).any fun xs => xs.all fun x => ([(4, [(0, (0, 49, 0, 0)), (1, (1, 3, 0, 0)), (2, (1, 2, 0, 0)), (3, (1, 0, 0, 3))], [], [], [(0, 0, false, 0, 0), (0, 2555, false, 1, 0), (0, 15, false, 2, 0), (0, 3, false, 3, 0), (0, 15, false, 4, 0), (0, 1, false, 5, 0)], [])] : List sm_t).any fun y => sm_is [] x y) = true := by decide +kernel
def km_2m_S (j : Nat) : List sm_t := [
  (15, [(0, (0, 49, 0, 0)), (1, (1, 3, 0, 0)), (2, (1, 4, 0, 0)), (3, (1, 0, 0, 2)), (4, (1, 0, 0, 0)), (5, (1, 0, 0, (j : Int) + 1))], [], [], [(0, 0, false, 0, 0), (0, 2555, false, 1, 0), ((j : Int) + 1, 6, false, 2, 0), (0, 3, false, 3, 0), (0, 15, false, 4, 0), (0, 0, false, 5, 0), (0, 3, false, 6, 0), (1, 20, false, 7, 0), (0, 20, false, 8, 0), (0, 20, false, 9, 0)], []),
  (15, [(0, (0, 49, 0, 0)), (1, (1, 3, 0, 0)), (2, (1, 4, 0, 0)), (3, (1, 0, 0, 2)), (4, (1, 0, 0, 1)), (5, (1, 0, 0, (j : Int) + 1))], [], [], [(0, 0, false, 0, 0), (0, 2555, false, 1, 0), ((j : Int) + 1, 6, false, 2, 0), (0, 3, false, 3, 0), (0, 15, false, 4, 0), (1, 1, false, 5, 0), (0, 3, false, 6, 0), (1, 20, false, 7, 0), (0, 20, false, 8, 0), (0, 20, false, 9, 0)], [(140, 6, 3, 6, 0), (140, 5, 0, 5, 0)]),
  (15, [(0, (0, 49, 0, 0)), (1, (1, 3, 0, 0)), (2, (1, 4, 0, 0)), (3, (1, 0, 0, 2)), (4, (1, 0, 0, 0)), (5, (1, 0, 0, (j : Int) + 1))], [], [], [(0, 0, false, 0, 0), (0, 2555, false, 1, 0), ((j : Int) + 1, 6, false, 2, 0), (0, 3, false, 3, 0), (0, 15, false, 4, 0), (1, 1, false, 5, 0), (0, 3, false, 6, 0), (1, 20, false, 7, 0), (0, 20, false, 8, 0), (0, 20, false, 9, 0), (0, 10, false, 10, 0), (0, 2, false, 11, 0)], [(140, 11, 9, 11, 0), (154, 10, 10, 11, 0), (152, 7, 7, 10, 0), (4, 6, 3, 6, 1), (5, 6, 3, 6, 0), (140, 5, 0, 5, 0)]),
  (15, [(0, (0, 49, 0, 0)), (1, (1, 3, 0, 0)), (2, (1, 4, 0, 0)), (3, (1, 0, 0, 2)), (4, (1, 0, 0, 1)), (5, (1, 0, 0, (j : Int) + 1))], [], [], [(0, 0, false, 0, 0), (0, 2555, false, 1, 0), ((j : Int) + 1, 6, false, 2, 0), (0, 3, false, 3, 0), (0, 15, false, 4, 0), (1, 1, false, 5, 0), (0, 3, false, 6, 0), (1, 20, false, 7, 0), (0, 20, false, 8, 0), (0, 2, false, 9, 0), (0, 10, false, 10, 0), (0, 2, false, 11, 0)], [(4, 11, 9, 11, 1), (5, 11, 9, 11, 0), (154, 10, 10, 11, 0), (152, 7, 7, 10, 0), (4, 6, 3, 6, 1), (5, 6, 3, 6, 0), (140, 5, 0, 5, 0)])]
theorem km_2m : ((List.range 6).all fun j => (ai_ex (hk []) 300 157 tb_m157 9 [15] (17, [(0, (0, 49, 0, 0)), (1, (1, 3, 0, 0)), (2, (1, 4, 0, 0)), (3, (1, 0, 0, 2)), (4, (1, 5, 0, 0)), (5, (1, 0, 0, (j : Int)))], [(1, 0, 0, (j : Int))], [(0, 0, false, 0, 0), (0, 2555, false, 1, 0), ((j : Int) + 1, 6, false, 2, 0), (0, 3, false, 3, 0), (0, 15, false, 4, 0), (0, 1, false, 5, 0), (0, 3, false, 6, 0), (1, 20, false, 7, 0), (0, 20, false, 8, 0), (0, 20, false, 9, 0)], [(49, 19, (1, 2, 0, 0)), (55, 4 * j + 0, (1, 6, 0, 0)), (55, 4 * j + 1, (1, 7, 0, 0)), (55, 4 * j + 2, (1, 8, 0, 0)), (55, 4 * j + 3, (1, 9, 0, 0))], [])).any fun xs => xs.all fun x => (km_2m_S j : List sm_t).any fun y => sm_is [] x y) = true := by decide +kernel
def km_3x_S (j : Nat) : List sm_t := [
  (108, [(0, (0, 49, 0, 0)), (1, (1, 3, 0, 0)), (2, (1, 4, 0, 0)), (3, (1, 0, 0, 3)), (4, (1, 5, 0, 0)), (5, (1, 0, 0, (j : Int)))], [(1, 0, 0, 0), (1, 4, 0, 0)], [], [(0, 0, false, 0, 0), (0, 2555, false, 1, 0), (0, (j : Int), false, 2, 0), (0, 3, false, 3, 0), (0, 15, false, 4, 0), (0, 0, false, 5, 0)], []),
  (103, [(0, (0, 49, 0, 0)), (1, (1, 3, 0, 0)), (2, (1, 4, 0, 0)), (3, (1, 0, 0, 3)), (4, (1, 5, 0, 0)), (5, (1, 0, 0, (j : Int)))], [(1, 0, 0, 3), (1, 0, 0, 1), (1, 4, 0, 0)], [], [(0, 0, false, 0, 0), (0, 2555, false, 1, 0), (0, (j : Int), false, 2, 0), (0, 3, false, 3, 0), (0, 15, false, 4, 0), (1, 1, false, 5, 0)], [(140, 5, 0, 5, 0)])]
theorem km_3x : ((List.range 7).all fun j => (ai_ex (hk []) 300 157 tb_m157 9 [15, 103, 108] (17, [(0, (0, 49, 0, 0)), (1, (1, 3, 0, 0)), (2, (1, 4, 0, 0)), (3, (1, 0, 0, 3)), (4, (1, 5, 0, 0)), (5, (1, 0, 0, (j : Int)))], [(1, 0, 0, (j : Int))], [(0, 0, false, 0, 0), (0, 2555, false, 1, 0), (0, (j : Int), false, 2, 0), (0, 3, false, 3, 0), (0, 15, false, 4, 0), (0, 1, false, 5, 0)], [(49, 19, (1, 2, 0, 0))], [])).any fun xs => xs.all fun x => (km_3x_S j : List sm_t).any fun y => sm_is [] x y) = true := by decide +kernel
theorem km_3tn : ((List.range 7).all fun j => (ai_ex (hk []) 300 157 tb_m157 9 [4] (109, [(0, (0, 49, 0, 0)), (1, (1, 3, 0, 0)), (2, (1, 4, 0, 0)), (3, (1, 0, 0, 3)), (4, (1, 5, 0, 0)), (5, (1, 0, 0, (j : Int)))], [(1, 2, 0, 0)], [(0, 0, false, 0, 0), (0, 2555, false, 1, 0), (0, 15, false, 2, 0), (0, 3, false, 3, 0), (0, 15, false, 4, 0), (0, 1, false, 5, 0)], [], [])).any fun xs => xs.all fun x => ([(4, [(0, (0, 49, 0, 0)), (1, (1, 3, 0, 0)), (2, (1, 2, 0, 0)), (3, (1, 0, 0, 4))], [], [], [(0, 0, false, 0, 0), (0, 2555, false, 1, 0), (0, 15, false, 2, 0), (0, 3, false, 3, 0), (0, 15, false, 4, 0), (0, 1, false, 5, 0)], [])] : List sm_t).any fun y => sm_is [] x y) = true := by decide +kernel
theorem km_3ty : ((List.range 7).all fun j => (ai_ex (hk []) 300 157 tb_m157 9 [4] (109, [(0, (0, 49, 0, 0)), (1, (1, 3, 0, 0)), (2, (1, 4, 0, 0)), (3, (1, 0, 0, 3)), (4, (1, 5, 0, 0)), (5, (1, 0, 0, (j : Int)))], [(1, 2, 0, 0)], [(0, 0, false, 0, 0), (0, 2555, false, 1, 0), (0, 15, false, 2, 0), (0, 3, false, 3, 0), (0, 15, false, 4, 0), (0, 1, false, 5, 0)], [], [])).any fun xs => xs.all fun x => ([(4, [(0, (0, 49, 0, 0)), (1, (1, 3, 0, 0)), (2, (1, 2, 0, 0)), (3, (1, 0, 0, 4))], [], [], [(0, 0, false, 0, 0), (0, 2555, false, 1, 0), (0, 15, false, 2, 0), (0, 3, false, 3, 0), (0, 15, false, 4, 0), (0, 1, false, 5, 0)], [])] : List sm_t).any fun y => sm_is [] x y) = true := by decide +kernel
def km_3m_S (j : Nat) : List sm_t := [
  (15, [(0, (0, 49, 0, 0)), (1, (1, 3, 0, 0)), (2, (1, 4, 0, 0)), (3, (1, 0, 0, 3)), (4, (1, 0, 0, 0)), (5, (1, 0, 0, (j : Int) + 1))], [], [], [(0, 0, false, 0, 0), (0, 2555, false, 1, 0), ((j : Int) + 1, 6, false, 2, 0), (0, 3, false, 3, 0), (0, 15, false, 4, 0), (0, 0, false, 5, 0), (0, 3, false, 6, 0), (1, 20, false, 7, 0), (0, 20, false, 8, 0), (0, 20, false, 9, 0)], []),
  (15, [(0, (0, 49, 0, 0)), (1, (1, 3, 0, 0)), (2, (1, 4, 0, 0)), (3, (1, 0, 0, 3)), (4, (1, 0, 0, 1)), (5, (1, 0, 0, (j : Int) + 1))], [], [], [(0, 0, false, 0, 0), (0, 2555, false, 1, 0), ((j : Int) + 1, 6, false, 2, 0), (0, 3, false, 3, 0), (0, 15, false, 4, 0), (1, 1, false, 5, 0), (0, 3, false, 6, 0), (1, 20, false, 7, 0), (0, 20, false, 8, 0), (0, 20, false, 9, 0)], [(140, 6, 3, 6, 0), (140, 5, 0, 5, 0)]),
  (15, [(0, (0, 49, 0, 0)), (1, (1, 3, 0, 0)), (2, (1, 4, 0, 0)), (3, (1, 0, 0, 3)), (4, (1, 0, 0, 0)), (5, (1, 0, 0, (j : Int) + 1))], [], [], [(0, 0, false, 0, 0), (0, 2555, false, 1, 0), ((j : Int) + 1, 6, false, 2, 0), (0, 3, false, 3, 0), (0, 15, false, 4, 0), (1, 1, false, 5, 0), (0, 3, false, 6, 0), (1, 20, false, 7, 0), (0, 20, false, 8, 0), (1, 20, false, 9, 0), (1, 40, false, 10, 0)], [(4, 7, 10, 7, 1), (502, 8, 8, 10, 0), (4, 6, 3, 6, 1), (5, 6, 3, 6, 0), (140, 5, 0, 5, 0)]),
  (15, [(0, (0, 49, 0, 0)), (1, (1, 3, 0, 0)), (2, (1, 4, 0, 0)), (3, (1, 0, 0, 3)), (4, (1, 0, 0, 1)), (5, (1, 0, 0, (j : Int) + 1))], [], [], [(0, 0, false, 0, 0), (0, 2555, false, 1, 0), ((j : Int) + 1, 6, false, 2, 0), (0, 3, false, 3, 0), (0, 15, false, 4, 0), (1, 1, false, 5, 0), (0, 3, false, 6, 0), (1, 20, false, 7, 0), (0, 20, false, 8, 0), (0, 0, false, 9, 0), (1, 40, false, 10, 0)], [(4, 7, 10, 7, 1), (502, 8, 8, 10, 0), (4, 6, 3, 6, 1), (5, 6, 3, 6, 0), (140, 5, 0, 5, 0)]),
  (15, [(0, (0, 49, 0, 0)), (1, (1, 3, 0, 0)), (2, (1, 4, 0, 0)), (3, (1, 0, 0, 3)), (4, (1, 0, 0, 0)), (5, (1, 0, 0, (j : Int) + 1))], [], [], [(0, 0, false, 0, 0), (0, 2555, false, 1, 0), ((j : Int) + 1, 6, false, 2, 0), (0, 3, false, 3, 0), (0, 15, false, 4, 0), (1, 1, false, 5, 0), (0, 3, false, 6, 0), (1, 20, false, 7, 0), (0, 20, false, 8, 0), (0, 20, false, 9, 0), (0, 19, false, 10, 0), (0, 40, false, 11, 0), (-39, 20, false, 12, 0)], [(140, 12, 9, 12, 0), (0, 7, 11, 12, 0), (502, 8, 8, 11, 0), (5, 7, 10, 7, 1), (502, 8, 8, 10, 0), (4, 6, 3, 6, 1), (5, 6, 3, 6, 0), (140, 5, 0, 5, 0)]),
  (15, [(0, (0, 49, 0, 0)), (1, (1, 3, 0, 0)), (2, (1, 4, 0, 0)), (3, (1, 0, 0, 3)), (4, (1, 0, 0, 1)), (5, (1, 0, 0, (j : Int) + 1))], [], [], [(0, 0, false, 0, 0), (0, 2555, false, 1, 0), ((j : Int) + 1, 6, false, 2, 0), (0, 3, false, 3, 0), (0, 15, false, 4, 0), (1, 1, false, 5, 0), (0, 3, false, 6, 0), (1, 20, false, 7, 0), (0, 20, false, 8, 0), (0, 20, false, 9, 0), (0, 19, false, 10, 0), (0, 40, false, 11, 0), (0, 20, false, 12, 0)], [(4, 12, 9, 12, 1), (5, 12, 9, 12, 0), (0, 7, 11, 12, 0), (502, 8, 8, 11, 0), (5, 7, 10, 7, 1), (502, 8, 8, 10, 0), (4, 6, 3, 6, 1), (5, 6, 3, 6, 0), (140, 5, 0, 5, 0)])]
theorem km_3m : ((List.range 6).all fun j => (ai_ex (hk []) 300 157 tb_m157 9 [15] (17, [(0, (0, 49, 0, 0)), (1, (1, 3, 0, 0)), (2, (1, 4, 0, 0)), (3, (1, 0, 0, 3)), (4, (1, 5, 0, 0)), (5, (1, 0, 0, (j : Int)))], [(1, 0, 0, (j : Int))], [(0, 0, false, 0, 0), (0, 2555, false, 1, 0), ((j : Int) + 1, 6, false, 2, 0), (0, 3, false, 3, 0), (0, 15, false, 4, 0), (0, 1, false, 5, 0), (0, 3, false, 6, 0), (1, 20, false, 7, 0), (0, 20, false, 8, 0), (0, 20, false, 9, 0)], [(49, 19, (1, 2, 0, 0)), (55, 4 * j + 0, (1, 6, 0, 0)), (55, 4 * j + 1, (1, 7, 0, 0)), (55, 4 * j + 2, (1, 8, 0, 0)), (55, 4 * j + 3, (1, 9, 0, 0))], [])).any fun xs => xs.all fun x => (km_3m_S j : List sm_t).any fun y => sm_is [] x y) = true := by decide +kernel
def km_x_S : List sm_t := [
  (117, [], [(1, 3, 0, 0)], [], [(0, 0, false, 0, 0), (0, 2555, false, 1, 0), (0, 3, false, 2, 0), (0, 15, false, 3, 0)], [])]
theorem km_x : ((ai_ex (hk []) 300 157 tb_m157 9 [4] (5, [(0, (0, 49, 0, 0)), (1, (1, 2, 0, 0)), (2, (1, 3, 0, 0)), (3, (1, 0, 0, 4))], [(1, 0, 0, 4)], [(0, 0, false, 0, 0), (0, 2555, false, 1, 0), (0, 3, false, 2, 0), (0, 15, false, 3, 0)], [], [])).any fun xs => xs.all fun x => (km_x_S : List sm_t).any fun y => sm_is [] x y) = true := by decide +kernel
theorem km_o : ((List.range 4).all fun k => (ai_ex (hk []) 300 157 tb_m157 9 [15] (5, [(0, (0, 49, 0, 0)), (1, (1, 2, 0, 0)), (2, (1, 3, 0, 0)), (3, (1, 0, 0, (k : Int)))], [(1, 0, 0, (k : Int))], [(0, 0, false, 0, 0), (0, 2555, false, 1, 0), (0, 3, false, 2, 0), (0, 15, false, 3, 0)], [], [])).any fun xs => xs.all fun x => ([(15, [(0, (0, 49, 0, 0)), (1, (1, 2, 0, 0)), (2, (1, 3, 0, 0)), (3, (1, 0, 0, (k : Int))), (4, (1, 0, 0, 1)), (5, (1, 0, 0, 0))], [], [], [(0, 0, false, 0, 0), (0, 2555, false, 1, 0), (0, 3, false, 2, 0), (0, 15, false, 3, 0)], [])] : List sm_t).any fun y => sm_is [] x y) = true := by decide +kernel
theorem km_0 : ((ai_ex (hk []) 300 157 tb_m157 9 [4] (0, [(0, (0, 49, 0, 0)), (1, (1, 2, 0, 0))], [], [(0, 0, false, 0, 0), (0, 2555, false, 1, 0), (0, 3, false, 2, 0)], [], [])).any fun xs => xs.all fun x => ([(4, [(0, (0, 49, 0, 0)), (1, (1, 2, 0, 0)), (2, (1, 0, 0, 0)), (3, (1, 0, 0, 0))], [], [], [(0, 0, false, 0, 0), (0, 2555, false, 1, 0), (0, 3, false, 2, 0)], [])] : List sm_t).any fun y => sm_is [] x y) = true := by decide +kernel
section KTY
variable {ad : List Nat} {M : ai_m} {d : Nat} {p : Program} {l : Launch} {e : Env} {R : Room} {s : State} {m : MethodId} {args : Array Value} {below : List Frame} {meth : Method} {c : Code} {D : va_G} {tys : ai_ty} {A : Nat → Prop} {b L : Nat} {sx : Nat → Int32} {cells slots : Nat} {Q : State → Prop}
theorem kt_loop {zy zs zp : Int32} {ws0 : va_W} (C : ai_cx tb_m97 8 p R s m args c D tys A b L sx cells slots) (hy : 0 ≤ zy.toInt ∧ zy.toInt ≤ 20) (hs : 1 ≤ zs.toInt ∧ zs.toInt ≤ 20) (hp : 0 ≤ zp.toInt ∧ zp.toInt ≤ 99)
    (kk : ∀ (ws' : va_W) (z : Int32) (lv' : List (Nat × Value)), ai_wd tb_TY ad tys ws' → ai_fr [] ws0 ws' → z.toInt = ((ktF zs.toInt zp.toInt zy.toInt 4 : Nat) : Int) → hG tb_m97 p l e R s m args below meth c D A cells slots Q 36 lv' [.int z] ws') :
    ∀ (f k : Nat) (za zk : Int32) (ws : va_W), k + f = 4 → za.toInt = ((ktF zs.toInt zp.toInt zy.toInt k : Nat) : Int) → zk.toInt = k → ai_wd tb_TY ad tys ws → ai_fr [] ws0 ws → hG tb_m97 p l e R s m args below meth c D A cells slots Q 5 [(0, .int zy), (1, .int zs), (2, .int zp), (3, .int za), (4, .int zk)] [] ws := by
  intro f
  induction f with
  | zero =>
    intro k za zk ws hf ea ek hw hfr
    have bk := ktF_b zs.toInt zp.toInt zy.toInt k (by omega)
    have hk : k = 4 := by omega
    subst hk
    refine hildw (j := 4) (x := zk) C (tv_m97.1.1.1 (5, .iload 4, 2) (List.mem_of_getElem? (i := 4) rfl)) (List.mem_of_getElem? (i := 4) rfl) ?_
    refine hsum (st := (7, [(0, (1, 2, 0, 0)), (1, (1, 3, 0, 0)), (2, (1, 4, 0, 0)), (3, (1, 5, 0, 0)), (4, (1, 0, 0, 4))], [(1, 0, 0, 4)], [(0, 0, false, 0, 0), (0, 2555, false, 1, 0), (0, 20, false, 2, 0), (1, 20, false, 3, 0), (0, 99, false, 4, 0), (0, 15, false, 5, 0)], [], [])) kt_x rfl C (r := [0, 0, zy.toInt, zs.toInt, zp.toInt, za.toInt]) ⟨en_mk (by simp only [en_b, and_true]; omega) rfl, sb0, ⟨rfl, int_dv (z := zy.toInt) rfl (by omega), rfl, int_dv (z := zs.toInt) rfl (by omega), rfl, int_dv (z := zp.toInt) rfl (by omega), rfl, int_dv (z := za.toInt) rfl (by omega), rfl, int_dv (z := 0) rfl (by omega), trivial⟩, ⟨int_dv (z := 0) rfl (by omega), trivial⟩, hw, k0, fun _ _ _ _ h => h, fun h => by cases h⟩ (fun x hx r1 lv1 st1 ws1 hx1 hb1 hl1 hs1 hlo1 hsk1 hw1 hV1 hf1 _ => ?_)
    unfold kt_x_S at hx
    have m1_2 := nm_x hx1 (k := 2) rfl
    have m1_3 := nm_x hx1 (k := 3) rfl
    have m1_4 := nm_x hx1 (k := 4) rfl
    have m1_5 := nm_x hx1 (k := 5) rfl
    have hx0 := List.mem_singleton.mp hx
    subst hx0
    dsimp only at hlo1 hsk1 ⊢
    simp (config := { decide := true }) only [bnd_b, lin_b, lin_q, Nat.reduceAdd, Nat.zero_add, Nat.reduceEqDiff, reduceIte, and_true, Int.add_zero] at hb1 hl1
    obtain ⟨z, rfl, hz⟩ := sk1 rfl hsk1
    rw [vn_at hx1 (n := 5) (z := za.toInt) rfl] at hz
    exact kk ws1 z lv1 hw1 (hfr.tr hf1) (by omega)
  | succ f ih =>
    intro k za zk ws hf ea ek hw hfr
    have bk := ktF_b zs.toInt zp.toInt zy.toInt k (by omega)
    have hk : k = 0 ∨ k = 1 ∨ k = 2 ∨ k = 3 := by omega
    rcases hk with rfl | rfl | rfl | rfl
    · skip
      refine hildw (j := 4) (x := zk) C (tv_m97.1.1.1 (5, .iload 4, 2) (List.mem_of_getElem? (i := 4) rfl)) (List.mem_of_getElem? (i := 4) rfl) ?_
      refine hsum (st := (7, [(0, (1, 2, 0, 0)), (1, (1, 3, 0, 0)), (2, (1, 4, 0, 0)), (3, (1, 5, 0, 0)), (4, (1, 0, 0, 0))], [(1, 0, 0, 0)], [(0, 0, false, 0, 0), (0, 2555, false, 1, 0), (0, 20, false, 2, 0), (1, 20, false, 3, 0), (0, 99, false, 4, 0), (0, 15, false, 5, 0)], [], [])) kt_0 rfl C (r := [0, 0, zy.toInt, zs.toInt, zp.toInt, za.toInt]) ⟨en_mk (by simp only [en_b, and_true]; omega) rfl, sb0, ⟨rfl, int_dv (z := zy.toInt) rfl (by omega), rfl, int_dv (z := zs.toInt) rfl (by omega), rfl, int_dv (z := zp.toInt) rfl (by omega), rfl, int_dv (z := za.toInt) rfl (by omega), rfl, int_dv (z := 0) rfl (by omega), trivial⟩, ⟨int_dv (z := 0) rfl (by omega), trivial⟩, hw, k0, fun _ _ _ _ h => h, fun h => by cases h⟩ (fun x hx r1 lv1 st1 ws1 hx1 hb1 hl1 hs1 hlo1 hsk1 hw1 hV1 hf1 _ => ?_)
      unfold kt_0_S at hx
      have m1_2 := nm_x hx1 (k := 2) rfl
      have m1_3 := nm_x hx1 (k := 3) rfl
      have m1_4 := nm_x hx1 (k := 4) rfl
      have m1_5 := nm_x hx1 (k := 5) rfl
      rcases List.mem_cons.mp hx with rfl | hx
      · skip
        dsimp only at hlo1 hsk1 ⊢
        simp (config := { decide := true }) only [bnd_b, lin_b, lin_q, Nat.reduceAdd, Nat.zero_add, Nat.reduceEqDiff, reduceIte, and_true, Int.add_zero] at hb1 hl1
        cases hsk1.nil
        obtain ⟨y10, l10, rfl, d10, p10⟩ := lo_int rfl hlo1
        obtain ⟨y11, l11, rfl, d11, p11⟩ := lo_int rfl p10
        obtain ⟨y12, l12, rfl, d12, p12⟩ := lo_int rfl p11
        obtain ⟨y13, l13, rfl, d13, p13⟩ := lo_int rfl p12
        obtain ⟨y14, l14, rfl, d14, p14⟩ := lo_int rfl p13
        cases lo_nil p14
        rw [vn_at hx1 (n := 2) (z := zy.toInt) rfl] at d10
        have e10 : zy = y10 := Int32.toInt_inj.mp (by omega)
        subst e10
        rw [vn_at hx1 (n := 3) (z := zs.toInt) rfl] at d11
        have e11 : zs = y11 := Int32.toInt_inj.mp (by omega)
        subst e11
        rw [vn_at hx1 (n := 4) (z := zp.toInt) rfl] at d12
        have e12 : zp = y12 := Int32.toInt_inj.mp (by omega)
        subst e12
        rw [vn_at hx1 (n := 5) (z := za.toInt) rfl] at d13
        have e13 : za = y13 := Int32.toInt_inj.mp (by omega)
        subst e13
        rw [vn_at hx1 (n := 0) (z := 0) rfl] at d14
        have hne : ¬ (yl ((0 : Nat) : Int) zs.toInt zp.toInt = zy.toInt) := by
          rw [yl_0]
          omega
        exact ih 1 za y14 ws1 (by omega) (by rw [ktF_n hne]; exact ea) (by omega) hw1 (hfr.tr hf1)
      have hx0 := List.mem_singleton.mp hx
      subst hx0
      dsimp only at hlo1 hsk1 ⊢
      simp (config := { decide := true }) only [bnd_b, lin_b, lin_q, Nat.reduceAdd, Nat.zero_add, Nat.reduceEqDiff, reduceIte, and_true, Int.add_zero] at hb1 hl1
      obtain ⟨y10, l10, rfl, d10, p10⟩ := lo_int rfl hlo1
      obtain ⟨y11, l11, rfl, d11, p11⟩ := lo_int rfl p10
      obtain ⟨y12, l12, rfl, d12, p12⟩ := lo_int rfl p11
      obtain ⟨y13, l13, rfl, d13, p13⟩ := lo_int rfl p12
      obtain ⟨y14, l14, rfl, d14, p14⟩ := lo_int rfl p13
      cases lo_nil p14
      rw [vn_at hx1 (n := 2) (z := zy.toInt) rfl] at d10
      have e10 : zy = y10 := Int32.toInt_inj.mp (by omega)
      subst e10
      rw [vn_at hx1 (n := 3) (z := zs.toInt) rfl] at d11
      have e11 : zs = y11 := Int32.toInt_inj.mp (by omega)
      subst e11
      rw [vn_at hx1 (n := 4) (z := zp.toInt) rfl] at d12
      have e12 : zp = y12 := Int32.toInt_inj.mp (by omega)
      subst e12
      rw [vn_at hx1 (n := 5) (z := za.toInt) rfl] at d13
      have e13 : za = y13 := Int32.toInt_inj.mp (by omega)
      subst e13
      rw [vn_at hx1 (n := 0) (z := 0) rfl] at d14
      have e14 : zk = y14 := Int32.toInt_inj.mp (by omega)
      subst e14
      obtain ⟨x10, s10, rfl, c10, g10⟩ := hsk1.cons
      obtain ⟨x11, s11, rfl, c11, g11⟩ := g10.cons
      obtain ⟨x12, s12, rfl, c12, g12⟩ := g11.cons
      cases g12.nil
      obtain ⟨u10, rfl, w10⟩ := dvn c10 (hx1.at (k := 0) rfl)
      obtain ⟨u11, rfl, w11⟩ := dvn c11 (hx1.at (k := 0) rfl)
      obtain ⟨u12, rfl, w12⟩ := dvn c12 (hx1.at (k := 5) rfl)
      have hyes : yl ((0 : Nat) : Int) zs.toInt zp.toInt = zy.toInt := by
        rw [yl_0]
        omega
      have q1 : u10 = Int32.ofNat 0 := i32_of (by omega) (by omega)
      have q2 : u11 = 1 := Int32.toInt_inj.mp (by rw [w11]; decide)
      have q3 : u12 = Int32.ofNat (ktF zs.toInt zp.toInt zy.toInt 0) := i32_of (by omega) (by omega)
      subst q1 q2 q3
      have hor := or_i 0 (by omega) _ bk
      have hob := or_b 0 (by omega) _ bk
      refine hishl (pc := 26) C (tv_m97.1.1.1 (26, .ishl, 1) (List.mem_of_getElem? (i := 16) rfl)) ?_
      refine hior (pc := 27) C (tv_m97.1.1.1 (27, .ior, 1) (List.mem_of_getElem? (i := 17) rfl)) ?_
      generalize (Int32.ofNat (ktF zs.toInt zp.toInt zy.toInt 0) ||| ((1 : Int32) <<< (Int32.ofNat 0 &&& 31))) = zv at hor ⊢
      refine hsum (st := (28, [(0, (1, 2, 0, 0)), (1, (1, 3, 0, 0)), (2, (1, 4, 0, 0)), (3, (1, 5, 0, 0)), (4, (1, 0, 0, 0))], [(1, 6, 0, 0)], [(0, 0, false, 0, 0), (0, 2555, false, 1, 0), (0, 20, false, 2, 0), (1, 20, false, 3, 0), (0, 99, false, 4, 0), (0, 15, false, 5, 0), (0, 15, false, 6, 0)], [], [])) kt_b0 rfl C (r := [0, 0, zy.toInt, zs.toInt, zp.toInt, za.toInt, zv.toInt]) ⟨en_mk (by simp only [en_b, and_true]; omega) rfl, sb0, ⟨rfl, int_dv (z := zy.toInt) rfl (by omega), rfl, int_dv (z := zs.toInt) rfl (by omega), rfl, int_dv (z := zp.toInt) rfl (by omega), rfl, int_dv (z := za.toInt) rfl (by omega), rfl, int_dv (z := 0) rfl (by omega), trivial⟩, ⟨int_dv (z := zv.toInt) rfl (by omega), trivial⟩, hw1, k0, fun _ _ _ _ h => h, fun h => by cases h⟩ (fun x hx r2 lv2 st2 ws2 hx2 hb2 hl2 hs2 hlo2 hsk2 hw2 hV2 hf2 _ => ?_)
      have hx9 := List.mem_singleton.mp hx
      subst hx9
      dsimp only at hlo2 hsk2 ⊢
      obtain ⟨y20, l20, rfl, d20, p20⟩ := lo_int rfl hlo2
      obtain ⟨y21, l21, rfl, d21, p21⟩ := lo_int rfl p20
      obtain ⟨y22, l22, rfl, d22, p22⟩ := lo_int rfl p21
      obtain ⟨y23, l23, rfl, d23, p23⟩ := lo_int rfl p22
      obtain ⟨y24, l24, rfl, d24, p24⟩ := lo_int rfl p23
      cases lo_nil p24
      rw [vn_at hx2 (n := 2) (z := zy.toInt) rfl] at d20
      have e20 : zy = y20 := Int32.toInt_inj.mp (by omega)
      subst e20
      rw [vn_at hx2 (n := 3) (z := zs.toInt) rfl] at d21
      have e21 : zs = y21 := Int32.toInt_inj.mp (by omega)
      subst e21
      rw [vn_at hx2 (n := 4) (z := zp.toInt) rfl] at d22
      have e22 : zp = y22 := Int32.toInt_inj.mp (by omega)
      subst e22
      rw [vn_at hx2 (n := 6) (z := zv.toInt) rfl] at d23
      rw [vn_at hx2 (n := 0) (z := 0) rfl] at d24
      cases hsk2.nil
      exact ih 1 y23 y24 ws2 (by omega) (by rw [ktF_y hyes]; omega) (by omega) hw2 ((hfr.tr hf1).tr hf2)
    · skip
      refine hildw (j := 4) (x := zk) C (tv_m97.1.1.1 (5, .iload 4, 2) (List.mem_of_getElem? (i := 4) rfl)) (List.mem_of_getElem? (i := 4) rfl) ?_
      refine hsum (st := (7, [(0, (1, 2, 0, 0)), (1, (1, 3, 0, 0)), (2, (1, 4, 0, 0)), (3, (1, 5, 0, 0)), (4, (1, 0, 0, 1))], [(1, 0, 0, 1)], [(0, 0, false, 0, 0), (0, 2555, false, 1, 0), (0, 20, false, 2, 0), (1, 20, false, 3, 0), (0, 99, false, 4, 0), (0, 15, false, 5, 0)], [], [])) kt_1 rfl C (r := [0, 0, zy.toInt, zs.toInt, zp.toInt, za.toInt]) ⟨en_mk (by simp only [en_b, and_true]; omega) rfl, sb0, ⟨rfl, int_dv (z := zy.toInt) rfl (by omega), rfl, int_dv (z := zs.toInt) rfl (by omega), rfl, int_dv (z := zp.toInt) rfl (by omega), rfl, int_dv (z := za.toInt) rfl (by omega), rfl, int_dv (z := 0) rfl (by omega), trivial⟩, ⟨int_dv (z := 0) rfl (by omega), trivial⟩, hw, k0, fun _ _ _ _ h => h, fun h => by cases h⟩ (fun x hx r1 lv1 st1 ws1 hx1 hb1 hl1 hs1 hlo1 hsk1 hw1 hV1 hf1 _ => ?_)
      unfold kt_1_S at hx
      have m1_2 := nm_x hx1 (k := 2) rfl
      have m1_3 := nm_x hx1 (k := 3) rfl
      have m1_4 := nm_x hx1 (k := 4) rfl
      have m1_5 := nm_x hx1 (k := 5) rfl
      rcases List.mem_cons.mp hx with rfl | hx
      · skip
        dsimp only at hlo1 hsk1 ⊢
        simp (config := { decide := true }) only [bnd_b, lin_b, lin_q, Nat.reduceAdd, Nat.zero_add, Nat.reduceEqDiff, reduceIte, and_true, Int.add_zero] at hb1 hl1
        cases hsk1.nil
        obtain ⟨y10, l10, rfl, d10, p10⟩ := lo_int rfl hlo1
        obtain ⟨y11, l11, rfl, d11, p11⟩ := lo_int rfl p10
        obtain ⟨y12, l12, rfl, d12, p12⟩ := lo_int rfl p11
        obtain ⟨y13, l13, rfl, d13, p13⟩ := lo_int rfl p12
        obtain ⟨y14, l14, rfl, d14, p14⟩ := lo_int rfl p13
        cases lo_nil p14
        rw [vn_at hx1 (n := 2) (z := zy.toInt) rfl] at d10
        have e10 : zy = y10 := Int32.toInt_inj.mp (by omega)
        subst e10
        rw [vn_at hx1 (n := 3) (z := zs.toInt) rfl] at d11
        have e11 : zs = y11 := Int32.toInt_inj.mp (by omega)
        subst e11
        rw [vn_at hx1 (n := 4) (z := zp.toInt) rfl] at d12
        have e12 : zp = y12 := Int32.toInt_inj.mp (by omega)
        subst e12
        rw [vn_at hx1 (n := 5) (z := za.toInt) rfl] at d13
        have e13 : za = y13 := Int32.toInt_inj.mp (by omega)
        subst e13
        rw [vn_at hx1 (n := 0) (z := 0) rfl] at d14
        have hne : ¬ (yl ((1 : Nat) : Int) zs.toInt zp.toInt = zy.toInt) := by
          rw [yl_1]
          omega
        exact ih 2 za y14 ws1 (by omega) (by rw [ktF_n hne]; exact ea) (by omega) hw1 (hfr.tr hf1)
      have hx0 := List.mem_singleton.mp hx
      subst hx0
      dsimp only at hlo1 hsk1 ⊢
      simp (config := { decide := true }) only [bnd_b, lin_b, lin_q, Nat.reduceAdd, Nat.zero_add, Nat.reduceEqDiff, reduceIte, and_true, Int.add_zero] at hb1 hl1
      obtain ⟨y10, l10, rfl, d10, p10⟩ := lo_int rfl hlo1
      obtain ⟨y11, l11, rfl, d11, p11⟩ := lo_int rfl p10
      obtain ⟨y12, l12, rfl, d12, p12⟩ := lo_int rfl p11
      obtain ⟨y13, l13, rfl, d13, p13⟩ := lo_int rfl p12
      obtain ⟨y14, l14, rfl, d14, p14⟩ := lo_int rfl p13
      cases lo_nil p14
      rw [vn_at hx1 (n := 2) (z := zy.toInt) rfl] at d10
      have e10 : zy = y10 := Int32.toInt_inj.mp (by omega)
      subst e10
      rw [vn_at hx1 (n := 3) (z := zs.toInt) rfl] at d11
      have e11 : zs = y11 := Int32.toInt_inj.mp (by omega)
      subst e11
      rw [vn_at hx1 (n := 4) (z := zp.toInt) rfl] at d12
      have e12 : zp = y12 := Int32.toInt_inj.mp (by omega)
      subst e12
      rw [vn_at hx1 (n := 5) (z := za.toInt) rfl] at d13
      have e13 : za = y13 := Int32.toInt_inj.mp (by omega)
      subst e13
      rw [vn_at hx1 (n := 0) (z := 0) rfl] at d14
      have e14 : zk = y14 := Int32.toInt_inj.mp (by omega)
      subst e14
      obtain ⟨x10, s10, rfl, c10, g10⟩ := hsk1.cons
      obtain ⟨x11, s11, rfl, c11, g11⟩ := g10.cons
      obtain ⟨x12, s12, rfl, c12, g12⟩ := g11.cons
      cases g12.nil
      obtain ⟨u10, rfl, w10⟩ := dvn c10 (hx1.at (k := 0) rfl)
      obtain ⟨u11, rfl, w11⟩ := dvn c11 (hx1.at (k := 0) rfl)
      obtain ⟨u12, rfl, w12⟩ := dvn c12 (hx1.at (k := 5) rfl)
      have hyes : yl ((1 : Nat) : Int) zs.toInt zp.toInt = zy.toInt := by
        rw [yl_1]
        omega
      have q1 : u10 = Int32.ofNat 1 := i32_of (by omega) (by omega)
      have q2 : u11 = 1 := Int32.toInt_inj.mp (by rw [w11]; decide)
      have q3 : u12 = Int32.ofNat (ktF zs.toInt zp.toInt zy.toInt 1) := i32_of (by omega) (by omega)
      subst q1 q2 q3
      have hor := or_i 1 (by omega) _ bk
      have hob := or_b 1 (by omega) _ bk
      refine hishl (pc := 26) C (tv_m97.1.1.1 (26, .ishl, 1) (List.mem_of_getElem? (i := 16) rfl)) ?_
      refine hior (pc := 27) C (tv_m97.1.1.1 (27, .ior, 1) (List.mem_of_getElem? (i := 17) rfl)) ?_
      generalize (Int32.ofNat (ktF zs.toInt zp.toInt zy.toInt 1) ||| ((1 : Int32) <<< (Int32.ofNat 1 &&& 31))) = zv at hor ⊢
      refine hsum (st := (28, [(0, (1, 2, 0, 0)), (1, (1, 3, 0, 0)), (2, (1, 4, 0, 0)), (3, (1, 5, 0, 0)), (4, (1, 0, 0, 1))], [(1, 6, 0, 0)], [(0, 0, false, 0, 0), (0, 2555, false, 1, 0), (0, 20, false, 2, 0), (1, 20, false, 3, 0), (0, 99, false, 4, 0), (0, 15, false, 5, 0), (0, 15, false, 6, 0)], [], [])) kt_b1 rfl C (r := [0, 0, zy.toInt, zs.toInt, zp.toInt, za.toInt, zv.toInt]) ⟨en_mk (by simp only [en_b, and_true]; omega) rfl, sb0, ⟨rfl, int_dv (z := zy.toInt) rfl (by omega), rfl, int_dv (z := zs.toInt) rfl (by omega), rfl, int_dv (z := zp.toInt) rfl (by omega), rfl, int_dv (z := za.toInt) rfl (by omega), rfl, int_dv (z := 0) rfl (by omega), trivial⟩, ⟨int_dv (z := zv.toInt) rfl (by omega), trivial⟩, hw1, k0, fun _ _ _ _ h => h, fun h => by cases h⟩ (fun x hx r2 lv2 st2 ws2 hx2 hb2 hl2 hs2 hlo2 hsk2 hw2 hV2 hf2 _ => ?_)
      have hx9 := List.mem_singleton.mp hx
      subst hx9
      dsimp only at hlo2 hsk2 ⊢
      obtain ⟨y20, l20, rfl, d20, p20⟩ := lo_int rfl hlo2
      obtain ⟨y21, l21, rfl, d21, p21⟩ := lo_int rfl p20
      obtain ⟨y22, l22, rfl, d22, p22⟩ := lo_int rfl p21
      obtain ⟨y23, l23, rfl, d23, p23⟩ := lo_int rfl p22
      obtain ⟨y24, l24, rfl, d24, p24⟩ := lo_int rfl p23
      cases lo_nil p24
      rw [vn_at hx2 (n := 2) (z := zy.toInt) rfl] at d20
      have e20 : zy = y20 := Int32.toInt_inj.mp (by omega)
      subst e20
      rw [vn_at hx2 (n := 3) (z := zs.toInt) rfl] at d21
      have e21 : zs = y21 := Int32.toInt_inj.mp (by omega)
      subst e21
      rw [vn_at hx2 (n := 4) (z := zp.toInt) rfl] at d22
      have e22 : zp = y22 := Int32.toInt_inj.mp (by omega)
      subst e22
      rw [vn_at hx2 (n := 6) (z := zv.toInt) rfl] at d23
      rw [vn_at hx2 (n := 0) (z := 0) rfl] at d24
      cases hsk2.nil
      exact ih 2 y23 y24 ws2 (by omega) (by rw [ktF_y hyes]; omega) (by omega) hw2 ((hfr.tr hf1).tr hf2)
    · skip
      refine hildw (j := 4) (x := zk) C (tv_m97.1.1.1 (5, .iload 4, 2) (List.mem_of_getElem? (i := 4) rfl)) (List.mem_of_getElem? (i := 4) rfl) ?_
      refine hsum (st := (7, [(0, (1, 2, 0, 0)), (1, (1, 3, 0, 0)), (2, (1, 4, 0, 0)), (3, (1, 5, 0, 0)), (4, (1, 0, 0, 2))], [(1, 0, 0, 2)], [(0, 0, false, 0, 0), (0, 2555, false, 1, 0), (0, 20, false, 2, 0), (1, 20, false, 3, 0), (0, 99, false, 4, 0), (0, 15, false, 5, 0)], [], [])) kt_2 rfl C (r := [0, 0, zy.toInt, zs.toInt, zp.toInt, za.toInt]) ⟨en_mk (by simp only [en_b, and_true]; omega) rfl, sb0, ⟨rfl, int_dv (z := zy.toInt) rfl (by omega), rfl, int_dv (z := zs.toInt) rfl (by omega), rfl, int_dv (z := zp.toInt) rfl (by omega), rfl, int_dv (z := za.toInt) rfl (by omega), rfl, int_dv (z := 0) rfl (by omega), trivial⟩, ⟨int_dv (z := 0) rfl (by omega), trivial⟩, hw, k0, fun _ _ _ _ h => h, fun h => by cases h⟩ (fun x hx r1 lv1 st1 ws1 hx1 hb1 hl1 hs1 hlo1 hsk1 hw1 hV1 hf1 _ => ?_)
      unfold kt_2_S at hx
      have m1_2 := nm_x hx1 (k := 2) rfl
      have m1_3 := nm_x hx1 (k := 3) rfl
      have m1_4 := nm_x hx1 (k := 4) rfl
      have m1_5 := nm_x hx1 (k := 5) rfl
      rcases List.mem_cons.mp hx with rfl | hx
      · skip
        dsimp only at hlo1 hsk1 ⊢
        simp (config := { decide := true }) only [bnd_b, lin_b, lin_q, Nat.reduceAdd, Nat.zero_add, Nat.reduceEqDiff, reduceIte, and_true, Int.add_zero] at hb1 hl1
        cases hsk1.nil
        obtain ⟨y10, l10, rfl, d10, p10⟩ := lo_int rfl hlo1
        obtain ⟨y11, l11, rfl, d11, p11⟩ := lo_int rfl p10
        obtain ⟨y12, l12, rfl, d12, p12⟩ := lo_int rfl p11
        obtain ⟨y13, l13, rfl, d13, p13⟩ := lo_int rfl p12
        obtain ⟨y14, l14, rfl, d14, p14⟩ := lo_int rfl p13
        cases lo_nil p14
        rw [vn_at hx1 (n := 2) (z := zy.toInt) rfl] at d10
        have e10 : zy = y10 := Int32.toInt_inj.mp (by omega)
        subst e10
        rw [vn_at hx1 (n := 3) (z := zs.toInt) rfl] at d11
        have e11 : zs = y11 := Int32.toInt_inj.mp (by omega)
        subst e11
        rw [vn_at hx1 (n := 4) (z := zp.toInt) rfl] at d12
        have e12 : zp = y12 := Int32.toInt_inj.mp (by omega)
        subst e12
        rw [vn_at hx1 (n := 5) (z := za.toInt) rfl] at d13
        have e13 : za = y13 := Int32.toInt_inj.mp (by omega)
        subst e13
        rw [vn_at hx1 (n := 0) (z := 0) rfl] at d14
        have hne : ¬ (yl ((2 : Nat) : Int) zs.toInt zp.toInt = zy.toInt) := by
          rw [yl_2]
          omega
        exact ih 3 za y14 ws1 (by omega) (by rw [ktF_n hne]; exact ea) (by omega) hw1 (hfr.tr hf1)
      have hx0 := List.mem_singleton.mp hx
      subst hx0
      dsimp only at hlo1 hsk1 ⊢
      simp (config := { decide := true }) only [bnd_b, lin_b, lin_q, Nat.reduceAdd, Nat.zero_add, Nat.reduceEqDiff, reduceIte, and_true, Int.add_zero] at hb1 hl1
      obtain ⟨y10, l10, rfl, d10, p10⟩ := lo_int rfl hlo1
      obtain ⟨y11, l11, rfl, d11, p11⟩ := lo_int rfl p10
      obtain ⟨y12, l12, rfl, d12, p12⟩ := lo_int rfl p11
      obtain ⟨y13, l13, rfl, d13, p13⟩ := lo_int rfl p12
      obtain ⟨y14, l14, rfl, d14, p14⟩ := lo_int rfl p13
      cases lo_nil p14
      rw [vn_at hx1 (n := 2) (z := zy.toInt) rfl] at d10
      have e10 : zy = y10 := Int32.toInt_inj.mp (by omega)
      subst e10
      rw [vn_at hx1 (n := 3) (z := zs.toInt) rfl] at d11
      have e11 : zs = y11 := Int32.toInt_inj.mp (by omega)
      subst e11
      rw [vn_at hx1 (n := 4) (z := zp.toInt) rfl] at d12
      have e12 : zp = y12 := Int32.toInt_inj.mp (by omega)
      subst e12
      rw [vn_at hx1 (n := 5) (z := za.toInt) rfl] at d13
      have e13 : za = y13 := Int32.toInt_inj.mp (by omega)
      subst e13
      rw [vn_at hx1 (n := 0) (z := 0) rfl] at d14
      have e14 : zk = y14 := Int32.toInt_inj.mp (by omega)
      subst e14
      obtain ⟨x10, s10, rfl, c10, g10⟩ := hsk1.cons
      obtain ⟨x11, s11, rfl, c11, g11⟩ := g10.cons
      obtain ⟨x12, s12, rfl, c12, g12⟩ := g11.cons
      cases g12.nil
      obtain ⟨u10, rfl, w10⟩ := dvn c10 (hx1.at (k := 0) rfl)
      obtain ⟨u11, rfl, w11⟩ := dvn c11 (hx1.at (k := 0) rfl)
      obtain ⟨u12, rfl, w12⟩ := dvn c12 (hx1.at (k := 5) rfl)
      have hyes : yl ((2 : Nat) : Int) zs.toInt zp.toInt = zy.toInt := by
        rw [yl_2]
        omega
      have q1 : u10 = Int32.ofNat 2 := i32_of (by omega) (by omega)
      have q2 : u11 = 1 := Int32.toInt_inj.mp (by rw [w11]; decide)
      have q3 : u12 = Int32.ofNat (ktF zs.toInt zp.toInt zy.toInt 2) := i32_of (by omega) (by omega)
      subst q1 q2 q3
      have hor := or_i 2 (by omega) _ bk
      have hob := or_b 2 (by omega) _ bk
      refine hishl (pc := 26) C (tv_m97.1.1.1 (26, .ishl, 1) (List.mem_of_getElem? (i := 16) rfl)) ?_
      refine hior (pc := 27) C (tv_m97.1.1.1 (27, .ior, 1) (List.mem_of_getElem? (i := 17) rfl)) ?_
      generalize (Int32.ofNat (ktF zs.toInt zp.toInt zy.toInt 2) ||| ((1 : Int32) <<< (Int32.ofNat 2 &&& 31))) = zv at hor ⊢
      refine hsum (st := (28, [(0, (1, 2, 0, 0)), (1, (1, 3, 0, 0)), (2, (1, 4, 0, 0)), (3, (1, 5, 0, 0)), (4, (1, 0, 0, 2))], [(1, 6, 0, 0)], [(0, 0, false, 0, 0), (0, 2555, false, 1, 0), (0, 20, false, 2, 0), (1, 20, false, 3, 0), (0, 99, false, 4, 0), (0, 15, false, 5, 0), (0, 15, false, 6, 0)], [], [])) kt_b2 rfl C (r := [0, 0, zy.toInt, zs.toInt, zp.toInt, za.toInt, zv.toInt]) ⟨en_mk (by simp only [en_b, and_true]; omega) rfl, sb0, ⟨rfl, int_dv (z := zy.toInt) rfl (by omega), rfl, int_dv (z := zs.toInt) rfl (by omega), rfl, int_dv (z := zp.toInt) rfl (by omega), rfl, int_dv (z := za.toInt) rfl (by omega), rfl, int_dv (z := 0) rfl (by omega), trivial⟩, ⟨int_dv (z := zv.toInt) rfl (by omega), trivial⟩, hw1, k0, fun _ _ _ _ h => h, fun h => by cases h⟩ (fun x hx r2 lv2 st2 ws2 hx2 hb2 hl2 hs2 hlo2 hsk2 hw2 hV2 hf2 _ => ?_)
      have hx9 := List.mem_singleton.mp hx
      subst hx9
      dsimp only at hlo2 hsk2 ⊢
      obtain ⟨y20, l20, rfl, d20, p20⟩ := lo_int rfl hlo2
      obtain ⟨y21, l21, rfl, d21, p21⟩ := lo_int rfl p20
      obtain ⟨y22, l22, rfl, d22, p22⟩ := lo_int rfl p21
      obtain ⟨y23, l23, rfl, d23, p23⟩ := lo_int rfl p22
      obtain ⟨y24, l24, rfl, d24, p24⟩ := lo_int rfl p23
      cases lo_nil p24
      rw [vn_at hx2 (n := 2) (z := zy.toInt) rfl] at d20
      have e20 : zy = y20 := Int32.toInt_inj.mp (by omega)
      subst e20
      rw [vn_at hx2 (n := 3) (z := zs.toInt) rfl] at d21
      have e21 : zs = y21 := Int32.toInt_inj.mp (by omega)
      subst e21
      rw [vn_at hx2 (n := 4) (z := zp.toInt) rfl] at d22
      have e22 : zp = y22 := Int32.toInt_inj.mp (by omega)
      subst e22
      rw [vn_at hx2 (n := 6) (z := zv.toInt) rfl] at d23
      rw [vn_at hx2 (n := 0) (z := 0) rfl] at d24
      cases hsk2.nil
      exact ih 3 y23 y24 ws2 (by omega) (by rw [ktF_y hyes]; omega) (by omega) hw2 ((hfr.tr hf1).tr hf2)
    · skip
      refine hildw (j := 4) (x := zk) C (tv_m97.1.1.1 (5, .iload 4, 2) (List.mem_of_getElem? (i := 4) rfl)) (List.mem_of_getElem? (i := 4) rfl) ?_
      refine hsum (st := (7, [(0, (1, 2, 0, 0)), (1, (1, 3, 0, 0)), (2, (1, 4, 0, 0)), (3, (1, 5, 0, 0)), (4, (1, 0, 0, 3))], [(1, 0, 0, 3)], [(0, 0, false, 0, 0), (0, 2555, false, 1, 0), (0, 20, false, 2, 0), (1, 20, false, 3, 0), (0, 99, false, 4, 0), (0, 15, false, 5, 0)], [], [])) kt_3 rfl C (r := [0, 0, zy.toInt, zs.toInt, zp.toInt, za.toInt]) ⟨en_mk (by simp only [en_b, and_true]; omega) rfl, sb0, ⟨rfl, int_dv (z := zy.toInt) rfl (by omega), rfl, int_dv (z := zs.toInt) rfl (by omega), rfl, int_dv (z := zp.toInt) rfl (by omega), rfl, int_dv (z := za.toInt) rfl (by omega), rfl, int_dv (z := 0) rfl (by omega), trivial⟩, ⟨int_dv (z := 0) rfl (by omega), trivial⟩, hw, k0, fun _ _ _ _ h => h, fun h => by cases h⟩ (fun x hx r1 lv1 st1 ws1 hx1 hb1 hl1 hs1 hlo1 hsk1 hw1 hV1 hf1 _ => ?_)
      unfold kt_3_S at hx
      have m1_2 := nm_x hx1 (k := 2) rfl
      have m1_3 := nm_x hx1 (k := 3) rfl
      have m1_4 := nm_x hx1 (k := 4) rfl
      have m1_5 := nm_x hx1 (k := 5) rfl
      rcases List.mem_cons.mp hx with rfl | hx
      · skip
        dsimp only at hlo1 hsk1 ⊢
        simp (config := { decide := true }) only [bnd_b, lin_b, lin_q, Nat.reduceAdd, Nat.zero_add, Nat.reduceEqDiff, reduceIte, and_true, Int.add_zero] at hb1 hl1
        cases hsk1.nil
        obtain ⟨y10, l10, rfl, d10, p10⟩ := lo_int rfl hlo1
        obtain ⟨y11, l11, rfl, d11, p11⟩ := lo_int rfl p10
        obtain ⟨y12, l12, rfl, d12, p12⟩ := lo_int rfl p11
        obtain ⟨y13, l13, rfl, d13, p13⟩ := lo_int rfl p12
        obtain ⟨y14, l14, rfl, d14, p14⟩ := lo_int rfl p13
        cases lo_nil p14
        rw [vn_at hx1 (n := 2) (z := zy.toInt) rfl] at d10
        have e10 : zy = y10 := Int32.toInt_inj.mp (by omega)
        subst e10
        rw [vn_at hx1 (n := 3) (z := zs.toInt) rfl] at d11
        have e11 : zs = y11 := Int32.toInt_inj.mp (by omega)
        subst e11
        rw [vn_at hx1 (n := 4) (z := zp.toInt) rfl] at d12
        have e12 : zp = y12 := Int32.toInt_inj.mp (by omega)
        subst e12
        rw [vn_at hx1 (n := 5) (z := za.toInt) rfl] at d13
        have e13 : za = y13 := Int32.toInt_inj.mp (by omega)
        subst e13
        rw [vn_at hx1 (n := 0) (z := 0) rfl] at d14
        have hne : ¬ (yl ((3 : Nat) : Int) zs.toInt zp.toInt = zy.toInt) := by
          rw [yl_3]
          omega
        exact ih 4 za y14 ws1 (by omega) (by rw [ktF_n hne]; exact ea) (by omega) hw1 (hfr.tr hf1)
      have hx0 := List.mem_singleton.mp hx
      subst hx0
      dsimp only at hlo1 hsk1 ⊢
      simp (config := { decide := true }) only [bnd_b, lin_b, lin_q, Nat.reduceAdd, Nat.zero_add, Nat.reduceEqDiff, reduceIte, and_true, Int.add_zero] at hb1 hl1
      obtain ⟨y10, l10, rfl, d10, p10⟩ := lo_int rfl hlo1
      obtain ⟨y11, l11, rfl, d11, p11⟩ := lo_int rfl p10
      obtain ⟨y12, l12, rfl, d12, p12⟩ := lo_int rfl p11
      obtain ⟨y13, l13, rfl, d13, p13⟩ := lo_int rfl p12
      obtain ⟨y14, l14, rfl, d14, p14⟩ := lo_int rfl p13
      cases lo_nil p14
      rw [vn_at hx1 (n := 2) (z := zy.toInt) rfl] at d10
      have e10 : zy = y10 := Int32.toInt_inj.mp (by omega)
      subst e10
      rw [vn_at hx1 (n := 3) (z := zs.toInt) rfl] at d11
      have e11 : zs = y11 := Int32.toInt_inj.mp (by omega)
      subst e11
      rw [vn_at hx1 (n := 4) (z := zp.toInt) rfl] at d12
      have e12 : zp = y12 := Int32.toInt_inj.mp (by omega)
      subst e12
      rw [vn_at hx1 (n := 5) (z := za.toInt) rfl] at d13
      have e13 : za = y13 := Int32.toInt_inj.mp (by omega)
      subst e13
      rw [vn_at hx1 (n := 0) (z := 0) rfl] at d14
      have e14 : zk = y14 := Int32.toInt_inj.mp (by omega)
      subst e14
      obtain ⟨x10, s10, rfl, c10, g10⟩ := hsk1.cons
      obtain ⟨x11, s11, rfl, c11, g11⟩ := g10.cons
      obtain ⟨x12, s12, rfl, c12, g12⟩ := g11.cons
      cases g12.nil
      obtain ⟨u10, rfl, w10⟩ := dvn c10 (hx1.at (k := 0) rfl)
      obtain ⟨u11, rfl, w11⟩ := dvn c11 (hx1.at (k := 0) rfl)
      obtain ⟨u12, rfl, w12⟩ := dvn c12 (hx1.at (k := 5) rfl)
      have hyes : yl ((3 : Nat) : Int) zs.toInt zp.toInt = zy.toInt := by
        rw [yl_3]
        omega
      have q1 : u10 = Int32.ofNat 3 := i32_of (by omega) (by omega)
      have q2 : u11 = 1 := Int32.toInt_inj.mp (by rw [w11]; decide)
      have q3 : u12 = Int32.ofNat (ktF zs.toInt zp.toInt zy.toInt 3) := i32_of (by omega) (by omega)
      subst q1 q2 q3
      have hor := or_i 3 (by omega) _ bk
      have hob := or_b 3 (by omega) _ bk
      refine hishl (pc := 26) C (tv_m97.1.1.1 (26, .ishl, 1) (List.mem_of_getElem? (i := 16) rfl)) ?_
      refine hior (pc := 27) C (tv_m97.1.1.1 (27, .ior, 1) (List.mem_of_getElem? (i := 17) rfl)) ?_
      generalize (Int32.ofNat (ktF zs.toInt zp.toInt zy.toInt 3) ||| ((1 : Int32) <<< (Int32.ofNat 3 &&& 31))) = zv at hor ⊢
      refine hsum (st := (28, [(0, (1, 2, 0, 0)), (1, (1, 3, 0, 0)), (2, (1, 4, 0, 0)), (3, (1, 5, 0, 0)), (4, (1, 0, 0, 3))], [(1, 6, 0, 0)], [(0, 0, false, 0, 0), (0, 2555, false, 1, 0), (0, 20, false, 2, 0), (1, 20, false, 3, 0), (0, 99, false, 4, 0), (0, 15, false, 5, 0), (0, 15, false, 6, 0)], [], [])) kt_b3 rfl C (r := [0, 0, zy.toInt, zs.toInt, zp.toInt, za.toInt, zv.toInt]) ⟨en_mk (by simp only [en_b, and_true]; omega) rfl, sb0, ⟨rfl, int_dv (z := zy.toInt) rfl (by omega), rfl, int_dv (z := zs.toInt) rfl (by omega), rfl, int_dv (z := zp.toInt) rfl (by omega), rfl, int_dv (z := za.toInt) rfl (by omega), rfl, int_dv (z := 0) rfl (by omega), trivial⟩, ⟨int_dv (z := zv.toInt) rfl (by omega), trivial⟩, hw1, k0, fun _ _ _ _ h => h, fun h => by cases h⟩ (fun x hx r2 lv2 st2 ws2 hx2 hb2 hl2 hs2 hlo2 hsk2 hw2 hV2 hf2 _ => ?_)
      have hx9 := List.mem_singleton.mp hx
      subst hx9
      dsimp only at hlo2 hsk2 ⊢
      obtain ⟨y20, l20, rfl, d20, p20⟩ := lo_int rfl hlo2
      obtain ⟨y21, l21, rfl, d21, p21⟩ := lo_int rfl p20
      obtain ⟨y22, l22, rfl, d22, p22⟩ := lo_int rfl p21
      obtain ⟨y23, l23, rfl, d23, p23⟩ := lo_int rfl p22
      obtain ⟨y24, l24, rfl, d24, p24⟩ := lo_int rfl p23
      cases lo_nil p24
      rw [vn_at hx2 (n := 2) (z := zy.toInt) rfl] at d20
      have e20 : zy = y20 := Int32.toInt_inj.mp (by omega)
      subst e20
      rw [vn_at hx2 (n := 3) (z := zs.toInt) rfl] at d21
      have e21 : zs = y21 := Int32.toInt_inj.mp (by omega)
      subst e21
      rw [vn_at hx2 (n := 4) (z := zp.toInt) rfl] at d22
      have e22 : zp = y22 := Int32.toInt_inj.mp (by omega)
      subst e22
      rw [vn_at hx2 (n := 6) (z := zv.toInt) rfl] at d23
      rw [vn_at hx2 (n := 0) (z := 0) rfl] at d24
      cases hsk2.nil
      exact ih 4 y23 y24 ws2 (by omega) (by rw [ktF_y hyes]; omega) (by omega) hw2 ((hfr.tr hf1).tr hf2)
theorem kt_all {zy zs zp : Int32} {ws : va_W} (C : ai_cx tb_m97 8 p R s m args c D tys A b L sx cells slots) (hy : 0 ≤ zy.toInt ∧ zy.toInt ≤ 20) (hs : 1 ≤ zs.toInt ∧ zs.toInt ≤ 20) (hp : 0 ≤ zp.toInt ∧ zp.toInt ≤ 99) (hw : ai_wd tb_TY ad tys ws)
    (kk : ∀ (ws' : va_W) (z : Int32) (lv' : List (Nat × Value)), ai_wd tb_TY ad tys ws' → ai_fr [] ws ws' → z.toInt = ((ktF zs.toInt zp.toInt zy.toInt 4 : Nat) : Int) → hG tb_m97 p l e R s m args below meth c D A cells slots Q 36 lv' [.int z] ws') : hG tb_m97 p l e R s m args below meth c D A cells slots Q 0 [(0, .int zy), (1, .int zs), (2, .int zp)] [] ws := by
  refine hsum (st := (0, [(0, (1, 2, 0, 0)), (1, (1, 3, 0, 0)), (2, (1, 4, 0, 0))], [], [(0, 0, false, 0, 0), (0, 2555, false, 1, 0), (0, 20, false, 2, 0), (1, 20, false, 3, 0), (0, 99, false, 4, 0)], [], [])) kt_e rfl C (r := [0, 0, zy.toInt, zs.toInt, zp.toInt]) ⟨en_mk (by simp only [en_b, and_true]; omega) rfl, sb0, ⟨rfl, int_dv (z := zy.toInt) rfl (by omega), rfl, int_dv (z := zs.toInt) rfl (by omega), rfl, int_dv (z := zp.toInt) rfl (by omega), trivial⟩, trivial, hw, k0, fun _ _ _ _ h => h, fun h => by cases h⟩ (fun x hx r1 lv1 st1 ws1 hx1 hb1 hl1 hs1 hlo1 hsk1 hw1 hV1 hf1 _ => ?_)
  have hx9 := List.mem_singleton.mp hx
  subst hx9
  dsimp only at hlo1 hsk1 ⊢
  obtain ⟨y10, l10, rfl, d10, p10⟩ := lo_int rfl hlo1
  obtain ⟨y11, l11, rfl, d11, p11⟩ := lo_int rfl p10
  obtain ⟨y12, l12, rfl, d12, p12⟩ := lo_int rfl p11
  obtain ⟨y13, l13, rfl, d13, p13⟩ := lo_int rfl p12
  obtain ⟨y14, l14, rfl, d14, p14⟩ := lo_int rfl p13
  cases lo_nil p14
  rw [vn_at hx1 (n := 2) (z := zy.toInt) rfl] at d10
  have e10 : zy = y10 := Int32.toInt_inj.mp (by omega)
  subst e10
  rw [vn_at hx1 (n := 3) (z := zs.toInt) rfl] at d11
  have e11 : zs = y11 := Int32.toInt_inj.mp (by omega)
  subst e11
  rw [vn_at hx1 (n := 4) (z := zp.toInt) rfl] at d12
  have e12 : zp = y12 := Int32.toInt_inj.mp (by omega)
  subst e12
  rw [vn_at hx1 (n := 0) (z := 0) rfl] at d13
  rw [vn_at hx1 (n := 0) (z := 0) rfl] at d14
  cases hsk1.nil
  exact kt_loop C hy hs hp kk 4 0 y13 y14 ws1 rfl (by rw [show y13.toInt = 0 by omega]; rfl) (by omega) hw1 hf1
end KTY
section KOC
variable {ad : List Nat} {M : ai_m} {d : Nat} {p : Program} {l : Launch} {e : Env} {R : Room} {s : State} {m : MethodId} {args : Array Value} {below : List Frame} {meth : Method} {c : Code} {D : va_G} {tys : ai_ty} {A : Nat → Prop} {b L : Nat} {sx : Nat → Int32} {cells slots : Nat} {Q : State → Prop}
theorem kc_loop {a q : Nat} {S : Nat → Nat → Int} {T : Int} {zt : Int32} {ws0 : va_W} (C : ai_cx tb_m45 9 p R s m args c D tys A b L sx cells slots) (ha : ad[34]? = some a) (hq : q ≤ 6) (hS : ∀ j, j < q → seB (S j)) (hT : 0 ≤ T ∧ T ≤ 3) (ezt : zt.toInt = T) (hv0 : vi ws0 34 0 q) (hv : ∀ j, j < q → ∀ r, r < 4 → vi ws0 (35 + r) j (S j r))
    (kk : ∀ (ws' : va_W) (z : Int32) (lv' : List (Nat × Value)), ai_wd tb_TY ad tys ws' → ai_fr [] ws0 ws' → z.toInt = ((kiB S T q : Nat) : Int) → hG tb_m45 p l e R s m args below meth c D A cells slots Q 54 lv' [.int z] ws') :
    ∀ (f j : Nat) (zb zj : Int32) (ws : va_W), j + f = q → zb.toInt = ((kiB S T j : Nat) : Int) → zj.toInt = j → ai_wd tb_TY ad tys ws → ai_fr [] ws0 ws → hG tb_m45 p l e R s m args below meth c D A cells slots Q 5 [(0, .ref a), (1, .int zt), (2, .int zb), (3, .int zj)] [] ws := by
  intro f
  induction f with
  | zero =>
    intro j zb zj ws hf eb ej hw hfr
    have bk := kiB_b S T j
    have hj : j = q := by omega
    refine hild2 (j := 3) (x := zj) C (tv_m45.1.1.1 (5, .iload_n 3, 1) (List.mem_of_getElem? (i := 4) rfl)) (List.mem_of_getElem? (i := 3) rfl) ?_
    refine hsum (st := (6, [(0, (0, 34, 0, 0)), (1, (1, 3, 0, 0)), (2, (1, 4, 0, 0)), (3, (1, 0, 0, (j : Int)))], [(1, 0, 0, (j : Int))], [(0, 0, false, 0, 0), (0, 2555, false, 1, 0), (0, (j : Int), false, 2, 0), (0, 3, false, 3, 0), (0, 15, false, 4, 0)], [(34, 0, (1, 2, 0, 0))], [])) (List.all_eq_true.mp kc_x j (List.mem_range.mpr (by omega))) rfl C (r := [0, 0, (q : Int), zt.toInt, zb.toInt]) ⟨en_mk (by simp only [en_b, and_true]; omega) rfl, sb0, ⟨rfl, Or.inl ⟨rfl, a, ha, rfl⟩, rfl, int_dv (z := zt.toInt) rfl (by omega), rfl, int_dv (z := zb.toInt) rfl (by omega), rfl, int_dv (z := 0) rfl (by omega), trivial⟩, ⟨int_dv (z := 0) rfl (by omega), trivial⟩, hw, kc ((hv0.fr hfr rfl).kn (n := 2) (t := (q : Int)) rfl (by omega)) (k0), fun _ _ _ _ h => h, fun h => by cases h⟩ (fun x hx r1 lv1 st1 ws1 hx1 hb1 hl1 hs1 hlo1 hsk1 hw1 hV1 hf1 _ => ?_)
    unfold kc_x_S at hx
    have m1_2 := nm_x hx1 (k := 2) rfl
    have m1_3 := nm_x hx1 (k := 3) rfl
    have m1_4 := nm_x hx1 (k := 4) rfl
    have hx0 := List.mem_singleton.mp hx
    subst hx0
    dsimp only at hlo1 hsk1 ⊢
    simp (config := { decide := true }) only [bnd_b, lin_b, lin_q, Nat.reduceAdd, Nat.zero_add, Nat.reduceEqDiff, reduceIte, and_true, Int.add_zero] at hb1 hl1
    obtain ⟨z, rfl, hz⟩ := sk1 rfl hsk1
    rw [vn_at hx1 (n := 4) (z := zb.toInt) rfl] at hz
    exact kk ws1 z lv1 hw1 (hfr.tr hf1) (by rw [← hj]; omega)
  | succ f ih =>
    intro j zb zj ws hf eb ej hw hfr
    have bk := kiB_b S T j
    have hjq : j < q := by omega
    obtain ⟨s0, s1, s2, s3, s4⟩ := hS j hjq
    refine hild2 (j := 3) (x := zj) C (tv_m45.1.1.1 (5, .iload_n 3, 1) (List.mem_of_getElem? (i := 4) rfl)) (List.mem_of_getElem? (i := 3) rfl) ?_
    refine hsum (st := (6, [(0, (0, 34, 0, 0)), (1, (1, 3, 0, 0)), (2, (1, 4, 0, 0)), (3, (1, 0, 0, (j : Int)))], [(1, 0, 0, (j : Int))], [(0, 0, false, 0, 0), (0, 2555, false, 1, 0), ((j : Int) + 1, 6, false, 2, 0), (0, 3, false, 3, 0), (0, 15, false, 4, 0), (0, 3, false, 5, 0), (1, 20, false, 6, 0), (0, 20, false, 7, 0), (0, 20, false, 8, 0)], [(34, 0, (1, 2, 0, 0)), (35, j, (1, 5, 0, 0)), (36, j, (1, 6, 0, 0)), (37, j, (1, 7, 0, 0)), (38, j, (1, 8, 0, 0))], [])) (List.all_eq_true.mp kc_m j (List.mem_range.mpr (by omega))) rfl C (r := [0, 0, (q : Int), zt.toInt, zb.toInt, S j 0, S j 1, S j 2, S j 3]) ⟨en_mk (by simp only [en_b, and_true]; omega) rfl, sb0, ⟨rfl, Or.inl ⟨rfl, a, ha, rfl⟩, rfl, int_dv (z := zt.toInt) rfl (by omega), rfl, int_dv (z := zb.toInt) rfl (by omega), rfl, int_dv (z := 0) rfl (by omega), trivial⟩, ⟨int_dv (z := 0) rfl (by omega), trivial⟩, hw, kc ((hv0.fr hfr rfl).kn (n := 2) (t := (q : Int)) rfl (by omega)) (kc (((hv j hjq 0 (by decide)).fr hfr rfl).kn (n := 5) (t := S j 0) rfl (by omega)) (kc (((hv j hjq 1 (by decide)).fr hfr rfl).kn (n := 6) (t := S j 1) rfl (by omega)) (kc (((hv j hjq 2 (by decide)).fr hfr rfl).kn (n := 7) (t := S j 2) rfl (by omega)) (kc (((hv j hjq 3 (by decide)).fr hfr rfl).kn (n := 8) (t := S j 3) rfl (by omega)) (k0))))), fun _ _ _ _ h => h, fun h => by cases h⟩ (fun x hx r1 lv1 st1 ws1 hx1 hb1 hl1 hs1 hlo1 hsk1 hw1 hV1 hf1 _ => ?_)
    unfold kc_m_S at hx
    have m1_2 := nm_x hx1 (k := 2) rfl
    have m1_3 := nm_x hx1 (k := 3) rfl
    have m1_4 := nm_x hx1 (k := 4) rfl
    have m1_5 := nm_x hx1 (k := 5) rfl
    have m1_6 := nm_x hx1 (k := 6) rfl
    have m1_7 := nm_x hx1 (k := 7) rfl
    have m1_8 := nm_x hx1 (k := 8) rfl
    rcases List.mem_cons.mp hx with rfl | hx
    · skip
      dsimp only at hlo1 hsk1 ⊢
      simp (config := { decide := true }) only [bnd_b, lin_b, lin_q, Nat.reduceAdd, Nat.zero_add, Nat.reduceEqDiff, reduceIte, and_true, Int.add_zero] at hb1 hl1
      cases hsk1.nil
      obtain ⟨l10, rfl, p10⟩ := lo_ref ha hlo1
      obtain ⟨y11, l11, rfl, d11, p11⟩ := lo_int rfl p10
      obtain ⟨y12, l12, rfl, d12, p12⟩ := lo_int rfl p11
      obtain ⟨y13, l13, rfl, d13, p13⟩ := lo_int rfl p12
      cases lo_nil p13
      rw [vn_at hx1 (n := 3) (z := zt.toInt) rfl] at d11
      have e11 : zt = y11 := Int32.toInt_inj.mp (by omega)
      subst e11
      rw [vn_at hx1 (n := 4) (z := zb.toInt) rfl] at d12
      have e12 : zb = y12 := Int32.toInt_inj.mp (by omega)
      subst e12
      rw [vn_at hx1 (n := 0) (z := 0) rfl] at d13
      have hne : ¬ S j 0 = T := by omega
      exact ih (j + 1) zb y13 ws1 (by omega) (by rw [kiB_n hne]; exact eb) (by omega) hw1 (hfr.tr hf1)
    have hx0 := List.mem_singleton.mp hx
    subst hx0
    dsimp only at hlo1 hsk1 ⊢
    simp (config := { decide := true }) only [bnd_b, lin_b, lin_q, Nat.reduceAdd, Nat.zero_add, Nat.reduceEqDiff, reduceIte, and_true, Int.add_zero] at hb1 hl1
    obtain ⟨l10, rfl, p10⟩ := lo_ref ha hlo1
    obtain ⟨y11, l11, rfl, d11, p11⟩ := lo_int rfl p10
    obtain ⟨y12, l12, rfl, d12, p12⟩ := lo_int rfl p11
    obtain ⟨y13, l13, rfl, d13, p13⟩ := lo_int rfl p12
    cases lo_nil p13
    rw [vn_at hx1 (n := 3) (z := zt.toInt) rfl] at d11
    have e11 : zt = y11 := Int32.toInt_inj.mp (by omega)
    subst e11
    rw [vn_at hx1 (n := 4) (z := zb.toInt) rfl] at d12
    have e12 : zb = y12 := Int32.toInt_inj.mp (by omega)
    subst e12
    rw [vn_at hx1 (n := 0) (z := 0) rfl] at d13
    have e13 : zj = y13 := Int32.toInt_inj.mp (by omega)
    subst e13
    obtain ⟨x10, s10, rfl, c10, g10⟩ := hsk1.cons
    obtain ⟨x11, s11, rfl, c11, g11⟩ := g10.cons
    obtain ⟨x12, s12, rfl, c12, g12⟩ := g11.cons
    obtain ⟨x13, s13, rfl, c13, g13⟩ := g12.cons
    cases g13.nil
    obtain ⟨u10, rfl, w10⟩ := dvn c10 (hx1.at (k := 7) rfl)
    obtain ⟨u11, rfl, w11⟩ := dvn c11 (hx1.at (k := 6) rfl)
    obtain ⟨u12, rfl, w12⟩ := dvn c12 (hx1.at (k := 8) rfl)
    obtain ⟨u13, rfl, w13⟩ := dvn c13 (hx1.at (k := 4) rfl)
    have hyes : S j 0 = T := by omega
    refine hcallS (q := (28, 2, 97, 3, 0)) (M' := tb_m97) (As := [.int u12, .int u11, .int u10]) (rest := [.int u13]) (rets := [36]) (P := fun w z => ai_wd tb_TY ad tys w ∧ ai_fr [] ws1 w ∧ z.toInt = ((ktF (S j 1) (S j 2) (S j 3) 4 : Nat) : Int)) C (by decide) (tv_m45.1.1.1 (42, .invokestatic 28, 3) (List.mem_of_getElem? (i := 27) rfl)) (tv_m45.2 _ (List.mem_of_getElem? (i := 0) rfl)) (Or.inr rfl) rfl rfl rfl (Nat.le_of_ble_eq_true rfl) (Nat.le_of_ble_eq_true rfl) rfl (Nat.le_of_ble_eq_true rfl) ?_ ?_ ?_
    · intro pcr hp
      simp only [List.mem_cons, List.not_mem_nil, or_false] at hp
      rcases hp with rfl
      · exact tv_m97.1.1.1 (36, .ireturn, 1) (List.mem_of_getElem? (i := 22) rfl)
    · intro p2 e2 R2 s2 m2 args2 below2 meth2 c2 Q2 C2 kk2
      exact kt_all (mm_cx (by decide) C2) (by omega) (by omega) (by omega) hw1 (fun w z lv2 h1 h2 h3 => kk2 36 w z lv2 (by decide) ⟨h1, h2, by rw [h3, show u11.toInt = S j 1 by omega, show u10.toInt = S j 2 by omega, show u12.toInt = S j 3 by omega]⟩)
    · intro ws2 zk hP
      obtain ⟨hw2, hf2, ezk⟩ := hP
      have bt := ktF_b (S j 1) (S j 2) (S j 3) 4 (by decide)
      have q1 : u13 = Int32.ofNat (kiB S T j) := i32_of (by omega) (by omega)
      have q2 : zk = Int32.ofNat (ktF (S j 1) (S j 2) (S j 3) 4) := i32_of (by omega) (by omega)
      have han := and_i _ bk _ bt
      have hab := and_b _ bk _ bt
      rw [q1, q2]
      refine hiand (pc := 45) C (tv_m45.1.1.1 (45, .iand, 1) (List.mem_of_getElem? (i := 28) rfl)) ?_
      generalize (Int32.ofNat (kiB S T j) &&& Int32.ofNat (ktF (S j 1) (S j 2) (S j 3) 4)) = zv at han ⊢
      refine hsum (st := (46, [(0, (0, 34, 0, 0)), (1, (1, 3, 0, 0)), (2, (1, 4, 0, 0)), (3, (1, 0, 0, (j : Int)))], [(1, 2, 0, 0)], [(0, 0, false, 0, 0), (0, 2555, false, 1, 0), (0, 15, false, 2, 0), (0, 3, false, 3, 0), (0, 15, false, 4, 0)], [], [])) (List.all_eq_true.mp kc_b j (List.mem_range.mpr (by omega))) rfl C (r := [0, 0, zv.toInt, zt.toInt, zb.toInt]) ⟨en_mk (by simp only [en_b, and_true]; omega) rfl, sb0, ⟨rfl, Or.inl ⟨rfl, a, ha, rfl⟩, rfl, int_dv (z := zt.toInt) rfl (by omega), rfl, int_dv (z := zb.toInt) rfl (by omega), rfl, int_dv (z := 0) rfl (by omega), trivial⟩, ⟨int_dv (z := zv.toInt) rfl (by omega), trivial⟩, hw2, k0, fun _ _ _ _ h => h, fun h => by cases h⟩ (fun x hx r3 lv3 st3 ws3 hx3 hb3 hl3 hs3 hlo3 hsk3 hw3 hV3 hf3 _ => ?_)
      have hx9 := List.mem_singleton.mp hx
      subst hx9
      dsimp only at hlo3 hsk3 ⊢
      obtain ⟨l30, rfl, p30⟩ := lo_ref ha hlo3
      obtain ⟨y31, l31, rfl, d31, p31⟩ := lo_int rfl p30
      obtain ⟨y32, l32, rfl, d32, p32⟩ := lo_int rfl p31
      obtain ⟨y33, l33, rfl, d33, p33⟩ := lo_int rfl p32
      cases lo_nil p33
      rw [vn_at hx3 (n := 3) (z := zt.toInt) rfl] at d31
      have e31 : zt = y31 := Int32.toInt_inj.mp (by omega)
      subst e31
      rw [vn_at hx3 (n := 2) (z := zv.toInt) rfl] at d32
      rw [vn_at hx3 (n := 0) (z := 0) rfl] at d33
      cases hsk3.nil
      exact ih (j + 1) y32 y33 ws3 (by omega) (by rw [kiB_y hyes]; omega) (by omega) hw3 (((hfr.tr hf1).tr hf2).tr hf3)
theorem kc_all {a q : Nat} {S : Nat → Nat → Int} {T : Int} {zt : Int32} {ws : va_W} (C : ai_cx tb_m45 9 p R s m args c D tys A b L sx cells slots) (ha : ad[34]? = some a) (hq : q ≤ 6) (hS : ∀ j, j < q → seB (S j)) (hT : 0 ≤ T ∧ T ≤ 3) (ezt : zt.toInt = T) (hw : ai_wd tb_TY ad tys ws) (hv0 : vi ws 34 0 q) (hv : ∀ j, j < q → ∀ r, r < 4 → vi ws (35 + r) j (S j r))
    (kk : ∀ (ws' : va_W) (z : Int32) (lv' : List (Nat × Value)), ai_wd tb_TY ad tys ws' → ai_fr [] ws ws' → z.toInt = ((kiB S T q : Nat) : Int) → hG tb_m45 p l e R s m args below meth c D A cells slots Q 54 lv' [.int z] ws') : hG tb_m45 p l e R s m args below meth c D A cells slots Q 0 [(0, .ref a), (1, .int zt)] [] ws := by
  refine hsum (st := (0, [(0, (0, 34, 0, 0)), (1, (1, 2, 0, 0))], [], [(0, 0, false, 0, 0), (0, 2555, false, 1, 0), (0, 3, false, 2, 0)], [], [])) kc_0 rfl C (r := [0, 0, zt.toInt]) ⟨en_mk (by simp only [en_b, and_true]; omega) rfl, sb0, ⟨rfl, Or.inl ⟨rfl, a, ha, rfl⟩, rfl, int_dv (z := zt.toInt) rfl (by omega), trivial⟩, trivial, hw, k0, fun _ _ _ _ h => h, fun h => by cases h⟩ (fun x hx r1 lv1 st1 ws1 hx1 hb1 hl1 hs1 hlo1 hsk1 hw1 hV1 hf1 _ => ?_)
  have hx9 := List.mem_singleton.mp hx
  subst hx9
  dsimp only at hlo1 hsk1 ⊢
  obtain ⟨l10, rfl, p10⟩ := lo_ref ha hlo1
  obtain ⟨y11, l11, rfl, d11, p11⟩ := lo_int rfl p10
  obtain ⟨y12, l12, rfl, d12, p12⟩ := lo_int rfl p11
  obtain ⟨y13, l13, rfl, d13, p13⟩ := lo_int rfl p12
  cases lo_nil p13
  rw [vn_at hx1 (n := 2) (z := zt.toInt) rfl] at d11
  have e11 : zt = y11 := Int32.toInt_inj.mp (by omega)
  subst e11
  rw [vn_at hx1 (n := 0) (z := 0) rfl] at d12
  rw [vn_at hx1 (n := 0) (z := 0) rfl] at d13
  cases hsk1.nil
  exact kc_loop C ha hq hS hT ezt hv0 hv kk q 0 y12 y13 ws1 (by omega) (by rw [show y12.toInt = 15 by omega]; rfl) (by omega) hw1 hf1
end KOC
section KOM
variable {ad : List Nat} {M : ai_m} {d : Nat} {p : Program} {l : Launch} {e : Env} {R : Room} {s : State} {m : MethodId} {args : Array Value} {below : List Frame} {meth : Method} {c : Code} {D : va_G} {tys : ai_ty} {A : Nat → Prop} {b L : Nat} {sx : Nat → Int32} {cells slots : Nat} {Q : State → Prop}
theorem km_i0 {a q : Nat} {S : Nat → Nat → Int} {T : Int} {zt zm zk : Int32} {ws0 : va_W} (C : ai_cx tb_m157 9 p R s m args c D tys A b L sx cells slots) (ha : ad[49]? = some a) (hq : q ≤ 6) (hS : ∀ j, j < q → seB (S j)) (hT : 0 ≤ T ∧ T ≤ 3) (ezt : zt.toInt = T) (hv0 : vi ws0 49 19 q) (hv : ∀ j, j < q → ∀ r, r < 4 → vi ws0 55 (4 * j + r) (S j r)) (ek : zk.toInt = 0) (em : zm.toInt = ((kiM S T q 0 : Nat) : Int))
    (kk : ∀ (ws' : va_W) (zm' zk' : Int32), ai_wd tb_TY ad tys ws' → ai_fr [] ws0 ws' → zm'.toInt = ((kiM S T q 1 : Nat) : Int) → zk'.toInt = 1 → hG tb_m157 p l e R s m args below meth c D A cells slots Q 4 [(0, .ref a), (1, .int zt), (2, .int zm'), (3, .int zk')] [] ws') :
    ∀ (f j : Nat) (zi zj : Int32) (ws : va_W), j + f = q → zi.toInt = (if kiK S T 0 j = true then 1 else 0) → zj.toInt = j → ai_wd tb_TY ad tys ws → ai_fr [] ws0 ws → hG tb_m157 p l e R s m args below meth c D A cells slots Q 15 [(0, .ref a), (1, .int zt), (2, .int zm), (3, .int zk), (4, .int zi), (5, .int zj)] [] ws := by
  have bm := kiM_b S T q 0 (by decide)
  intro f
  induction f with
  | zero =>
    intro j zi zj ws hf ei ej hw hfr
    have hj : j = q := by omega
    have bi : 0 ≤ zi.toInt ∧ zi.toInt ≤ 1 := by split at ei <;> omega
    refine hildw (j := 5) (x := zj) C (tv_m157.1.1.1 (15, .iload 5, 2) (List.mem_of_getElem? (i := 11) rfl)) (List.mem_of_getElem? (i := 5) rfl) ?_
    refine hsum (st := (17, [(0, (0, 49, 0, 0)), (1, (1, 3, 0, 0)), (2, (1, 4, 0, 0)), (3, (1, 0, 0, 0)), (4, (1, 5, 0, 0)), (5, (1, 0, 0, (j : Int)))], [(1, 0, 0, (j : Int))], [(0, 0, false, 0, 0), (0, 2555, false, 1, 0), (0, (j : Int), false, 2, 0), (0, 3, false, 3, 0), (0, 15, false, 4, 0), (0, 1, false, 5, 0)], [(49, 19, (1, 2, 0, 0))], [])) (List.all_eq_true.mp km_0x j (List.mem_range.mpr (by omega))) rfl C (r := [0, 0, (q : Int), zt.toInt, zm.toInt, zi.toInt]) ⟨en_mk (by simp only [en_b, and_true]; omega) rfl, sb0, ⟨rfl, Or.inl ⟨rfl, a, ha, rfl⟩, rfl, int_dv (z := zt.toInt) rfl (by omega), rfl, int_dv (z := zm.toInt) rfl (by omega), rfl, int_dv (z := 0) rfl (by omega), rfl, int_dv (z := zi.toInt) rfl (by omega), rfl, int_dv (z := 0) rfl (by omega), trivial⟩, ⟨int_dv (z := 0) rfl (by omega), trivial⟩, hw, kc ((hv0.fr hfr rfl).kn (n := 2) (t := (q : Int)) rfl (by omega)) (k0), fun _ _ _ _ h => h, fun h => by cases h⟩ (fun x hx r1 lv1 st1 ws1 hx1 hb1 hl1 hs1 hlo1 hsk1 hw1 hV1 hf1 _ => ?_)
    unfold km_0x_S at hx
    have m1_2 := nm_x hx1 (k := 2) rfl
    have m1_3 := nm_x hx1 (k := 3) rfl
    have m1_4 := nm_x hx1 (k := 4) rfl
    have m1_5 := nm_x hx1 (k := 5) rfl
    rcases List.mem_cons.mp hx with rfl | hx
    · skip
      dsimp only at hlo1 hsk1 ⊢
      simp (config := { decide := true }) only [bnd_b, lin_b, lin_q, Nat.reduceAdd, Nat.zero_add, Nat.reduceEqDiff, reduceIte, and_true, Int.add_zero] at hb1 hl1
      obtain ⟨l10, rfl, p10⟩ := lo_ref ha hlo1
      obtain ⟨y11, l11, rfl, d11, p11⟩ := lo_int rfl p10
      obtain ⟨y12, l12, rfl, d12, p12⟩ := lo_int rfl p11
      obtain ⟨y13, l13, rfl, d13, p13⟩ := lo_int rfl p12
      obtain ⟨y14, l14, rfl, d14, p14⟩ := lo_int rfl p13
      obtain ⟨y15, l15, rfl, d15, p15⟩ := lo_int rfl p14
      cases lo_nil p15
      rw [vn_at hx1 (n := 3) (z := zt.toInt) rfl] at d11
      have e11 : zt = y11 := Int32.toInt_inj.mp (by omega)
      subst e11
      rw [vn_at hx1 (n := 4) (z := zm.toInt) rfl] at d12
      have e12 : zm = y12 := Int32.toInt_inj.mp (by omega)
      subst e12
      rw [vn_at hx1 (n := 0) (z := 0) rfl] at d13
      have e13 : zk = y13 := Int32.toInt_inj.mp (by omega)
      subst e13
      rw [vn_at hx1 (n := 5) (z := zi.toInt) rfl] at d14
      have e14 : zi = y14 := Int32.toInt_inj.mp (by omega)
      subst e14
      rw [vn_at hx1 (n := 0) (z := 0) rfl] at d15
      have e15 : zj = y15 := Int32.toInt_inj.mp (by omega)
      subst e15
      obtain ⟨x10, s10, rfl, c10, g10⟩ := hsk1.cons
      obtain ⟨x11, s11, rfl, c11, g11⟩ := g10.cons
      cases g11.nil
      obtain ⟨u10, rfl, w10⟩ := dvn c10 (hx1.at (k := 0) rfl)
      obtain ⟨u11, rfl, w11⟩ := dvn c11 (hx1.at (k := 4) rfl)
      have hK : ¬ kiK S T 0 q = true := by
        rw [← hj]
        intro h9
        rw [if_pos h9] at ei
        omega
      have q2 : u10 = 0 := Int32.toInt_inj.mp (by rw [w10]; decide)
      have q3 : u11 = Int32.ofNat (kiM S T q 0) := i32_of (by omega) (by omega)
      subst q2 q3
      have hor := or_0 _ bm
      refine hior (pc := 108) C (tv_m157.1.1.1 (108, .ior, 1) (List.mem_of_getElem? (i := 66) rfl)) ?_
      generalize (Int32.ofNat (kiM S T q 0) ||| (0 : Int32)) = zv at hor ⊢
      refine hsum (st := (109, [(0, (0, 49, 0, 0)), (1, (1, 3, 0, 0)), (2, (1, 4, 0, 0)), (3, (1, 0, 0, 0)), (4, (1, 5, 0, 0)), (5, (1, 0, 0, (j : Int)))], [(1, 2, 0, 0)], [(0, 0, false, 0, 0), (0, 2555, false, 1, 0), (0, 15, false, 2, 0), (0, 3, false, 3, 0), (0, 15, false, 4, 0), (0, 1, false, 5, 0)], [], [])) (List.all_eq_true.mp km_0tn j (List.mem_range.mpr (by omega))) rfl C (r := [0, 0, zv.toInt, zt.toInt, zm.toInt, zi.toInt]) ⟨en_mk (by simp only [en_b, and_true]; omega) rfl, sb0, ⟨rfl, Or.inl ⟨rfl, a, ha, rfl⟩, rfl, int_dv (z := zt.toInt) rfl (by omega), rfl, int_dv (z := zm.toInt) rfl (by omega), rfl, int_dv (z := 0) rfl (by omega), rfl, int_dv (z := zi.toInt) rfl (by omega), rfl, int_dv (z := 0) rfl (by omega), trivial⟩, ⟨int_dv (z := zv.toInt) rfl (by omega), trivial⟩, hw1, k0, fun _ _ _ _ h => h, fun h => by cases h⟩ (fun x hx r2 lv2 st2 ws2 hx2 hb2 hl2 hs2 hlo2 hsk2 hw2 hV2 hf2 _ => ?_)
      have hx9 := List.mem_singleton.mp hx
      subst hx9
      dsimp only at hlo2 hsk2 ⊢
      obtain ⟨l20, rfl, p20⟩ := lo_ref ha hlo2
      obtain ⟨y21, l21, rfl, d21, p21⟩ := lo_int rfl p20
      obtain ⟨y22, l22, rfl, d22, p22⟩ := lo_int rfl p21
      obtain ⟨y23, l23, rfl, d23, p23⟩ := lo_int rfl p22
      cases lo_nil p23
      rw [vn_at hx2 (n := 3) (z := zt.toInt) rfl] at d21
      have e21 : zt = y21 := Int32.toInt_inj.mp (by omega)
      subst e21
      rw [vn_at hx2 (n := 2) (z := zv.toInt) rfl] at d22
      rw [vn_at hx2 (n := 0) (z := 0) rfl] at d23
      cases hsk2.nil
      refine kk ws2 y22 y23 hw2 ((hfr.tr hf1).tr hf2) ?_ (by omega)
      show y22.toInt = ((kiM S T q 0 ||| (if kiK S T 0 q = true then 2 ^ 0 else 0) : Nat) : Int)
      rw [if_neg hK, Nat.or_zero]
      omega
    have hx0 := List.mem_singleton.mp hx
    subst hx0
    dsimp only at hlo1 hsk1 ⊢
    simp (config := { decide := true }) only [bnd_b, lin_b, lin_q, Nat.reduceAdd, Nat.zero_add, Nat.reduceEqDiff, reduceIte, and_true, Int.add_zero] at hb1 hl1
    obtain ⟨l10, rfl, p10⟩ := lo_ref ha hlo1
    obtain ⟨y11, l11, rfl, d11, p11⟩ := lo_int rfl p10
    obtain ⟨y12, l12, rfl, d12, p12⟩ := lo_int rfl p11
    obtain ⟨y13, l13, rfl, d13, p13⟩ := lo_int rfl p12
    obtain ⟨y14, l14, rfl, d14, p14⟩ := lo_int rfl p13
    obtain ⟨y15, l15, rfl, d15, p15⟩ := lo_int rfl p14
    cases lo_nil p15
    rw [vn_at hx1 (n := 3) (z := zt.toInt) rfl] at d11
    have e11 : zt = y11 := Int32.toInt_inj.mp (by omega)
    subst e11
    rw [vn_at hx1 (n := 4) (z := zm.toInt) rfl] at d12
    have e12 : zm = y12 := Int32.toInt_inj.mp (by omega)
    subst e12
    rw [vn_at hx1 (n := 0) (z := 0) rfl] at d13
    have e13 : zk = y13 := Int32.toInt_inj.mp (by omega)
    subst e13
    rw [vn_at hx1 (n := 5) (z := zi.toInt) rfl] at d14
    have e14 : zi = y14 := Int32.toInt_inj.mp (by omega)
    subst e14
    rw [vn_at hx1 (n := 0) (z := 0) rfl] at d15
    have e15 : zj = y15 := Int32.toInt_inj.mp (by omega)
    subst e15
    obtain ⟨x10, s10, rfl, c10, g10⟩ := hsk1.cons
    obtain ⟨x11, s11, rfl, c11, g11⟩ := g10.cons
    obtain ⟨x12, s12, rfl, c12, g12⟩ := g11.cons
    cases g12.nil
    obtain ⟨u10, rfl, w10⟩ := dvn c10 (hx1.at (k := 0) rfl)
    obtain ⟨u11, rfl, w11⟩ := dvn c11 (hx1.at (k := 0) rfl)
    obtain ⟨u12, rfl, w12⟩ := dvn c12 (hx1.at (k := 4) rfl)
    have hK : kiK S T 0 q = true := by
      rw [← hj]
      by_cases h9 : kiK S T 0 j = true
      · exact h9
      · rw [if_neg h9] at ei
        omega
    have q1 : u10 = Int32.ofNat 0 := i32_of (by omega) (by omega)
    have q2 : u11 = 1 := Int32.toInt_inj.mp (by rw [w11]; decide)
    have q3 : u12 = Int32.ofNat (kiM S T q 0) := i32_of (by omega) (by omega)
    subst q1 q2 q3
    have hor := or_i 0 (by omega) _ bm
    have hob := or_b 0 (by omega) _ bm
    refine hishl (pc := 103) C (tv_m157.1.1.1 (103, .ishl, 1) (List.mem_of_getElem? (i := 63) rfl)) ?_
    refine hgoto (pc := 104) (tgt := 108) C (tv_m157.1.1.1 (104, .goto 4, 3) (List.mem_of_getElem? (i := 64) rfl)) (by decide) ?_
    refine hior (pc := 108) C (tv_m157.1.1.1 (108, .ior, 1) (List.mem_of_getElem? (i := 66) rfl)) ?_
    generalize (Int32.ofNat (kiM S T q 0) ||| ((1 : Int32) <<< (Int32.ofNat 0 &&& 31))) = zv at hor ⊢
    refine hsum (st := (109, [(0, (0, 49, 0, 0)), (1, (1, 3, 0, 0)), (2, (1, 4, 0, 0)), (3, (1, 0, 0, 0)), (4, (1, 5, 0, 0)), (5, (1, 0, 0, (j : Int)))], [(1, 2, 0, 0)], [(0, 0, false, 0, 0), (0, 2555, false, 1, 0), (0, 15, false, 2, 0), (0, 3, false, 3, 0), (0, 15, false, 4, 0), (0, 1, false, 5, 0)], [], [])) (List.all_eq_true.mp km_0ty j (List.mem_range.mpr (by omega))) rfl C (r := [0, 0, zv.toInt, zt.toInt, zm.toInt, zi.toInt]) ⟨en_mk (by simp only [en_b, and_true]; omega) rfl, sb0, ⟨rfl, Or.inl ⟨rfl, a, ha, rfl⟩, rfl, int_dv (z := zt.toInt) rfl (by omega), rfl, int_dv (z := zm.toInt) rfl (by omega), rfl, int_dv (z := 0) rfl (by omega), rfl, int_dv (z := zi.toInt) rfl (by omega), rfl, int_dv (z := 0) rfl (by omega), trivial⟩, ⟨int_dv (z := zv.toInt) rfl (by omega), trivial⟩, hw1, k0, fun _ _ _ _ h => h, fun h => by cases h⟩ (fun x hx r2 lv2 st2 ws2 hx2 hb2 hl2 hs2 hlo2 hsk2 hw2 hV2 hf2 _ => ?_)
    have hx9 := List.mem_singleton.mp hx
    subst hx9
    dsimp only at hlo2 hsk2 ⊢
    obtain ⟨l20, rfl, p20⟩ := lo_ref ha hlo2
    obtain ⟨y21, l21, rfl, d21, p21⟩ := lo_int rfl p20
    obtain ⟨y22, l22, rfl, d22, p22⟩ := lo_int rfl p21
    obtain ⟨y23, l23, rfl, d23, p23⟩ := lo_int rfl p22
    cases lo_nil p23
    rw [vn_at hx2 (n := 3) (z := zt.toInt) rfl] at d21
    have e21 : zt = y21 := Int32.toInt_inj.mp (by omega)
    subst e21
    rw [vn_at hx2 (n := 2) (z := zv.toInt) rfl] at d22
    rw [vn_at hx2 (n := 0) (z := 0) rfl] at d23
    cases hsk2.nil
    refine kk ws2 y22 y23 hw2 ((hfr.tr hf1).tr hf2) ?_ (by omega)
    show y22.toInt = ((kiM S T q 0 ||| (if kiK S T 0 q = true then 2 ^ 0 else 0) : Nat) : Int)
    rw [if_pos hK]
    omega
  | succ f ih =>
    intro j zi zj ws hf ei ej hw hfr
    have hjq : j < q := by omega
    have bi : 0 ≤ zi.toInt ∧ zi.toInt ≤ 1 := by split at ei <;> omega
    obtain ⟨s0, s1, s2, s3, s4⟩ := hS j hjq
    refine hildw (j := 5) (x := zj) C (tv_m157.1.1.1 (15, .iload 5, 2) (List.mem_of_getElem? (i := 11) rfl)) (List.mem_of_getElem? (i := 5) rfl) ?_
    refine hsum (st := (17, [(0, (0, 49, 0, 0)), (1, (1, 3, 0, 0)), (2, (1, 4, 0, 0)), (3, (1, 0, 0, 0)), (4, (1, 5, 0, 0)), (5, (1, 0, 0, (j : Int)))], [(1, 0, 0, (j : Int))], [(0, 0, false, 0, 0), (0, 2555, false, 1, 0), ((j : Int) + 1, 6, false, 2, 0), (0, 3, false, 3, 0), (0, 15, false, 4, 0), (0, 1, false, 5, 0), (0, 3, false, 6, 0), (1, 20, false, 7, 0), (0, 20, false, 8, 0), (0, 20, false, 9, 0)], [(49, 19, (1, 2, 0, 0)), (55, 4 * j + 0, (1, 6, 0, 0)), (55, 4 * j + 1, (1, 7, 0, 0)), (55, 4 * j + 2, (1, 8, 0, 0)), (55, 4 * j + 3, (1, 9, 0, 0))], [])) (List.all_eq_true.mp km_0m j (List.mem_range.mpr (by omega))) rfl C (r := [0, 0, (q : Int), zt.toInt, zm.toInt, zi.toInt, S j 0, S j 1, S j 2, S j 3]) ⟨en_mk (by simp only [en_b, and_true]; omega) rfl, sb0, ⟨rfl, Or.inl ⟨rfl, a, ha, rfl⟩, rfl, int_dv (z := zt.toInt) rfl (by omega), rfl, int_dv (z := zm.toInt) rfl (by omega), rfl, int_dv (z := 0) rfl (by omega), rfl, int_dv (z := zi.toInt) rfl (by omega), rfl, int_dv (z := 0) rfl (by omega), trivial⟩, ⟨int_dv (z := 0) rfl (by omega), trivial⟩, hw, kc ((hv0.fr hfr rfl).kn (n := 2) (t := (q : Int)) rfl (by omega)) (kc (((hv j hjq 0 (by decide)).fr hfr rfl).kn (n := 6) (t := S j 0) rfl (by omega)) (kc (((hv j hjq 1 (by decide)).fr hfr rfl).kn (n := 7) (t := S j 1) rfl (by omega)) (kc (((hv j hjq 2 (by decide)).fr hfr rfl).kn (n := 8) (t := S j 2) rfl (by omega)) (kc (((hv j hjq 3 (by decide)).fr hfr rfl).kn (n := 9) (t := S j 3) rfl (by omega)) (k0))))), fun _ _ _ _ h => h, fun h => by cases h⟩ (fun x hx r1 lv1 st1 ws1 hx1 hb1 hl1 hs1 hlo1 hsk1 hw1 hV1 hf1 _ => ?_)
    unfold km_0m_S at hx
    have m1_2 := nm_x hx1 (k := 2) rfl
    have m1_3 := nm_x hx1 (k := 3) rfl
    have m1_4 := nm_x hx1 (k := 4) rfl
    have m1_5 := nm_x hx1 (k := 5) rfl
    have m1_6 := nm_x hx1 (k := 6) rfl
    have m1_7 := nm_x hx1 (k := 7) rfl
    have m1_8 := nm_x hx1 (k := 8) rfl
    have m1_9 := nm_x hx1 (k := 9) rfl
    rcases List.mem_cons.mp hx with rfl | hx
    · skip
      dsimp only at hlo1 hsk1 ⊢
      simp (config := { decide := true }) only [bnd_b, lin_b, lin_q, Nat.reduceAdd, Nat.zero_add, Nat.reduceEqDiff, reduceIte, and_true, Int.add_zero] at hb1 hl1
      cases hsk1.nil
      obtain ⟨l10, rfl, p10⟩ := lo_ref ha hlo1
      obtain ⟨y11, l11, rfl, d11, p11⟩ := lo_int rfl p10
      obtain ⟨y12, l12, rfl, d12, p12⟩ := lo_int rfl p11
      obtain ⟨y13, l13, rfl, d13, p13⟩ := lo_int rfl p12
      obtain ⟨y14, l14, rfl, d14, p14⟩ := lo_int rfl p13
      obtain ⟨y15, l15, rfl, d15, p15⟩ := lo_int rfl p14
      cases lo_nil p15
      rw [vn_at hx1 (n := 3) (z := zt.toInt) rfl] at d11
      have e11 : zt = y11 := Int32.toInt_inj.mp (by omega)
      subst e11
      rw [vn_at hx1 (n := 4) (z := zm.toInt) rfl] at d12
      have e12 : zm = y12 := Int32.toInt_inj.mp (by omega)
      subst e12
      rw [vn_at hx1 (n := 0) (z := 0) rfl] at d13
      have e13 : zk = y13 := Int32.toInt_inj.mp (by omega)
      subst e13
      rw [vn_at hx1 (n := 0) (z := 0) rfl] at d14
      rw [vn_at hx1 (n := 0) (z := 0) rfl] at d15
      have hK : ¬ kiK S T 0 (j + 1) = true := kiK_0 (fun h9 => by rw [if_pos h9] at ei; omega)
      exact ih (j + 1) y14 y15 ws1 (by omega) (by rw [if_neg hK]; omega) (by omega) hw1 (hfr.tr hf1)
    rcases List.mem_cons.mp hx with rfl | hx
    · skip
      dsimp only at hlo1 hsk1 ⊢
      simp (config := { decide := true }) only [bnd_b, lin_b, lin_q, Nat.reduceAdd, Nat.zero_add, Nat.reduceEqDiff, reduceIte, and_true, Int.add_zero] at hb1 hl1
      cases hsk1.nil
      obtain ⟨l10, rfl, p10⟩ := lo_ref ha hlo1
      obtain ⟨y11, l11, rfl, d11, p11⟩ := lo_int rfl p10
      obtain ⟨y12, l12, rfl, d12, p12⟩ := lo_int rfl p11
      obtain ⟨y13, l13, rfl, d13, p13⟩ := lo_int rfl p12
      obtain ⟨y14, l14, rfl, d14, p14⟩ := lo_int rfl p13
      obtain ⟨y15, l15, rfl, d15, p15⟩ := lo_int rfl p14
      cases lo_nil p15
      rw [vn_at hx1 (n := 3) (z := zt.toInt) rfl] at d11
      have e11 : zt = y11 := Int32.toInt_inj.mp (by omega)
      subst e11
      rw [vn_at hx1 (n := 4) (z := zm.toInt) rfl] at d12
      have e12 : zm = y12 := Int32.toInt_inj.mp (by omega)
      subst e12
      rw [vn_at hx1 (n := 0) (z := 0) rfl] at d13
      have e13 : zk = y13 := Int32.toInt_inj.mp (by omega)
      subst e13
      rw [vn_at hx1 (n := 0) (z := 0) rfl] at d14
      rw [vn_at hx1 (n := 0) (z := 0) rfl] at d15
      have h0 : kiK S T 0 j = true := by
        by_cases h9 : kiK S T 0 j = true
        · exact h9
        · rw [if_neg h9] at ei
          omega
      have hK : kiK S T 0 (j + 1) = true := kiK_y h0 (Or.inl (by omega))
      exact ih (j + 1) y14 y15 ws1 (by omega) (by rw [if_pos hK]; omega) (by omega) hw1 (hfr.tr hf1)
    rcases List.mem_cons.mp hx with rfl | hx
    · skip
      dsimp only at hlo1 hsk1 ⊢
      simp (config := { decide := true }) only [bnd_b, lin_b, lin_q, Nat.reduceAdd, Nat.zero_add, Nat.reduceEqDiff, reduceIte, and_true, Int.add_zero] at hb1 hl1
      cases hsk1.nil
      obtain ⟨l10, rfl, p10⟩ := lo_ref ha hlo1
      obtain ⟨y11, l11, rfl, d11, p11⟩ := lo_int rfl p10
      obtain ⟨y12, l12, rfl, d12, p12⟩ := lo_int rfl p11
      obtain ⟨y13, l13, rfl, d13, p13⟩ := lo_int rfl p12
      obtain ⟨y14, l14, rfl, d14, p14⟩ := lo_int rfl p13
      obtain ⟨y15, l15, rfl, d15, p15⟩ := lo_int rfl p14
      cases lo_nil p15
      rw [vn_at hx1 (n := 3) (z := zt.toInt) rfl] at d11
      have e11 : zt = y11 := Int32.toInt_inj.mp (by omega)
      subst e11
      rw [vn_at hx1 (n := 4) (z := zm.toInt) rfl] at d12
      have e12 : zm = y12 := Int32.toInt_inj.mp (by omega)
      subst e12
      rw [vn_at hx1 (n := 0) (z := 0) rfl] at d13
      have e13 : zk = y13 := Int32.toInt_inj.mp (by omega)
      subst e13
      rw [vn_at hx1 (n := 0) (z := 0) rfl] at d14
      rw [vn_at hx1 (n := 0) (z := 0) rfl] at d15
      have h0 : kiK S T 0 j = true := by
        by_cases h9 : kiK S T 0 j = true
        · exact h9
        · rw [if_neg h9] at ei
          omega
      have hK : ¬ kiK S T 0 (j + 1) = true := kiK_n (by omega) (by rw [yl_0]; omega)
      exact ih (j + 1) y14 y15 ws1 (by omega) (by rw [if_neg hK]; omega) (by omega) hw1 (hfr.tr hf1)
    have hx0 := List.mem_singleton.mp hx
    subst hx0
    dsimp only at hlo1 hsk1 ⊢
    simp (config := { decide := true }) only [bnd_b, lin_b, lin_q, Nat.reduceAdd, Nat.zero_add, Nat.reduceEqDiff, reduceIte, and_true, Int.add_zero] at hb1 hl1
    cases hsk1.nil
    obtain ⟨l10, rfl, p10⟩ := lo_ref ha hlo1
    obtain ⟨y11, l11, rfl, d11, p11⟩ := lo_int rfl p10
    obtain ⟨y12, l12, rfl, d12, p12⟩ := lo_int rfl p11
    obtain ⟨y13, l13, rfl, d13, p13⟩ := lo_int rfl p12
    obtain ⟨y14, l14, rfl, d14, p14⟩ := lo_int rfl p13
    obtain ⟨y15, l15, rfl, d15, p15⟩ := lo_int rfl p14
    cases lo_nil p15
    rw [vn_at hx1 (n := 3) (z := zt.toInt) rfl] at d11
    have e11 : zt = y11 := Int32.toInt_inj.mp (by omega)
    subst e11
    rw [vn_at hx1 (n := 4) (z := zm.toInt) rfl] at d12
    have e12 : zm = y12 := Int32.toInt_inj.mp (by omega)
    subst e12
    rw [vn_at hx1 (n := 0) (z := 0) rfl] at d13
    have e13 : zk = y13 := Int32.toInt_inj.mp (by omega)
    subst e13
    rw [vn_at hx1 (n := 0) (z := 0) rfl] at d14
    rw [vn_at hx1 (n := 0) (z := 0) rfl] at d15
    have h0 : kiK S T 0 j = true := by
      by_cases h9 : kiK S T 0 j = true
      · exact h9
      · rw [if_neg h9] at ei
        omega
    have hK : kiK S T 0 (j + 1) = true := kiK_y h0 (Or.inr (by rw [yl_0]; omega))
    exact ih (j + 1) y14 y15 ws1 (by omega) (by rw [if_pos hK]; omega) (by omega) hw1 (hfr.tr hf1)
theorem km_i1 {a q : Nat} {S : Nat → Nat → Int} {T : Int} {zt zm zk : Int32} {ws0 : va_W} (C : ai_cx tb_m157 9 p R s m args c D tys A b L sx cells slots) (ha : ad[49]? = some a) (hq : q ≤ 6) (hS : ∀ j, j < q → seB (S j)) (hT : 0 ≤ T ∧ T ≤ 3) (ezt : zt.toInt = T) (hv0 : vi ws0 49 19 q) (hv : ∀ j, j < q → ∀ r, r < 4 → vi ws0 55 (4 * j + r) (S j r)) (ek : zk.toInt = 1) (em : zm.toInt = ((kiM S T q 1 : Nat) : Int))
    (kk : ∀ (ws' : va_W) (zm' zk' : Int32), ai_wd tb_TY ad tys ws' → ai_fr [] ws0 ws' → zm'.toInt = ((kiM S T q 2 : Nat) : Int) → zk'.toInt = 2 → hG tb_m157 p l e R s m args below meth c D A cells slots Q 4 [(0, .ref a), (1, .int zt), (2, .int zm'), (3, .int zk')] [] ws') :
    ∀ (f j : Nat) (zi zj : Int32) (ws : va_W), j + f = q → zi.toInt = (if kiK S T 1 j = true then 1 else 0) → zj.toInt = j → ai_wd tb_TY ad tys ws → ai_fr [] ws0 ws → hG tb_m157 p l e R s m args below meth c D A cells slots Q 15 [(0, .ref a), (1, .int zt), (2, .int zm), (3, .int zk), (4, .int zi), (5, .int zj)] [] ws := by
  have bm := kiM_b S T q 1 (by decide)
  intro f
  induction f with
  | zero =>
    intro j zi zj ws hf ei ej hw hfr
    have hj : j = q := by omega
    have bi : 0 ≤ zi.toInt ∧ zi.toInt ≤ 1 := by split at ei <;> omega
    refine hildw (j := 5) (x := zj) C (tv_m157.1.1.1 (15, .iload 5, 2) (List.mem_of_getElem? (i := 11) rfl)) (List.mem_of_getElem? (i := 5) rfl) ?_
    refine hsum (st := (17, [(0, (0, 49, 0, 0)), (1, (1, 3, 0, 0)), (2, (1, 4, 0, 0)), (3, (1, 0, 0, 1)), (4, (1, 5, 0, 0)), (5, (1, 0, 0, (j : Int)))], [(1, 0, 0, (j : Int))], [(0, 0, false, 0, 0), (0, 2555, false, 1, 0), (0, (j : Int), false, 2, 0), (0, 3, false, 3, 0), (0, 15, false, 4, 0), (0, 1, false, 5, 0)], [(49, 19, (1, 2, 0, 0))], [])) (List.all_eq_true.mp km_1x j (List.mem_range.mpr (by omega))) rfl C (r := [0, 0, (q : Int), zt.toInt, zm.toInt, zi.toInt]) ⟨en_mk (by simp only [en_b, and_true]; omega) rfl, sb0, ⟨rfl, Or.inl ⟨rfl, a, ha, rfl⟩, rfl, int_dv (z := zt.toInt) rfl (by omega), rfl, int_dv (z := zm.toInt) rfl (by omega), rfl, int_dv (z := 0) rfl (by omega), rfl, int_dv (z := zi.toInt) rfl (by omega), rfl, int_dv (z := 0) rfl (by omega), trivial⟩, ⟨int_dv (z := 0) rfl (by omega), trivial⟩, hw, kc ((hv0.fr hfr rfl).kn (n := 2) (t := (q : Int)) rfl (by omega)) (k0), fun _ _ _ _ h => h, fun h => by cases h⟩ (fun x hx r1 lv1 st1 ws1 hx1 hb1 hl1 hs1 hlo1 hsk1 hw1 hV1 hf1 _ => ?_)
    unfold km_1x_S at hx
    have m1_2 := nm_x hx1 (k := 2) rfl
    have m1_3 := nm_x hx1 (k := 3) rfl
    have m1_4 := nm_x hx1 (k := 4) rfl
    have m1_5 := nm_x hx1 (k := 5) rfl
    rcases List.mem_cons.mp hx with rfl | hx
    · skip
      dsimp only at hlo1 hsk1 ⊢
      simp (config := { decide := true }) only [bnd_b, lin_b, lin_q, Nat.reduceAdd, Nat.zero_add, Nat.reduceEqDiff, reduceIte, and_true, Int.add_zero] at hb1 hl1
      obtain ⟨l10, rfl, p10⟩ := lo_ref ha hlo1
      obtain ⟨y11, l11, rfl, d11, p11⟩ := lo_int rfl p10
      obtain ⟨y12, l12, rfl, d12, p12⟩ := lo_int rfl p11
      obtain ⟨y13, l13, rfl, d13, p13⟩ := lo_int rfl p12
      obtain ⟨y14, l14, rfl, d14, p14⟩ := lo_int rfl p13
      obtain ⟨y15, l15, rfl, d15, p15⟩ := lo_int rfl p14
      cases lo_nil p15
      rw [vn_at hx1 (n := 3) (z := zt.toInt) rfl] at d11
      have e11 : zt = y11 := Int32.toInt_inj.mp (by omega)
      subst e11
      rw [vn_at hx1 (n := 4) (z := zm.toInt) rfl] at d12
      have e12 : zm = y12 := Int32.toInt_inj.mp (by omega)
      subst e12
      rw [vn_at hx1 (n := 0) (z := 0) rfl] at d13
      have e13 : zk = y13 := Int32.toInt_inj.mp (by omega)
      subst e13
      rw [vn_at hx1 (n := 5) (z := zi.toInt) rfl] at d14
      have e14 : zi = y14 := Int32.toInt_inj.mp (by omega)
      subst e14
      rw [vn_at hx1 (n := 0) (z := 0) rfl] at d15
      have e15 : zj = y15 := Int32.toInt_inj.mp (by omega)
      subst e15
      obtain ⟨x10, s10, rfl, c10, g10⟩ := hsk1.cons
      obtain ⟨x11, s11, rfl, c11, g11⟩ := g10.cons
      cases g11.nil
      obtain ⟨u10, rfl, w10⟩ := dvn c10 (hx1.at (k := 0) rfl)
      obtain ⟨u11, rfl, w11⟩ := dvn c11 (hx1.at (k := 4) rfl)
      have hK : ¬ kiK S T 1 q = true := by
        rw [← hj]
        intro h9
        rw [if_pos h9] at ei
        omega
      have q2 : u10 = 0 := Int32.toInt_inj.mp (by rw [w10]; decide)
      have q3 : u11 = Int32.ofNat (kiM S T q 1) := i32_of (by omega) (by omega)
      subst q2 q3
      have hor := or_0 _ bm
      refine hior (pc := 108) C (tv_m157.1.1.1 (108, .ior, 1) (List.mem_of_getElem? (i := 66) rfl)) ?_
      generalize (Int32.ofNat (kiM S T q 1) ||| (0 : Int32)) = zv at hor ⊢
      refine hsum (st := (109, [(0, (0, 49, 0, 0)), (1, (1, 3, 0, 0)), (2, (1, 4, 0, 0)), (3, (1, 0, 0, 1)), (4, (1, 5, 0, 0)), (5, (1, 0, 0, (j : Int)))], [(1, 2, 0, 0)], [(0, 0, false, 0, 0), (0, 2555, false, 1, 0), (0, 15, false, 2, 0), (0, 3, false, 3, 0), (0, 15, false, 4, 0), (0, 1, false, 5, 0)], [], [])) (List.all_eq_true.mp km_1tn j (List.mem_range.mpr (by omega))) rfl C (r := [0, 0, zv.toInt, zt.toInt, zm.toInt, zi.toInt]) ⟨en_mk (by simp only [en_b, and_true]; omega) rfl, sb0, ⟨rfl, Or.inl ⟨rfl, a, ha, rfl⟩, rfl, int_dv (z := zt.toInt) rfl (by omega), rfl, int_dv (z := zm.toInt) rfl (by omega), rfl, int_dv (z := 0) rfl (by omega), rfl, int_dv (z := zi.toInt) rfl (by omega), rfl, int_dv (z := 0) rfl (by omega), trivial⟩, ⟨int_dv (z := zv.toInt) rfl (by omega), trivial⟩, hw1, k0, fun _ _ _ _ h => h, fun h => by cases h⟩ (fun x hx r2 lv2 st2 ws2 hx2 hb2 hl2 hs2 hlo2 hsk2 hw2 hV2 hf2 _ => ?_)
      have hx9 := List.mem_singleton.mp hx
      subst hx9
      dsimp only at hlo2 hsk2 ⊢
      obtain ⟨l20, rfl, p20⟩ := lo_ref ha hlo2
      obtain ⟨y21, l21, rfl, d21, p21⟩ := lo_int rfl p20
      obtain ⟨y22, l22, rfl, d22, p22⟩ := lo_int rfl p21
      obtain ⟨y23, l23, rfl, d23, p23⟩ := lo_int rfl p22
      cases lo_nil p23
      rw [vn_at hx2 (n := 3) (z := zt.toInt) rfl] at d21
      have e21 : zt = y21 := Int32.toInt_inj.mp (by omega)
      subst e21
      rw [vn_at hx2 (n := 2) (z := zv.toInt) rfl] at d22
      rw [vn_at hx2 (n := 0) (z := 0) rfl] at d23
      cases hsk2.nil
      refine kk ws2 y22 y23 hw2 ((hfr.tr hf1).tr hf2) ?_ (by omega)
      show y22.toInt = ((kiM S T q 1 ||| (if kiK S T 1 q = true then 2 ^ 1 else 0) : Nat) : Int)
      rw [if_neg hK, Nat.or_zero]
      omega
    have hx0 := List.mem_singleton.mp hx
    subst hx0
    dsimp only at hlo1 hsk1 ⊢
    simp (config := { decide := true }) only [bnd_b, lin_b, lin_q, Nat.reduceAdd, Nat.zero_add, Nat.reduceEqDiff, reduceIte, and_true, Int.add_zero] at hb1 hl1
    obtain ⟨l10, rfl, p10⟩ := lo_ref ha hlo1
    obtain ⟨y11, l11, rfl, d11, p11⟩ := lo_int rfl p10
    obtain ⟨y12, l12, rfl, d12, p12⟩ := lo_int rfl p11
    obtain ⟨y13, l13, rfl, d13, p13⟩ := lo_int rfl p12
    obtain ⟨y14, l14, rfl, d14, p14⟩ := lo_int rfl p13
    obtain ⟨y15, l15, rfl, d15, p15⟩ := lo_int rfl p14
    cases lo_nil p15
    rw [vn_at hx1 (n := 3) (z := zt.toInt) rfl] at d11
    have e11 : zt = y11 := Int32.toInt_inj.mp (by omega)
    subst e11
    rw [vn_at hx1 (n := 4) (z := zm.toInt) rfl] at d12
    have e12 : zm = y12 := Int32.toInt_inj.mp (by omega)
    subst e12
    rw [vn_at hx1 (n := 0) (z := 0) rfl] at d13
    have e13 : zk = y13 := Int32.toInt_inj.mp (by omega)
    subst e13
    rw [vn_at hx1 (n := 5) (z := zi.toInt) rfl] at d14
    have e14 : zi = y14 := Int32.toInt_inj.mp (by omega)
    subst e14
    rw [vn_at hx1 (n := 0) (z := 0) rfl] at d15
    have e15 : zj = y15 := Int32.toInt_inj.mp (by omega)
    subst e15
    obtain ⟨x10, s10, rfl, c10, g10⟩ := hsk1.cons
    obtain ⟨x11, s11, rfl, c11, g11⟩ := g10.cons
    obtain ⟨x12, s12, rfl, c12, g12⟩ := g11.cons
    cases g12.nil
    obtain ⟨u10, rfl, w10⟩ := dvn c10 (hx1.at (k := 0) rfl)
    obtain ⟨u11, rfl, w11⟩ := dvn c11 (hx1.at (k := 0) rfl)
    obtain ⟨u12, rfl, w12⟩ := dvn c12 (hx1.at (k := 4) rfl)
    have hK : kiK S T 1 q = true := by
      rw [← hj]
      by_cases h9 : kiK S T 1 j = true
      · exact h9
      · rw [if_neg h9] at ei
        omega
    have q1 : u10 = Int32.ofNat 1 := i32_of (by omega) (by omega)
    have q2 : u11 = 1 := Int32.toInt_inj.mp (by rw [w11]; decide)
    have q3 : u12 = Int32.ofNat (kiM S T q 1) := i32_of (by omega) (by omega)
    subst q1 q2 q3
    have hor := or_i 1 (by omega) _ bm
    have hob := or_b 1 (by omega) _ bm
    refine hishl (pc := 103) C (tv_m157.1.1.1 (103, .ishl, 1) (List.mem_of_getElem? (i := 63) rfl)) ?_
    refine hgoto (pc := 104) (tgt := 108) C (tv_m157.1.1.1 (104, .goto 4, 3) (List.mem_of_getElem? (i := 64) rfl)) (by decide) ?_
    refine hior (pc := 108) C (tv_m157.1.1.1 (108, .ior, 1) (List.mem_of_getElem? (i := 66) rfl)) ?_
    generalize (Int32.ofNat (kiM S T q 1) ||| ((1 : Int32) <<< (Int32.ofNat 1 &&& 31))) = zv at hor ⊢
    refine hsum (st := (109, [(0, (0, 49, 0, 0)), (1, (1, 3, 0, 0)), (2, (1, 4, 0, 0)), (3, (1, 0, 0, 1)), (4, (1, 5, 0, 0)), (5, (1, 0, 0, (j : Int)))], [(1, 2, 0, 0)], [(0, 0, false, 0, 0), (0, 2555, false, 1, 0), (0, 15, false, 2, 0), (0, 3, false, 3, 0), (0, 15, false, 4, 0), (0, 1, false, 5, 0)], [], [])) (List.all_eq_true.mp km_1ty j (List.mem_range.mpr (by omega))) rfl C (r := [0, 0, zv.toInt, zt.toInt, zm.toInt, zi.toInt]) ⟨en_mk (by simp only [en_b, and_true]; omega) rfl, sb0, ⟨rfl, Or.inl ⟨rfl, a, ha, rfl⟩, rfl, int_dv (z := zt.toInt) rfl (by omega), rfl, int_dv (z := zm.toInt) rfl (by omega), rfl, int_dv (z := 0) rfl (by omega), rfl, int_dv (z := zi.toInt) rfl (by omega), rfl, int_dv (z := 0) rfl (by omega), trivial⟩, ⟨int_dv (z := zv.toInt) rfl (by omega), trivial⟩, hw1, k0, fun _ _ _ _ h => h, fun h => by cases h⟩ (fun x hx r2 lv2 st2 ws2 hx2 hb2 hl2 hs2 hlo2 hsk2 hw2 hV2 hf2 _ => ?_)
    have hx9 := List.mem_singleton.mp hx
    subst hx9
    dsimp only at hlo2 hsk2 ⊢
    obtain ⟨l20, rfl, p20⟩ := lo_ref ha hlo2
    obtain ⟨y21, l21, rfl, d21, p21⟩ := lo_int rfl p20
    obtain ⟨y22, l22, rfl, d22, p22⟩ := lo_int rfl p21
    obtain ⟨y23, l23, rfl, d23, p23⟩ := lo_int rfl p22
    cases lo_nil p23
    rw [vn_at hx2 (n := 3) (z := zt.toInt) rfl] at d21
    have e21 : zt = y21 := Int32.toInt_inj.mp (by omega)
    subst e21
    rw [vn_at hx2 (n := 2) (z := zv.toInt) rfl] at d22
    rw [vn_at hx2 (n := 0) (z := 0) rfl] at d23
    cases hsk2.nil
    refine kk ws2 y22 y23 hw2 ((hfr.tr hf1).tr hf2) ?_ (by omega)
    show y22.toInt = ((kiM S T q 1 ||| (if kiK S T 1 q = true then 2 ^ 1 else 0) : Nat) : Int)
    rw [if_pos hK]
    omega
  | succ f ih =>
    intro j zi zj ws hf ei ej hw hfr
    have hjq : j < q := by omega
    have bi : 0 ≤ zi.toInt ∧ zi.toInt ≤ 1 := by split at ei <;> omega
    obtain ⟨s0, s1, s2, s3, s4⟩ := hS j hjq
    refine hildw (j := 5) (x := zj) C (tv_m157.1.1.1 (15, .iload 5, 2) (List.mem_of_getElem? (i := 11) rfl)) (List.mem_of_getElem? (i := 5) rfl) ?_
    refine hsum (st := (17, [(0, (0, 49, 0, 0)), (1, (1, 3, 0, 0)), (2, (1, 4, 0, 0)), (3, (1, 0, 0, 1)), (4, (1, 5, 0, 0)), (5, (1, 0, 0, (j : Int)))], [(1, 0, 0, (j : Int))], [(0, 0, false, 0, 0), (0, 2555, false, 1, 0), ((j : Int) + 1, 6, false, 2, 0), (0, 3, false, 3, 0), (0, 15, false, 4, 0), (0, 1, false, 5, 0), (0, 3, false, 6, 0), (1, 20, false, 7, 0), (0, 20, false, 8, 0), (0, 20, false, 9, 0)], [(49, 19, (1, 2, 0, 0)), (55, 4 * j + 0, (1, 6, 0, 0)), (55, 4 * j + 1, (1, 7, 0, 0)), (55, 4 * j + 2, (1, 8, 0, 0)), (55, 4 * j + 3, (1, 9, 0, 0))], [])) (List.all_eq_true.mp km_1m j (List.mem_range.mpr (by omega))) rfl C (r := [0, 0, (q : Int), zt.toInt, zm.toInt, zi.toInt, S j 0, S j 1, S j 2, S j 3]) ⟨en_mk (by simp only [en_b, and_true]; omega) rfl, sb0, ⟨rfl, Or.inl ⟨rfl, a, ha, rfl⟩, rfl, int_dv (z := zt.toInt) rfl (by omega), rfl, int_dv (z := zm.toInt) rfl (by omega), rfl, int_dv (z := 0) rfl (by omega), rfl, int_dv (z := zi.toInt) rfl (by omega), rfl, int_dv (z := 0) rfl (by omega), trivial⟩, ⟨int_dv (z := 0) rfl (by omega), trivial⟩, hw, kc ((hv0.fr hfr rfl).kn (n := 2) (t := (q : Int)) rfl (by omega)) (kc (((hv j hjq 0 (by decide)).fr hfr rfl).kn (n := 6) (t := S j 0) rfl (by omega)) (kc (((hv j hjq 1 (by decide)).fr hfr rfl).kn (n := 7) (t := S j 1) rfl (by omega)) (kc (((hv j hjq 2 (by decide)).fr hfr rfl).kn (n := 8) (t := S j 2) rfl (by omega)) (kc (((hv j hjq 3 (by decide)).fr hfr rfl).kn (n := 9) (t := S j 3) rfl (by omega)) (k0))))), fun _ _ _ _ h => h, fun h => by cases h⟩ (fun x hx r1 lv1 st1 ws1 hx1 hb1 hl1 hs1 hlo1 hsk1 hw1 hV1 hf1 _ => ?_)
    unfold km_1m_S at hx
    have m1_2 := nm_x hx1 (k := 2) rfl
    have m1_3 := nm_x hx1 (k := 3) rfl
    have m1_4 := nm_x hx1 (k := 4) rfl
    have m1_5 := nm_x hx1 (k := 5) rfl
    have m1_6 := nm_x hx1 (k := 6) rfl
    have m1_7 := nm_x hx1 (k := 7) rfl
    have m1_8 := nm_x hx1 (k := 8) rfl
    have m1_9 := nm_x hx1 (k := 9) rfl
    rcases List.mem_cons.mp hx with rfl | hx
    · skip
      dsimp only at hlo1 hsk1 ⊢
      simp (config := { decide := true }) only [bnd_b, lin_b, lin_q, Nat.reduceAdd, Nat.zero_add, Nat.reduceEqDiff, reduceIte, and_true, Int.add_zero] at hb1 hl1
      cases hsk1.nil
      obtain ⟨l10, rfl, p10⟩ := lo_ref ha hlo1
      obtain ⟨y11, l11, rfl, d11, p11⟩ := lo_int rfl p10
      obtain ⟨y12, l12, rfl, d12, p12⟩ := lo_int rfl p11
      obtain ⟨y13, l13, rfl, d13, p13⟩ := lo_int rfl p12
      obtain ⟨y14, l14, rfl, d14, p14⟩ := lo_int rfl p13
      obtain ⟨y15, l15, rfl, d15, p15⟩ := lo_int rfl p14
      cases lo_nil p15
      rw [vn_at hx1 (n := 3) (z := zt.toInt) rfl] at d11
      have e11 : zt = y11 := Int32.toInt_inj.mp (by omega)
      subst e11
      rw [vn_at hx1 (n := 4) (z := zm.toInt) rfl] at d12
      have e12 : zm = y12 := Int32.toInt_inj.mp (by omega)
      subst e12
      rw [vn_at hx1 (n := 0) (z := 0) rfl] at d13
      have e13 : zk = y13 := Int32.toInt_inj.mp (by omega)
      subst e13
      rw [vn_at hx1 (n := 0) (z := 0) rfl] at d14
      rw [vn_at hx1 (n := 0) (z := 0) rfl] at d15
      have hK : ¬ kiK S T 1 (j + 1) = true := kiK_0 (fun h9 => by rw [if_pos h9] at ei; omega)
      exact ih (j + 1) y14 y15 ws1 (by omega) (by rw [if_neg hK]; omega) (by omega) hw1 (hfr.tr hf1)
    rcases List.mem_cons.mp hx with rfl | hx
    · skip
      dsimp only at hlo1 hsk1 ⊢
      simp (config := { decide := true }) only [bnd_b, lin_b, lin_q, Nat.reduceAdd, Nat.zero_add, Nat.reduceEqDiff, reduceIte, and_true, Int.add_zero] at hb1 hl1
      cases hsk1.nil
      obtain ⟨l10, rfl, p10⟩ := lo_ref ha hlo1
      obtain ⟨y11, l11, rfl, d11, p11⟩ := lo_int rfl p10
      obtain ⟨y12, l12, rfl, d12, p12⟩ := lo_int rfl p11
      obtain ⟨y13, l13, rfl, d13, p13⟩ := lo_int rfl p12
      obtain ⟨y14, l14, rfl, d14, p14⟩ := lo_int rfl p13
      obtain ⟨y15, l15, rfl, d15, p15⟩ := lo_int rfl p14
      cases lo_nil p15
      rw [vn_at hx1 (n := 3) (z := zt.toInt) rfl] at d11
      have e11 : zt = y11 := Int32.toInt_inj.mp (by omega)
      subst e11
      rw [vn_at hx1 (n := 4) (z := zm.toInt) rfl] at d12
      have e12 : zm = y12 := Int32.toInt_inj.mp (by omega)
      subst e12
      rw [vn_at hx1 (n := 0) (z := 0) rfl] at d13
      have e13 : zk = y13 := Int32.toInt_inj.mp (by omega)
      subst e13
      rw [vn_at hx1 (n := 0) (z := 0) rfl] at d14
      rw [vn_at hx1 (n := 0) (z := 0) rfl] at d15
      have h0 : kiK S T 1 j = true := by
        by_cases h9 : kiK S T 1 j = true
        · exact h9
        · rw [if_neg h9] at ei
          omega
      have hK : kiK S T 1 (j + 1) = true := kiK_y h0 (Or.inl (by omega))
      exact ih (j + 1) y14 y15 ws1 (by omega) (by rw [if_pos hK]; omega) (by omega) hw1 (hfr.tr hf1)
    rcases List.mem_cons.mp hx with rfl | hx
    · skip
      dsimp only at hlo1 hsk1 ⊢
      simp (config := { decide := true }) only [bnd_b, lin_b, lin_q, Nat.reduceAdd, Nat.zero_add, Nat.reduceEqDiff, reduceIte, and_true, Int.add_zero] at hb1 hl1
      cases hsk1.nil
      obtain ⟨l10, rfl, p10⟩ := lo_ref ha hlo1
      obtain ⟨y11, l11, rfl, d11, p11⟩ := lo_int rfl p10
      obtain ⟨y12, l12, rfl, d12, p12⟩ := lo_int rfl p11
      obtain ⟨y13, l13, rfl, d13, p13⟩ := lo_int rfl p12
      obtain ⟨y14, l14, rfl, d14, p14⟩ := lo_int rfl p13
      obtain ⟨y15, l15, rfl, d15, p15⟩ := lo_int rfl p14
      cases lo_nil p15
      rw [vn_at hx1 (n := 3) (z := zt.toInt) rfl] at d11
      have e11 : zt = y11 := Int32.toInt_inj.mp (by omega)
      subst e11
      rw [vn_at hx1 (n := 4) (z := zm.toInt) rfl] at d12
      have e12 : zm = y12 := Int32.toInt_inj.mp (by omega)
      subst e12
      rw [vn_at hx1 (n := 0) (z := 0) rfl] at d13
      have e13 : zk = y13 := Int32.toInt_inj.mp (by omega)
      subst e13
      rw [vn_at hx1 (n := 0) (z := 0) rfl] at d14
      rw [vn_at hx1 (n := 0) (z := 0) rfl] at d15
      have h0 : kiK S T 1 j = true := by
        by_cases h9 : kiK S T 1 j = true
        · exact h9
        · rw [if_neg h9] at ei
          omega
      have hK : ¬ kiK S T 1 (j + 1) = true := kiK_n (by omega) (by rw [yl_1]; omega)
      exact ih (j + 1) y14 y15 ws1 (by omega) (by rw [if_neg hK]; omega) (by omega) hw1 (hfr.tr hf1)
    have hx0 := List.mem_singleton.mp hx
    subst hx0
    dsimp only at hlo1 hsk1 ⊢
    simp (config := { decide := true }) only [bnd_b, lin_b, lin_q, Nat.reduceAdd, Nat.zero_add, Nat.reduceEqDiff, reduceIte, and_true, Int.add_zero] at hb1 hl1
    cases hsk1.nil
    obtain ⟨l10, rfl, p10⟩ := lo_ref ha hlo1
    obtain ⟨y11, l11, rfl, d11, p11⟩ := lo_int rfl p10
    obtain ⟨y12, l12, rfl, d12, p12⟩ := lo_int rfl p11
    obtain ⟨y13, l13, rfl, d13, p13⟩ := lo_int rfl p12
    obtain ⟨y14, l14, rfl, d14, p14⟩ := lo_int rfl p13
    obtain ⟨y15, l15, rfl, d15, p15⟩ := lo_int rfl p14
    cases lo_nil p15
    rw [vn_at hx1 (n := 3) (z := zt.toInt) rfl] at d11
    have e11 : zt = y11 := Int32.toInt_inj.mp (by omega)
    subst e11
    rw [vn_at hx1 (n := 4) (z := zm.toInt) rfl] at d12
    have e12 : zm = y12 := Int32.toInt_inj.mp (by omega)
    subst e12
    rw [vn_at hx1 (n := 0) (z := 0) rfl] at d13
    have e13 : zk = y13 := Int32.toInt_inj.mp (by omega)
    subst e13
    rw [vn_at hx1 (n := 0) (z := 0) rfl] at d14
    rw [vn_at hx1 (n := 0) (z := 0) rfl] at d15
    have h0 : kiK S T 1 j = true := by
      by_cases h9 : kiK S T 1 j = true
      · exact h9
      · rw [if_neg h9] at ei
        omega
    have hK : kiK S T 1 (j + 1) = true := kiK_y h0 (Or.inr (by rw [yl_1]; omega))
    exact ih (j + 1) y14 y15 ws1 (by omega) (by rw [if_pos hK]; omega) (by omega) hw1 (hfr.tr hf1)
theorem km_i2 {a q : Nat} {S : Nat → Nat → Int} {T : Int} {zt zm zk : Int32} {ws0 : va_W} (C : ai_cx tb_m157 9 p R s m args c D tys A b L sx cells slots) (ha : ad[49]? = some a) (hq : q ≤ 6) (hS : ∀ j, j < q → seB (S j)) (hT : 0 ≤ T ∧ T ≤ 3) (ezt : zt.toInt = T) (hv0 : vi ws0 49 19 q) (hv : ∀ j, j < q → ∀ r, r < 4 → vi ws0 55 (4 * j + r) (S j r)) (ek : zk.toInt = 2) (em : zm.toInt = ((kiM S T q 2 : Nat) : Int))
    (kk : ∀ (ws' : va_W) (zm' zk' : Int32), ai_wd tb_TY ad tys ws' → ai_fr [] ws0 ws' → zm'.toInt = ((kiM S T q 3 : Nat) : Int) → zk'.toInt = 3 → hG tb_m157 p l e R s m args below meth c D A cells slots Q 4 [(0, .ref a), (1, .int zt), (2, .int zm'), (3, .int zk')] [] ws') :
    ∀ (f j : Nat) (zi zj : Int32) (ws : va_W), j + f = q → zi.toInt = (if kiK S T 2 j = true then 1 else 0) → zj.toInt = j → ai_wd tb_TY ad tys ws → ai_fr [] ws0 ws → hG tb_m157 p l e R s m args below meth c D A cells slots Q 15 [(0, .ref a), (1, .int zt), (2, .int zm), (3, .int zk), (4, .int zi), (5, .int zj)] [] ws := by
  have bm := kiM_b S T q 2 (by decide)
  intro f
  induction f with
  | zero =>
    intro j zi zj ws hf ei ej hw hfr
    have hj : j = q := by omega
    have bi : 0 ≤ zi.toInt ∧ zi.toInt ≤ 1 := by split at ei <;> omega
    refine hildw (j := 5) (x := zj) C (tv_m157.1.1.1 (15, .iload 5, 2) (List.mem_of_getElem? (i := 11) rfl)) (List.mem_of_getElem? (i := 5) rfl) ?_
    refine hsum (st := (17, [(0, (0, 49, 0, 0)), (1, (1, 3, 0, 0)), (2, (1, 4, 0, 0)), (3, (1, 0, 0, 2)), (4, (1, 5, 0, 0)), (5, (1, 0, 0, (j : Int)))], [(1, 0, 0, (j : Int))], [(0, 0, false, 0, 0), (0, 2555, false, 1, 0), (0, (j : Int), false, 2, 0), (0, 3, false, 3, 0), (0, 15, false, 4, 0), (0, 1, false, 5, 0)], [(49, 19, (1, 2, 0, 0))], [])) (List.all_eq_true.mp km_2x j (List.mem_range.mpr (by omega))) rfl C (r := [0, 0, (q : Int), zt.toInt, zm.toInt, zi.toInt]) ⟨en_mk (by simp only [en_b, and_true]; omega) rfl, sb0, ⟨rfl, Or.inl ⟨rfl, a, ha, rfl⟩, rfl, int_dv (z := zt.toInt) rfl (by omega), rfl, int_dv (z := zm.toInt) rfl (by omega), rfl, int_dv (z := 0) rfl (by omega), rfl, int_dv (z := zi.toInt) rfl (by omega), rfl, int_dv (z := 0) rfl (by omega), trivial⟩, ⟨int_dv (z := 0) rfl (by omega), trivial⟩, hw, kc ((hv0.fr hfr rfl).kn (n := 2) (t := (q : Int)) rfl (by omega)) (k0), fun _ _ _ _ h => h, fun h => by cases h⟩ (fun x hx r1 lv1 st1 ws1 hx1 hb1 hl1 hs1 hlo1 hsk1 hw1 hV1 hf1 _ => ?_)
    unfold km_2x_S at hx
    have m1_2 := nm_x hx1 (k := 2) rfl
    have m1_3 := nm_x hx1 (k := 3) rfl
    have m1_4 := nm_x hx1 (k := 4) rfl
    have m1_5 := nm_x hx1 (k := 5) rfl
    rcases List.mem_cons.mp hx with rfl | hx
    · skip
      dsimp only at hlo1 hsk1 ⊢
      simp (config := { decide := true }) only [bnd_b, lin_b, lin_q, Nat.reduceAdd, Nat.zero_add, Nat.reduceEqDiff, reduceIte, and_true, Int.add_zero] at hb1 hl1
      obtain ⟨l10, rfl, p10⟩ := lo_ref ha hlo1
      obtain ⟨y11, l11, rfl, d11, p11⟩ := lo_int rfl p10
      obtain ⟨y12, l12, rfl, d12, p12⟩ := lo_int rfl p11
      obtain ⟨y13, l13, rfl, d13, p13⟩ := lo_int rfl p12
      obtain ⟨y14, l14, rfl, d14, p14⟩ := lo_int rfl p13
      obtain ⟨y15, l15, rfl, d15, p15⟩ := lo_int rfl p14
      cases lo_nil p15
      rw [vn_at hx1 (n := 3) (z := zt.toInt) rfl] at d11
      have e11 : zt = y11 := Int32.toInt_inj.mp (by omega)
      subst e11
      rw [vn_at hx1 (n := 4) (z := zm.toInt) rfl] at d12
      have e12 : zm = y12 := Int32.toInt_inj.mp (by omega)
      subst e12
      rw [vn_at hx1 (n := 0) (z := 0) rfl] at d13
      have e13 : zk = y13 := Int32.toInt_inj.mp (by omega)
      subst e13
      rw [vn_at hx1 (n := 5) (z := zi.toInt) rfl] at d14
      have e14 : zi = y14 := Int32.toInt_inj.mp (by omega)
      subst e14
      rw [vn_at hx1 (n := 0) (z := 0) rfl] at d15
      have e15 : zj = y15 := Int32.toInt_inj.mp (by omega)
      subst e15
      obtain ⟨x10, s10, rfl, c10, g10⟩ := hsk1.cons
      obtain ⟨x11, s11, rfl, c11, g11⟩ := g10.cons
      cases g11.nil
      obtain ⟨u10, rfl, w10⟩ := dvn c10 (hx1.at (k := 0) rfl)
      obtain ⟨u11, rfl, w11⟩ := dvn c11 (hx1.at (k := 4) rfl)
      have hK : ¬ kiK S T 2 q = true := by
        rw [← hj]
        intro h9
        rw [if_pos h9] at ei
        omega
      have q2 : u10 = 0 := Int32.toInt_inj.mp (by rw [w10]; decide)
      have q3 : u11 = Int32.ofNat (kiM S T q 2) := i32_of (by omega) (by omega)
      subst q2 q3
      have hor := or_0 _ bm
      refine hior (pc := 108) C (tv_m157.1.1.1 (108, .ior, 1) (List.mem_of_getElem? (i := 66) rfl)) ?_
      generalize (Int32.ofNat (kiM S T q 2) ||| (0 : Int32)) = zv at hor ⊢
      refine hsum (st := (109, [(0, (0, 49, 0, 0)), (1, (1, 3, 0, 0)), (2, (1, 4, 0, 0)), (3, (1, 0, 0, 2)), (4, (1, 5, 0, 0)), (5, (1, 0, 0, (j : Int)))], [(1, 2, 0, 0)], [(0, 0, false, 0, 0), (0, 2555, false, 1, 0), (0, 15, false, 2, 0), (0, 3, false, 3, 0), (0, 15, false, 4, 0), (0, 1, false, 5, 0)], [], [])) (List.all_eq_true.mp km_2tn j (List.mem_range.mpr (by omega))) rfl C (r := [0, 0, zv.toInt, zt.toInt, zm.toInt, zi.toInt]) ⟨en_mk (by simp only [en_b, and_true]; omega) rfl, sb0, ⟨rfl, Or.inl ⟨rfl, a, ha, rfl⟩, rfl, int_dv (z := zt.toInt) rfl (by omega), rfl, int_dv (z := zm.toInt) rfl (by omega), rfl, int_dv (z := 0) rfl (by omega), rfl, int_dv (z := zi.toInt) rfl (by omega), rfl, int_dv (z := 0) rfl (by omega), trivial⟩, ⟨int_dv (z := zv.toInt) rfl (by omega), trivial⟩, hw1, k0, fun _ _ _ _ h => h, fun h => by cases h⟩ (fun x hx r2 lv2 st2 ws2 hx2 hb2 hl2 hs2 hlo2 hsk2 hw2 hV2 hf2 _ => ?_)
      have hx9 := List.mem_singleton.mp hx
      subst hx9
      dsimp only at hlo2 hsk2 ⊢
      obtain ⟨l20, rfl, p20⟩ := lo_ref ha hlo2
      obtain ⟨y21, l21, rfl, d21, p21⟩ := lo_int rfl p20
      obtain ⟨y22, l22, rfl, d22, p22⟩ := lo_int rfl p21
      obtain ⟨y23, l23, rfl, d23, p23⟩ := lo_int rfl p22
      cases lo_nil p23
      rw [vn_at hx2 (n := 3) (z := zt.toInt) rfl] at d21
      have e21 : zt = y21 := Int32.toInt_inj.mp (by omega)
      subst e21
      rw [vn_at hx2 (n := 2) (z := zv.toInt) rfl] at d22
      rw [vn_at hx2 (n := 0) (z := 0) rfl] at d23
      cases hsk2.nil
      refine kk ws2 y22 y23 hw2 ((hfr.tr hf1).tr hf2) ?_ (by omega)
      show y22.toInt = ((kiM S T q 2 ||| (if kiK S T 2 q = true then 2 ^ 2 else 0) : Nat) : Int)
      rw [if_neg hK, Nat.or_zero]
      omega
    have hx0 := List.mem_singleton.mp hx
    subst hx0
    dsimp only at hlo1 hsk1 ⊢
    simp (config := { decide := true }) only [bnd_b, lin_b, lin_q, Nat.reduceAdd, Nat.zero_add, Nat.reduceEqDiff, reduceIte, and_true, Int.add_zero] at hb1 hl1
    obtain ⟨l10, rfl, p10⟩ := lo_ref ha hlo1
    obtain ⟨y11, l11, rfl, d11, p11⟩ := lo_int rfl p10
    obtain ⟨y12, l12, rfl, d12, p12⟩ := lo_int rfl p11
    obtain ⟨y13, l13, rfl, d13, p13⟩ := lo_int rfl p12
    obtain ⟨y14, l14, rfl, d14, p14⟩ := lo_int rfl p13
    obtain ⟨y15, l15, rfl, d15, p15⟩ := lo_int rfl p14
    cases lo_nil p15
    rw [vn_at hx1 (n := 3) (z := zt.toInt) rfl] at d11
    have e11 : zt = y11 := Int32.toInt_inj.mp (by omega)
    subst e11
    rw [vn_at hx1 (n := 4) (z := zm.toInt) rfl] at d12
    have e12 : zm = y12 := Int32.toInt_inj.mp (by omega)
    subst e12
    rw [vn_at hx1 (n := 0) (z := 0) rfl] at d13
    have e13 : zk = y13 := Int32.toInt_inj.mp (by omega)
    subst e13
    rw [vn_at hx1 (n := 5) (z := zi.toInt) rfl] at d14
    have e14 : zi = y14 := Int32.toInt_inj.mp (by omega)
    subst e14
    rw [vn_at hx1 (n := 0) (z := 0) rfl] at d15
    have e15 : zj = y15 := Int32.toInt_inj.mp (by omega)
    subst e15
    obtain ⟨x10, s10, rfl, c10, g10⟩ := hsk1.cons
    obtain ⟨x11, s11, rfl, c11, g11⟩ := g10.cons
    obtain ⟨x12, s12, rfl, c12, g12⟩ := g11.cons
    cases g12.nil
    obtain ⟨u10, rfl, w10⟩ := dvn c10 (hx1.at (k := 0) rfl)
    obtain ⟨u11, rfl, w11⟩ := dvn c11 (hx1.at (k := 0) rfl)
    obtain ⟨u12, rfl, w12⟩ := dvn c12 (hx1.at (k := 4) rfl)
    have hK : kiK S T 2 q = true := by
      rw [← hj]
      by_cases h9 : kiK S T 2 j = true
      · exact h9
      · rw [if_neg h9] at ei
        omega
    have q1 : u10 = Int32.ofNat 2 := i32_of (by omega) (by omega)
    have q2 : u11 = 1 := Int32.toInt_inj.mp (by rw [w11]; decide)
    have q3 : u12 = Int32.ofNat (kiM S T q 2) := i32_of (by omega) (by omega)
    subst q1 q2 q3
    have hor := or_i 2 (by omega) _ bm
    have hob := or_b 2 (by omega) _ bm
    refine hishl (pc := 103) C (tv_m157.1.1.1 (103, .ishl, 1) (List.mem_of_getElem? (i := 63) rfl)) ?_
    refine hgoto (pc := 104) (tgt := 108) C (tv_m157.1.1.1 (104, .goto 4, 3) (List.mem_of_getElem? (i := 64) rfl)) (by decide) ?_
    refine hior (pc := 108) C (tv_m157.1.1.1 (108, .ior, 1) (List.mem_of_getElem? (i := 66) rfl)) ?_
    generalize (Int32.ofNat (kiM S T q 2) ||| ((1 : Int32) <<< (Int32.ofNat 2 &&& 31))) = zv at hor ⊢
    refine hsum (st := (109, [(0, (0, 49, 0, 0)), (1, (1, 3, 0, 0)), (2, (1, 4, 0, 0)), (3, (1, 0, 0, 2)), (4, (1, 5, 0, 0)), (5, (1, 0, 0, (j : Int)))], [(1, 2, 0, 0)], [(0, 0, false, 0, 0), (0, 2555, false, 1, 0), (0, 15, false, 2, 0), (0, 3, false, 3, 0), (0, 15, false, 4, 0), (0, 1, false, 5, 0)], [], [])) (List.all_eq_true.mp km_2ty j (List.mem_range.mpr (by omega))) rfl C (r := [0, 0, zv.toInt, zt.toInt, zm.toInt, zi.toInt]) ⟨en_mk (by simp only [en_b, and_true]; omega) rfl, sb0, ⟨rfl, Or.inl ⟨rfl, a, ha, rfl⟩, rfl, int_dv (z := zt.toInt) rfl (by omega), rfl, int_dv (z := zm.toInt) rfl (by omega), rfl, int_dv (z := 0) rfl (by omega), rfl, int_dv (z := zi.toInt) rfl (by omega), rfl, int_dv (z := 0) rfl (by omega), trivial⟩, ⟨int_dv (z := zv.toInt) rfl (by omega), trivial⟩, hw1, k0, fun _ _ _ _ h => h, fun h => by cases h⟩ (fun x hx r2 lv2 st2 ws2 hx2 hb2 hl2 hs2 hlo2 hsk2 hw2 hV2 hf2 _ => ?_)
    have hx9 := List.mem_singleton.mp hx
    subst hx9
    dsimp only at hlo2 hsk2 ⊢
    obtain ⟨l20, rfl, p20⟩ := lo_ref ha hlo2
    obtain ⟨y21, l21, rfl, d21, p21⟩ := lo_int rfl p20
    obtain ⟨y22, l22, rfl, d22, p22⟩ := lo_int rfl p21
    obtain ⟨y23, l23, rfl, d23, p23⟩ := lo_int rfl p22
    cases lo_nil p23
    rw [vn_at hx2 (n := 3) (z := zt.toInt) rfl] at d21
    have e21 : zt = y21 := Int32.toInt_inj.mp (by omega)
    subst e21
    rw [vn_at hx2 (n := 2) (z := zv.toInt) rfl] at d22
    rw [vn_at hx2 (n := 0) (z := 0) rfl] at d23
    cases hsk2.nil
    refine kk ws2 y22 y23 hw2 ((hfr.tr hf1).tr hf2) ?_ (by omega)
    show y22.toInt = ((kiM S T q 2 ||| (if kiK S T 2 q = true then 2 ^ 2 else 0) : Nat) : Int)
    rw [if_pos hK]
    omega
  | succ f ih =>
    intro j zi zj ws hf ei ej hw hfr
    have hjq : j < q := by omega
    have bi : 0 ≤ zi.toInt ∧ zi.toInt ≤ 1 := by split at ei <;> omega
    obtain ⟨s0, s1, s2, s3, s4⟩ := hS j hjq
    refine hildw (j := 5) (x := zj) C (tv_m157.1.1.1 (15, .iload 5, 2) (List.mem_of_getElem? (i := 11) rfl)) (List.mem_of_getElem? (i := 5) rfl) ?_
    refine hsum (st := (17, [(0, (0, 49, 0, 0)), (1, (1, 3, 0, 0)), (2, (1, 4, 0, 0)), (3, (1, 0, 0, 2)), (4, (1, 5, 0, 0)), (5, (1, 0, 0, (j : Int)))], [(1, 0, 0, (j : Int))], [(0, 0, false, 0, 0), (0, 2555, false, 1, 0), ((j : Int) + 1, 6, false, 2, 0), (0, 3, false, 3, 0), (0, 15, false, 4, 0), (0, 1, false, 5, 0), (0, 3, false, 6, 0), (1, 20, false, 7, 0), (0, 20, false, 8, 0), (0, 20, false, 9, 0)], [(49, 19, (1, 2, 0, 0)), (55, 4 * j + 0, (1, 6, 0, 0)), (55, 4 * j + 1, (1, 7, 0, 0)), (55, 4 * j + 2, (1, 8, 0, 0)), (55, 4 * j + 3, (1, 9, 0, 0))], [])) (List.all_eq_true.mp km_2m j (List.mem_range.mpr (by omega))) rfl C (r := [0, 0, (q : Int), zt.toInt, zm.toInt, zi.toInt, S j 0, S j 1, S j 2, S j 3]) ⟨en_mk (by simp only [en_b, and_true]; omega) rfl, sb0, ⟨rfl, Or.inl ⟨rfl, a, ha, rfl⟩, rfl, int_dv (z := zt.toInt) rfl (by omega), rfl, int_dv (z := zm.toInt) rfl (by omega), rfl, int_dv (z := 0) rfl (by omega), rfl, int_dv (z := zi.toInt) rfl (by omega), rfl, int_dv (z := 0) rfl (by omega), trivial⟩, ⟨int_dv (z := 0) rfl (by omega), trivial⟩, hw, kc ((hv0.fr hfr rfl).kn (n := 2) (t := (q : Int)) rfl (by omega)) (kc (((hv j hjq 0 (by decide)).fr hfr rfl).kn (n := 6) (t := S j 0) rfl (by omega)) (kc (((hv j hjq 1 (by decide)).fr hfr rfl).kn (n := 7) (t := S j 1) rfl (by omega)) (kc (((hv j hjq 2 (by decide)).fr hfr rfl).kn (n := 8) (t := S j 2) rfl (by omega)) (kc (((hv j hjq 3 (by decide)).fr hfr rfl).kn (n := 9) (t := S j 3) rfl (by omega)) (k0))))), fun _ _ _ _ h => h, fun h => by cases h⟩ (fun x hx r1 lv1 st1 ws1 hx1 hb1 hl1 hs1 hlo1 hsk1 hw1 hV1 hf1 _ => ?_)
    unfold km_2m_S at hx
    have m1_2 := nm_x hx1 (k := 2) rfl
    have m1_3 := nm_x hx1 (k := 3) rfl
    have m1_4 := nm_x hx1 (k := 4) rfl
    have m1_5 := nm_x hx1 (k := 5) rfl
    have m1_6 := nm_x hx1 (k := 6) rfl
    have m1_7 := nm_x hx1 (k := 7) rfl
    have m1_8 := nm_x hx1 (k := 8) rfl
    have m1_9 := nm_x hx1 (k := 9) rfl
    rcases List.mem_cons.mp hx with rfl | hx
    · skip
      dsimp only at hlo1 hsk1 ⊢
      simp (config := { decide := true }) only [bnd_b, lin_b, lin_q, Nat.reduceAdd, Nat.zero_add, Nat.reduceEqDiff, reduceIte, and_true, Int.add_zero] at hb1 hl1
      cases hsk1.nil
      obtain ⟨l10, rfl, p10⟩ := lo_ref ha hlo1
      obtain ⟨y11, l11, rfl, d11, p11⟩ := lo_int rfl p10
      obtain ⟨y12, l12, rfl, d12, p12⟩ := lo_int rfl p11
      obtain ⟨y13, l13, rfl, d13, p13⟩ := lo_int rfl p12
      obtain ⟨y14, l14, rfl, d14, p14⟩ := lo_int rfl p13
      obtain ⟨y15, l15, rfl, d15, p15⟩ := lo_int rfl p14
      cases lo_nil p15
      rw [vn_at hx1 (n := 3) (z := zt.toInt) rfl] at d11
      have e11 : zt = y11 := Int32.toInt_inj.mp (by omega)
      subst e11
      rw [vn_at hx1 (n := 4) (z := zm.toInt) rfl] at d12
      have e12 : zm = y12 := Int32.toInt_inj.mp (by omega)
      subst e12
      rw [vn_at hx1 (n := 0) (z := 0) rfl] at d13
      have e13 : zk = y13 := Int32.toInt_inj.mp (by omega)
      subst e13
      rw [vn_at hx1 (n := 0) (z := 0) rfl] at d14
      rw [vn_at hx1 (n := 0) (z := 0) rfl] at d15
      have hK : ¬ kiK S T 2 (j + 1) = true := kiK_0 (fun h9 => by rw [if_pos h9] at ei; omega)
      exact ih (j + 1) y14 y15 ws1 (by omega) (by rw [if_neg hK]; omega) (by omega) hw1 (hfr.tr hf1)
    rcases List.mem_cons.mp hx with rfl | hx
    · skip
      dsimp only at hlo1 hsk1 ⊢
      simp (config := { decide := true }) only [bnd_b, lin_b, lin_q, Nat.reduceAdd, Nat.zero_add, Nat.reduceEqDiff, reduceIte, and_true, Int.add_zero] at hb1 hl1
      cases hsk1.nil
      obtain ⟨l10, rfl, p10⟩ := lo_ref ha hlo1
      obtain ⟨y11, l11, rfl, d11, p11⟩ := lo_int rfl p10
      obtain ⟨y12, l12, rfl, d12, p12⟩ := lo_int rfl p11
      obtain ⟨y13, l13, rfl, d13, p13⟩ := lo_int rfl p12
      obtain ⟨y14, l14, rfl, d14, p14⟩ := lo_int rfl p13
      obtain ⟨y15, l15, rfl, d15, p15⟩ := lo_int rfl p14
      cases lo_nil p15
      rw [vn_at hx1 (n := 3) (z := zt.toInt) rfl] at d11
      have e11 : zt = y11 := Int32.toInt_inj.mp (by omega)
      subst e11
      rw [vn_at hx1 (n := 4) (z := zm.toInt) rfl] at d12
      have e12 : zm = y12 := Int32.toInt_inj.mp (by omega)
      subst e12
      rw [vn_at hx1 (n := 0) (z := 0) rfl] at d13
      have e13 : zk = y13 := Int32.toInt_inj.mp (by omega)
      subst e13
      rw [vn_at hx1 (n := 0) (z := 0) rfl] at d14
      rw [vn_at hx1 (n := 0) (z := 0) rfl] at d15
      have h0 : kiK S T 2 j = true := by
        by_cases h9 : kiK S T 2 j = true
        · exact h9
        · rw [if_neg h9] at ei
          omega
      have hK : kiK S T 2 (j + 1) = true := kiK_y h0 (Or.inl (by omega))
      exact ih (j + 1) y14 y15 ws1 (by omega) (by rw [if_pos hK]; omega) (by omega) hw1 (hfr.tr hf1)
    rcases List.mem_cons.mp hx with rfl | hx
    · skip
      dsimp only at hlo1 hsk1 ⊢
      simp (config := { decide := true }) only [bnd_b, lin_b, lin_q, Nat.reduceAdd, Nat.zero_add, Nat.reduceEqDiff, reduceIte, and_true, Int.add_zero] at hb1 hl1
      cases hsk1.nil
      obtain ⟨l10, rfl, p10⟩ := lo_ref ha hlo1
      obtain ⟨y11, l11, rfl, d11, p11⟩ := lo_int rfl p10
      obtain ⟨y12, l12, rfl, d12, p12⟩ := lo_int rfl p11
      obtain ⟨y13, l13, rfl, d13, p13⟩ := lo_int rfl p12
      obtain ⟨y14, l14, rfl, d14, p14⟩ := lo_int rfl p13
      obtain ⟨y15, l15, rfl, d15, p15⟩ := lo_int rfl p14
      cases lo_nil p15
      rw [vn_at hx1 (n := 3) (z := zt.toInt) rfl] at d11
      have e11 : zt = y11 := Int32.toInt_inj.mp (by omega)
      subst e11
      rw [vn_at hx1 (n := 4) (z := zm.toInt) rfl] at d12
      have e12 : zm = y12 := Int32.toInt_inj.mp (by omega)
      subst e12
      rw [vn_at hx1 (n := 0) (z := 0) rfl] at d13
      have e13 : zk = y13 := Int32.toInt_inj.mp (by omega)
      subst e13
      rw [vn_at hx1 (n := 0) (z := 0) rfl] at d14
      rw [vn_at hx1 (n := 0) (z := 0) rfl] at d15
      have h0 : kiK S T 2 j = true := by
        by_cases h9 : kiK S T 2 j = true
        · exact h9
        · rw [if_neg h9] at ei
          omega
      have hK : ¬ kiK S T 2 (j + 1) = true := kiK_n (by omega) (by rw [yl_2]; omega)
      exact ih (j + 1) y14 y15 ws1 (by omega) (by rw [if_neg hK]; omega) (by omega) hw1 (hfr.tr hf1)
    have hx0 := List.mem_singleton.mp hx
    subst hx0
    dsimp only at hlo1 hsk1 ⊢
    simp (config := { decide := true }) only [bnd_b, lin_b, lin_q, Nat.reduceAdd, Nat.zero_add, Nat.reduceEqDiff, reduceIte, and_true, Int.add_zero] at hb1 hl1
    cases hsk1.nil
    obtain ⟨l10, rfl, p10⟩ := lo_ref ha hlo1
    obtain ⟨y11, l11, rfl, d11, p11⟩ := lo_int rfl p10
    obtain ⟨y12, l12, rfl, d12, p12⟩ := lo_int rfl p11
    obtain ⟨y13, l13, rfl, d13, p13⟩ := lo_int rfl p12
    obtain ⟨y14, l14, rfl, d14, p14⟩ := lo_int rfl p13
    obtain ⟨y15, l15, rfl, d15, p15⟩ := lo_int rfl p14
    cases lo_nil p15
    rw [vn_at hx1 (n := 3) (z := zt.toInt) rfl] at d11
    have e11 : zt = y11 := Int32.toInt_inj.mp (by omega)
    subst e11
    rw [vn_at hx1 (n := 4) (z := zm.toInt) rfl] at d12
    have e12 : zm = y12 := Int32.toInt_inj.mp (by omega)
    subst e12
    rw [vn_at hx1 (n := 0) (z := 0) rfl] at d13
    have e13 : zk = y13 := Int32.toInt_inj.mp (by omega)
    subst e13
    rw [vn_at hx1 (n := 0) (z := 0) rfl] at d14
    rw [vn_at hx1 (n := 0) (z := 0) rfl] at d15
    have h0 : kiK S T 2 j = true := by
      by_cases h9 : kiK S T 2 j = true
      · exact h9
      · rw [if_neg h9] at ei
        omega
    have hK : kiK S T 2 (j + 1) = true := kiK_y h0 (Or.inr (by rw [yl_2]; omega))
    exact ih (j + 1) y14 y15 ws1 (by omega) (by rw [if_pos hK]; omega) (by omega) hw1 (hfr.tr hf1)
theorem km_i3 {a q : Nat} {S : Nat → Nat → Int} {T : Int} {zt zm zk : Int32} {ws0 : va_W} (C : ai_cx tb_m157 9 p R s m args c D tys A b L sx cells slots) (ha : ad[49]? = some a) (hq : q ≤ 6) (hS : ∀ j, j < q → seB (S j)) (hT : 0 ≤ T ∧ T ≤ 3) (ezt : zt.toInt = T) (hv0 : vi ws0 49 19 q) (hv : ∀ j, j < q → ∀ r, r < 4 → vi ws0 55 (4 * j + r) (S j r)) (ek : zk.toInt = 3) (em : zm.toInt = ((kiM S T q 3 : Nat) : Int))
    (kk : ∀ (ws' : va_W) (zm' zk' : Int32), ai_wd tb_TY ad tys ws' → ai_fr [] ws0 ws' → zm'.toInt = ((kiM S T q 4 : Nat) : Int) → zk'.toInt = 4 → hG tb_m157 p l e R s m args below meth c D A cells slots Q 4 [(0, .ref a), (1, .int zt), (2, .int zm'), (3, .int zk')] [] ws') :
    ∀ (f j : Nat) (zi zj : Int32) (ws : va_W), j + f = q → zi.toInt = (if kiK S T 3 j = true then 1 else 0) → zj.toInt = j → ai_wd tb_TY ad tys ws → ai_fr [] ws0 ws → hG tb_m157 p l e R s m args below meth c D A cells slots Q 15 [(0, .ref a), (1, .int zt), (2, .int zm), (3, .int zk), (4, .int zi), (5, .int zj)] [] ws := by
  have bm := kiM_b S T q 3 (by decide)
  intro f
  induction f with
  | zero =>
    intro j zi zj ws hf ei ej hw hfr
    have hj : j = q := by omega
    have bi : 0 ≤ zi.toInt ∧ zi.toInt ≤ 1 := by split at ei <;> omega
    refine hildw (j := 5) (x := zj) C (tv_m157.1.1.1 (15, .iload 5, 2) (List.mem_of_getElem? (i := 11) rfl)) (List.mem_of_getElem? (i := 5) rfl) ?_
    refine hsum (st := (17, [(0, (0, 49, 0, 0)), (1, (1, 3, 0, 0)), (2, (1, 4, 0, 0)), (3, (1, 0, 0, 3)), (4, (1, 5, 0, 0)), (5, (1, 0, 0, (j : Int)))], [(1, 0, 0, (j : Int))], [(0, 0, false, 0, 0), (0, 2555, false, 1, 0), (0, (j : Int), false, 2, 0), (0, 3, false, 3, 0), (0, 15, false, 4, 0), (0, 1, false, 5, 0)], [(49, 19, (1, 2, 0, 0))], [])) (List.all_eq_true.mp km_3x j (List.mem_range.mpr (by omega))) rfl C (r := [0, 0, (q : Int), zt.toInt, zm.toInt, zi.toInt]) ⟨en_mk (by simp only [en_b, and_true]; omega) rfl, sb0, ⟨rfl, Or.inl ⟨rfl, a, ha, rfl⟩, rfl, int_dv (z := zt.toInt) rfl (by omega), rfl, int_dv (z := zm.toInt) rfl (by omega), rfl, int_dv (z := 0) rfl (by omega), rfl, int_dv (z := zi.toInt) rfl (by omega), rfl, int_dv (z := 0) rfl (by omega), trivial⟩, ⟨int_dv (z := 0) rfl (by omega), trivial⟩, hw, kc ((hv0.fr hfr rfl).kn (n := 2) (t := (q : Int)) rfl (by omega)) (k0), fun _ _ _ _ h => h, fun h => by cases h⟩ (fun x hx r1 lv1 st1 ws1 hx1 hb1 hl1 hs1 hlo1 hsk1 hw1 hV1 hf1 _ => ?_)
    unfold km_3x_S at hx
    have m1_2 := nm_x hx1 (k := 2) rfl
    have m1_3 := nm_x hx1 (k := 3) rfl
    have m1_4 := nm_x hx1 (k := 4) rfl
    have m1_5 := nm_x hx1 (k := 5) rfl
    rcases List.mem_cons.mp hx with rfl | hx
    · skip
      dsimp only at hlo1 hsk1 ⊢
      simp (config := { decide := true }) only [bnd_b, lin_b, lin_q, Nat.reduceAdd, Nat.zero_add, Nat.reduceEqDiff, reduceIte, and_true, Int.add_zero] at hb1 hl1
      obtain ⟨l10, rfl, p10⟩ := lo_ref ha hlo1
      obtain ⟨y11, l11, rfl, d11, p11⟩ := lo_int rfl p10
      obtain ⟨y12, l12, rfl, d12, p12⟩ := lo_int rfl p11
      obtain ⟨y13, l13, rfl, d13, p13⟩ := lo_int rfl p12
      obtain ⟨y14, l14, rfl, d14, p14⟩ := lo_int rfl p13
      obtain ⟨y15, l15, rfl, d15, p15⟩ := lo_int rfl p14
      cases lo_nil p15
      rw [vn_at hx1 (n := 3) (z := zt.toInt) rfl] at d11
      have e11 : zt = y11 := Int32.toInt_inj.mp (by omega)
      subst e11
      rw [vn_at hx1 (n := 4) (z := zm.toInt) rfl] at d12
      have e12 : zm = y12 := Int32.toInt_inj.mp (by omega)
      subst e12
      rw [vn_at hx1 (n := 0) (z := 0) rfl] at d13
      have e13 : zk = y13 := Int32.toInt_inj.mp (by omega)
      subst e13
      rw [vn_at hx1 (n := 5) (z := zi.toInt) rfl] at d14
      have e14 : zi = y14 := Int32.toInt_inj.mp (by omega)
      subst e14
      rw [vn_at hx1 (n := 0) (z := 0) rfl] at d15
      have e15 : zj = y15 := Int32.toInt_inj.mp (by omega)
      subst e15
      obtain ⟨x10, s10, rfl, c10, g10⟩ := hsk1.cons
      obtain ⟨x11, s11, rfl, c11, g11⟩ := g10.cons
      cases g11.nil
      obtain ⟨u10, rfl, w10⟩ := dvn c10 (hx1.at (k := 0) rfl)
      obtain ⟨u11, rfl, w11⟩ := dvn c11 (hx1.at (k := 4) rfl)
      have hK : ¬ kiK S T 3 q = true := by
        rw [← hj]
        intro h9
        rw [if_pos h9] at ei
        omega
      have q2 : u10 = 0 := Int32.toInt_inj.mp (by rw [w10]; decide)
      have q3 : u11 = Int32.ofNat (kiM S T q 3) := i32_of (by omega) (by omega)
      subst q2 q3
      have hor := or_0 _ bm
      refine hior (pc := 108) C (tv_m157.1.1.1 (108, .ior, 1) (List.mem_of_getElem? (i := 66) rfl)) ?_
      generalize (Int32.ofNat (kiM S T q 3) ||| (0 : Int32)) = zv at hor ⊢
      refine hsum (st := (109, [(0, (0, 49, 0, 0)), (1, (1, 3, 0, 0)), (2, (1, 4, 0, 0)), (3, (1, 0, 0, 3)), (4, (1, 5, 0, 0)), (5, (1, 0, 0, (j : Int)))], [(1, 2, 0, 0)], [(0, 0, false, 0, 0), (0, 2555, false, 1, 0), (0, 15, false, 2, 0), (0, 3, false, 3, 0), (0, 15, false, 4, 0), (0, 1, false, 5, 0)], [], [])) (List.all_eq_true.mp km_3tn j (List.mem_range.mpr (by omega))) rfl C (r := [0, 0, zv.toInt, zt.toInt, zm.toInt, zi.toInt]) ⟨en_mk (by simp only [en_b, and_true]; omega) rfl, sb0, ⟨rfl, Or.inl ⟨rfl, a, ha, rfl⟩, rfl, int_dv (z := zt.toInt) rfl (by omega), rfl, int_dv (z := zm.toInt) rfl (by omega), rfl, int_dv (z := 0) rfl (by omega), rfl, int_dv (z := zi.toInt) rfl (by omega), rfl, int_dv (z := 0) rfl (by omega), trivial⟩, ⟨int_dv (z := zv.toInt) rfl (by omega), trivial⟩, hw1, k0, fun _ _ _ _ h => h, fun h => by cases h⟩ (fun x hx r2 lv2 st2 ws2 hx2 hb2 hl2 hs2 hlo2 hsk2 hw2 hV2 hf2 _ => ?_)
      have hx9 := List.mem_singleton.mp hx
      subst hx9
      dsimp only at hlo2 hsk2 ⊢
      obtain ⟨l20, rfl, p20⟩ := lo_ref ha hlo2
      obtain ⟨y21, l21, rfl, d21, p21⟩ := lo_int rfl p20
      obtain ⟨y22, l22, rfl, d22, p22⟩ := lo_int rfl p21
      obtain ⟨y23, l23, rfl, d23, p23⟩ := lo_int rfl p22
      cases lo_nil p23
      rw [vn_at hx2 (n := 3) (z := zt.toInt) rfl] at d21
      have e21 : zt = y21 := Int32.toInt_inj.mp (by omega)
      subst e21
      rw [vn_at hx2 (n := 2) (z := zv.toInt) rfl] at d22
      rw [vn_at hx2 (n := 0) (z := 0) rfl] at d23
      cases hsk2.nil
      refine kk ws2 y22 y23 hw2 ((hfr.tr hf1).tr hf2) ?_ (by omega)
      show y22.toInt = ((kiM S T q 3 ||| (if kiK S T 3 q = true then 2 ^ 3 else 0) : Nat) : Int)
      rw [if_neg hK, Nat.or_zero]
      omega
    have hx0 := List.mem_singleton.mp hx
    subst hx0
    dsimp only at hlo1 hsk1 ⊢
    simp (config := { decide := true }) only [bnd_b, lin_b, lin_q, Nat.reduceAdd, Nat.zero_add, Nat.reduceEqDiff, reduceIte, and_true, Int.add_zero] at hb1 hl1
    obtain ⟨l10, rfl, p10⟩ := lo_ref ha hlo1
    obtain ⟨y11, l11, rfl, d11, p11⟩ := lo_int rfl p10
    obtain ⟨y12, l12, rfl, d12, p12⟩ := lo_int rfl p11
    obtain ⟨y13, l13, rfl, d13, p13⟩ := lo_int rfl p12
    obtain ⟨y14, l14, rfl, d14, p14⟩ := lo_int rfl p13
    obtain ⟨y15, l15, rfl, d15, p15⟩ := lo_int rfl p14
    cases lo_nil p15
    rw [vn_at hx1 (n := 3) (z := zt.toInt) rfl] at d11
    have e11 : zt = y11 := Int32.toInt_inj.mp (by omega)
    subst e11
    rw [vn_at hx1 (n := 4) (z := zm.toInt) rfl] at d12
    have e12 : zm = y12 := Int32.toInt_inj.mp (by omega)
    subst e12
    rw [vn_at hx1 (n := 0) (z := 0) rfl] at d13
    have e13 : zk = y13 := Int32.toInt_inj.mp (by omega)
    subst e13
    rw [vn_at hx1 (n := 5) (z := zi.toInt) rfl] at d14
    have e14 : zi = y14 := Int32.toInt_inj.mp (by omega)
    subst e14
    rw [vn_at hx1 (n := 0) (z := 0) rfl] at d15
    have e15 : zj = y15 := Int32.toInt_inj.mp (by omega)
    subst e15
    obtain ⟨x10, s10, rfl, c10, g10⟩ := hsk1.cons
    obtain ⟨x11, s11, rfl, c11, g11⟩ := g10.cons
    obtain ⟨x12, s12, rfl, c12, g12⟩ := g11.cons
    cases g12.nil
    obtain ⟨u10, rfl, w10⟩ := dvn c10 (hx1.at (k := 0) rfl)
    obtain ⟨u11, rfl, w11⟩ := dvn c11 (hx1.at (k := 0) rfl)
    obtain ⟨u12, rfl, w12⟩ := dvn c12 (hx1.at (k := 4) rfl)
    have hK : kiK S T 3 q = true := by
      rw [← hj]
      by_cases h9 : kiK S T 3 j = true
      · exact h9
      · rw [if_neg h9] at ei
        omega
    have q1 : u10 = Int32.ofNat 3 := i32_of (by omega) (by omega)
    have q2 : u11 = 1 := Int32.toInt_inj.mp (by rw [w11]; decide)
    have q3 : u12 = Int32.ofNat (kiM S T q 3) := i32_of (by omega) (by omega)
    subst q1 q2 q3
    have hor := or_i 3 (by omega) _ bm
    have hob := or_b 3 (by omega) _ bm
    refine hishl (pc := 103) C (tv_m157.1.1.1 (103, .ishl, 1) (List.mem_of_getElem? (i := 63) rfl)) ?_
    refine hgoto (pc := 104) (tgt := 108) C (tv_m157.1.1.1 (104, .goto 4, 3) (List.mem_of_getElem? (i := 64) rfl)) (by decide) ?_
    refine hior (pc := 108) C (tv_m157.1.1.1 (108, .ior, 1) (List.mem_of_getElem? (i := 66) rfl)) ?_
    generalize (Int32.ofNat (kiM S T q 3) ||| ((1 : Int32) <<< (Int32.ofNat 3 &&& 31))) = zv at hor ⊢
    refine hsum (st := (109, [(0, (0, 49, 0, 0)), (1, (1, 3, 0, 0)), (2, (1, 4, 0, 0)), (3, (1, 0, 0, 3)), (4, (1, 5, 0, 0)), (5, (1, 0, 0, (j : Int)))], [(1, 2, 0, 0)], [(0, 0, false, 0, 0), (0, 2555, false, 1, 0), (0, 15, false, 2, 0), (0, 3, false, 3, 0), (0, 15, false, 4, 0), (0, 1, false, 5, 0)], [], [])) (List.all_eq_true.mp km_3ty j (List.mem_range.mpr (by omega))) rfl C (r := [0, 0, zv.toInt, zt.toInt, zm.toInt, zi.toInt]) ⟨en_mk (by simp only [en_b, and_true]; omega) rfl, sb0, ⟨rfl, Or.inl ⟨rfl, a, ha, rfl⟩, rfl, int_dv (z := zt.toInt) rfl (by omega), rfl, int_dv (z := zm.toInt) rfl (by omega), rfl, int_dv (z := 0) rfl (by omega), rfl, int_dv (z := zi.toInt) rfl (by omega), rfl, int_dv (z := 0) rfl (by omega), trivial⟩, ⟨int_dv (z := zv.toInt) rfl (by omega), trivial⟩, hw1, k0, fun _ _ _ _ h => h, fun h => by cases h⟩ (fun x hx r2 lv2 st2 ws2 hx2 hb2 hl2 hs2 hlo2 hsk2 hw2 hV2 hf2 _ => ?_)
    have hx9 := List.mem_singleton.mp hx
    subst hx9
    dsimp only at hlo2 hsk2 ⊢
    obtain ⟨l20, rfl, p20⟩ := lo_ref ha hlo2
    obtain ⟨y21, l21, rfl, d21, p21⟩ := lo_int rfl p20
    obtain ⟨y22, l22, rfl, d22, p22⟩ := lo_int rfl p21
    obtain ⟨y23, l23, rfl, d23, p23⟩ := lo_int rfl p22
    cases lo_nil p23
    rw [vn_at hx2 (n := 3) (z := zt.toInt) rfl] at d21
    have e21 : zt = y21 := Int32.toInt_inj.mp (by omega)
    subst e21
    rw [vn_at hx2 (n := 2) (z := zv.toInt) rfl] at d22
    rw [vn_at hx2 (n := 0) (z := 0) rfl] at d23
    cases hsk2.nil
    refine kk ws2 y22 y23 hw2 ((hfr.tr hf1).tr hf2) ?_ (by omega)
    show y22.toInt = ((kiM S T q 3 ||| (if kiK S T 3 q = true then 2 ^ 3 else 0) : Nat) : Int)
    rw [if_pos hK]
    omega
  | succ f ih =>
    intro j zi zj ws hf ei ej hw hfr
    have hjq : j < q := by omega
    have bi : 0 ≤ zi.toInt ∧ zi.toInt ≤ 1 := by split at ei <;> omega
    obtain ⟨s0, s1, s2, s3, s4⟩ := hS j hjq
    refine hildw (j := 5) (x := zj) C (tv_m157.1.1.1 (15, .iload 5, 2) (List.mem_of_getElem? (i := 11) rfl)) (List.mem_of_getElem? (i := 5) rfl) ?_
    refine hsum (st := (17, [(0, (0, 49, 0, 0)), (1, (1, 3, 0, 0)), (2, (1, 4, 0, 0)), (3, (1, 0, 0, 3)), (4, (1, 5, 0, 0)), (5, (1, 0, 0, (j : Int)))], [(1, 0, 0, (j : Int))], [(0, 0, false, 0, 0), (0, 2555, false, 1, 0), ((j : Int) + 1, 6, false, 2, 0), (0, 3, false, 3, 0), (0, 15, false, 4, 0), (0, 1, false, 5, 0), (0, 3, false, 6, 0), (1, 20, false, 7, 0), (0, 20, false, 8, 0), (0, 20, false, 9, 0)], [(49, 19, (1, 2, 0, 0)), (55, 4 * j + 0, (1, 6, 0, 0)), (55, 4 * j + 1, (1, 7, 0, 0)), (55, 4 * j + 2, (1, 8, 0, 0)), (55, 4 * j + 3, (1, 9, 0, 0))], [])) (List.all_eq_true.mp km_3m j (List.mem_range.mpr (by omega))) rfl C (r := [0, 0, (q : Int), zt.toInt, zm.toInt, zi.toInt, S j 0, S j 1, S j 2, S j 3]) ⟨en_mk (by simp only [en_b, and_true]; omega) rfl, sb0, ⟨rfl, Or.inl ⟨rfl, a, ha, rfl⟩, rfl, int_dv (z := zt.toInt) rfl (by omega), rfl, int_dv (z := zm.toInt) rfl (by omega), rfl, int_dv (z := 0) rfl (by omega), rfl, int_dv (z := zi.toInt) rfl (by omega), rfl, int_dv (z := 0) rfl (by omega), trivial⟩, ⟨int_dv (z := 0) rfl (by omega), trivial⟩, hw, kc ((hv0.fr hfr rfl).kn (n := 2) (t := (q : Int)) rfl (by omega)) (kc (((hv j hjq 0 (by decide)).fr hfr rfl).kn (n := 6) (t := S j 0) rfl (by omega)) (kc (((hv j hjq 1 (by decide)).fr hfr rfl).kn (n := 7) (t := S j 1) rfl (by omega)) (kc (((hv j hjq 2 (by decide)).fr hfr rfl).kn (n := 8) (t := S j 2) rfl (by omega)) (kc (((hv j hjq 3 (by decide)).fr hfr rfl).kn (n := 9) (t := S j 3) rfl (by omega)) (k0))))), fun _ _ _ _ h => h, fun h => by cases h⟩ (fun x hx r1 lv1 st1 ws1 hx1 hb1 hl1 hs1 hlo1 hsk1 hw1 hV1 hf1 _ => ?_)
    unfold km_3m_S at hx
    have m1_2 := nm_x hx1 (k := 2) rfl
    have m1_3 := nm_x hx1 (k := 3) rfl
    have m1_4 := nm_x hx1 (k := 4) rfl
    have m1_5 := nm_x hx1 (k := 5) rfl
    have m1_6 := nm_x hx1 (k := 6) rfl
    have m1_7 := nm_x hx1 (k := 7) rfl
    have m1_8 := nm_x hx1 (k := 8) rfl
    have m1_9 := nm_x hx1 (k := 9) rfl
    rcases List.mem_cons.mp hx with rfl | hx
    · skip
      dsimp only at hlo1 hsk1 ⊢
      simp (config := { decide := true }) only [bnd_b, lin_b, lin_q, Nat.reduceAdd, Nat.zero_add, Nat.reduceEqDiff, reduceIte, and_true, Int.add_zero] at hb1 hl1
      cases hsk1.nil
      obtain ⟨l10, rfl, p10⟩ := lo_ref ha hlo1
      obtain ⟨y11, l11, rfl, d11, p11⟩ := lo_int rfl p10
      obtain ⟨y12, l12, rfl, d12, p12⟩ := lo_int rfl p11
      obtain ⟨y13, l13, rfl, d13, p13⟩ := lo_int rfl p12
      obtain ⟨y14, l14, rfl, d14, p14⟩ := lo_int rfl p13
      obtain ⟨y15, l15, rfl, d15, p15⟩ := lo_int rfl p14
      cases lo_nil p15
      rw [vn_at hx1 (n := 3) (z := zt.toInt) rfl] at d11
      have e11 : zt = y11 := Int32.toInt_inj.mp (by omega)
      subst e11
      rw [vn_at hx1 (n := 4) (z := zm.toInt) rfl] at d12
      have e12 : zm = y12 := Int32.toInt_inj.mp (by omega)
      subst e12
      rw [vn_at hx1 (n := 0) (z := 0) rfl] at d13
      have e13 : zk = y13 := Int32.toInt_inj.mp (by omega)
      subst e13
      rw [vn_at hx1 (n := 0) (z := 0) rfl] at d14
      rw [vn_at hx1 (n := 0) (z := 0) rfl] at d15
      have hK : ¬ kiK S T 3 (j + 1) = true := kiK_0 (fun h9 => by rw [if_pos h9] at ei; omega)
      exact ih (j + 1) y14 y15 ws1 (by omega) (by rw [if_neg hK]; omega) (by omega) hw1 (hfr.tr hf1)
    rcases List.mem_cons.mp hx with rfl | hx
    · skip
      dsimp only at hlo1 hsk1 ⊢
      simp (config := { decide := true }) only [bnd_b, lin_b, lin_q, Nat.reduceAdd, Nat.zero_add, Nat.reduceEqDiff, reduceIte, and_true, Int.add_zero] at hb1 hl1
      cases hsk1.nil
      obtain ⟨l10, rfl, p10⟩ := lo_ref ha hlo1
      obtain ⟨y11, l11, rfl, d11, p11⟩ := lo_int rfl p10
      obtain ⟨y12, l12, rfl, d12, p12⟩ := lo_int rfl p11
      obtain ⟨y13, l13, rfl, d13, p13⟩ := lo_int rfl p12
      obtain ⟨y14, l14, rfl, d14, p14⟩ := lo_int rfl p13
      obtain ⟨y15, l15, rfl, d15, p15⟩ := lo_int rfl p14
      cases lo_nil p15
      rw [vn_at hx1 (n := 3) (z := zt.toInt) rfl] at d11
      have e11 : zt = y11 := Int32.toInt_inj.mp (by omega)
      subst e11
      rw [vn_at hx1 (n := 4) (z := zm.toInt) rfl] at d12
      have e12 : zm = y12 := Int32.toInt_inj.mp (by omega)
      subst e12
      rw [vn_at hx1 (n := 0) (z := 0) rfl] at d13
      have e13 : zk = y13 := Int32.toInt_inj.mp (by omega)
      subst e13
      rw [vn_at hx1 (n := 0) (z := 0) rfl] at d14
      rw [vn_at hx1 (n := 0) (z := 0) rfl] at d15
      have h0 : kiK S T 3 j = true := by
        by_cases h9 : kiK S T 3 j = true
        · exact h9
        · rw [if_neg h9] at ei
          omega
      have hK : kiK S T 3 (j + 1) = true := kiK_y h0 (Or.inl (by omega))
      exact ih (j + 1) y14 y15 ws1 (by omega) (by rw [if_pos hK]; omega) (by omega) hw1 (hfr.tr hf1)
    rcases List.mem_cons.mp hx with rfl | hx
    · skip
      dsimp only at hlo1 hsk1 ⊢
      simp (config := { decide := true }) only [bnd_b, lin_b, lin_q, Nat.reduceAdd, Nat.zero_add, Nat.reduceEqDiff, reduceIte, and_true, Int.add_zero] at hb1 hl1
      cases hsk1.nil
      obtain ⟨l10, rfl, p10⟩ := lo_ref ha hlo1
      obtain ⟨y11, l11, rfl, d11, p11⟩ := lo_int rfl p10
      obtain ⟨y12, l12, rfl, d12, p12⟩ := lo_int rfl p11
      obtain ⟨y13, l13, rfl, d13, p13⟩ := lo_int rfl p12
      obtain ⟨y14, l14, rfl, d14, p14⟩ := lo_int rfl p13
      obtain ⟨y15, l15, rfl, d15, p15⟩ := lo_int rfl p14
      cases lo_nil p15
      rw [vn_at hx1 (n := 3) (z := zt.toInt) rfl] at d11
      have e11 : zt = y11 := Int32.toInt_inj.mp (by omega)
      subst e11
      rw [vn_at hx1 (n := 4) (z := zm.toInt) rfl] at d12
      have e12 : zm = y12 := Int32.toInt_inj.mp (by omega)
      subst e12
      rw [vn_at hx1 (n := 0) (z := 0) rfl] at d13
      have e13 : zk = y13 := Int32.toInt_inj.mp (by omega)
      subst e13
      rw [vn_at hx1 (n := 0) (z := 0) rfl] at d14
      rw [vn_at hx1 (n := 0) (z := 0) rfl] at d15
      have h0 : kiK S T 3 j = true := by
        by_cases h9 : kiK S T 3 j = true
        · exact h9
        · rw [if_neg h9] at ei
          omega
      have hK : ¬ kiK S T 3 (j + 1) = true := kiK_n (by omega) (by rw [yl_3]; omega)
      exact ih (j + 1) y14 y15 ws1 (by omega) (by rw [if_neg hK]; omega) (by omega) hw1 (hfr.tr hf1)
    rcases List.mem_cons.mp hx with rfl | hx
    · skip
      dsimp only at hlo1 hsk1 ⊢
      simp (config := { decide := true }) only [bnd_b, lin_b, lin_q, Nat.reduceAdd, Nat.zero_add, Nat.reduceEqDiff, reduceIte, and_true, Int.add_zero] at hb1 hl1
      cases hsk1.nil
      obtain ⟨l10, rfl, p10⟩ := lo_ref ha hlo1
      obtain ⟨y11, l11, rfl, d11, p11⟩ := lo_int rfl p10
      obtain ⟨y12, l12, rfl, d12, p12⟩ := lo_int rfl p11
      obtain ⟨y13, l13, rfl, d13, p13⟩ := lo_int rfl p12
      obtain ⟨y14, l14, rfl, d14, p14⟩ := lo_int rfl p13
      obtain ⟨y15, l15, rfl, d15, p15⟩ := lo_int rfl p14
      cases lo_nil p15
      rw [vn_at hx1 (n := 3) (z := zt.toInt) rfl] at d11
      have e11 : zt = y11 := Int32.toInt_inj.mp (by omega)
      subst e11
      rw [vn_at hx1 (n := 4) (z := zm.toInt) rfl] at d12
      have e12 : zm = y12 := Int32.toInt_inj.mp (by omega)
      subst e12
      rw [vn_at hx1 (n := 0) (z := 0) rfl] at d13
      have e13 : zk = y13 := Int32.toInt_inj.mp (by omega)
      subst e13
      rw [vn_at hx1 (n := 0) (z := 0) rfl] at d14
      rw [vn_at hx1 (n := 0) (z := 0) rfl] at d15
      have h0 : kiK S T 3 j = true := by
        by_cases h9 : kiK S T 3 j = true
        · exact h9
        · rw [if_neg h9] at ei
          omega
      have hK : kiK S T 3 (j + 1) = true := kiK_y h0 (Or.inr (by rw [yl_3]; omega))
      exact ih (j + 1) y14 y15 ws1 (by omega) (by rw [if_pos hK]; omega) (by omega) hw1 (hfr.tr hf1)
    rcases List.mem_cons.mp hx with rfl | hx
    · skip
      dsimp only at hlo1 hsk1 ⊢
      simp (config := { decide := true }) only [bnd_b, lin_b, lin_q, Nat.reduceAdd, Nat.zero_add, Nat.reduceEqDiff, reduceIte, and_true, Int.add_zero] at hb1 hl1
      cases hsk1.nil
      obtain ⟨l10, rfl, p10⟩ := lo_ref ha hlo1
      obtain ⟨y11, l11, rfl, d11, p11⟩ := lo_int rfl p10
      obtain ⟨y12, l12, rfl, d12, p12⟩ := lo_int rfl p11
      obtain ⟨y13, l13, rfl, d13, p13⟩ := lo_int rfl p12
      obtain ⟨y14, l14, rfl, d14, p14⟩ := lo_int rfl p13
      obtain ⟨y15, l15, rfl, d15, p15⟩ := lo_int rfl p14
      cases lo_nil p15
      rw [vn_at hx1 (n := 3) (z := zt.toInt) rfl] at d11
      have e11 : zt = y11 := Int32.toInt_inj.mp (by omega)
      subst e11
      rw [vn_at hx1 (n := 4) (z := zm.toInt) rfl] at d12
      have e12 : zm = y12 := Int32.toInt_inj.mp (by omega)
      subst e12
      rw [vn_at hx1 (n := 0) (z := 0) rfl] at d13
      have e13 : zk = y13 := Int32.toInt_inj.mp (by omega)
      subst e13
      rw [vn_at hx1 (n := 0) (z := 0) rfl] at d14
      rw [vn_at hx1 (n := 0) (z := 0) rfl] at d15
      have h0 : kiK S T 3 j = true := by
        by_cases h9 : kiK S T 3 j = true
        · exact h9
        · rw [if_neg h9] at ei
          omega
      have hK : ¬ kiK S T 3 (j + 1) = true := kiK_n (by omega) (by rw [yl_3]; omega)
      exact ih (j + 1) y14 y15 ws1 (by omega) (by rw [if_neg hK]; omega) (by omega) hw1 (hfr.tr hf1)
    have hx0 := List.mem_singleton.mp hx
    subst hx0
    dsimp only at hlo1 hsk1 ⊢
    simp (config := { decide := true }) only [bnd_b, lin_b, lin_q, Nat.reduceAdd, Nat.zero_add, Nat.reduceEqDiff, reduceIte, and_true, Int.add_zero] at hb1 hl1
    cases hsk1.nil
    obtain ⟨l10, rfl, p10⟩ := lo_ref ha hlo1
    obtain ⟨y11, l11, rfl, d11, p11⟩ := lo_int rfl p10
    obtain ⟨y12, l12, rfl, d12, p12⟩ := lo_int rfl p11
    obtain ⟨y13, l13, rfl, d13, p13⟩ := lo_int rfl p12
    obtain ⟨y14, l14, rfl, d14, p14⟩ := lo_int rfl p13
    obtain ⟨y15, l15, rfl, d15, p15⟩ := lo_int rfl p14
    cases lo_nil p15
    rw [vn_at hx1 (n := 3) (z := zt.toInt) rfl] at d11
    have e11 : zt = y11 := Int32.toInt_inj.mp (by omega)
    subst e11
    rw [vn_at hx1 (n := 4) (z := zm.toInt) rfl] at d12
    have e12 : zm = y12 := Int32.toInt_inj.mp (by omega)
    subst e12
    rw [vn_at hx1 (n := 0) (z := 0) rfl] at d13
    have e13 : zk = y13 := Int32.toInt_inj.mp (by omega)
    subst e13
    rw [vn_at hx1 (n := 0) (z := 0) rfl] at d14
    rw [vn_at hx1 (n := 0) (z := 0) rfl] at d15
    have h0 : kiK S T 3 j = true := by
      by_cases h9 : kiK S T 3 j = true
      · exact h9
      · rw [if_neg h9] at ei
        omega
    have hK : kiK S T 3 (j + 1) = true := kiK_y h0 (Or.inr (by rw [yl_3]; omega))
    exact ih (j + 1) y14 y15 ws1 (by omega) (by rw [if_pos hK]; omega) (by omega) hw1 (hfr.tr hf1)
theorem km_loop {a q : Nat} {S : Nat → Nat → Int} {T : Int} {zt : Int32} {ws0 : va_W} (C : ai_cx tb_m157 9 p R s m args c D tys A b L sx cells slots) (ha : ad[49]? = some a) (hq : q ≤ 6) (hS : ∀ j, j < q → seB (S j)) (hT : 0 ≤ T ∧ T ≤ 3) (ezt : zt.toInt = T) (hv0 : vi ws0 49 19 q) (hv : ∀ j, j < q → ∀ r, r < 4 → vi ws0 55 (4 * j + r) (S j r))
    (kk : ∀ (ws' : va_W) (z : Int32) (lv' : List (Nat × Value)), ai_wd tb_TY ad tys ws' → ai_fr [] ws0 ws' → z.toInt = ((kiM S T q 4 : Nat) : Int) → hG tb_m157 p l e R s m args below meth c D A cells slots Q 117 lv' [.int z] ws') :
    ∀ (f k : Nat) (zm zk : Int32) (ws : va_W), k + f = 4 → zm.toInt = ((kiM S T q k : Nat) : Int) → zk.toInt = k → ai_wd tb_TY ad tys ws → ai_fr [] ws0 ws → hG tb_m157 p l e R s m args below meth c D A cells slots Q 4 [(0, .ref a), (1, .int zt), (2, .int zm), (3, .int zk)] [] ws := by
  intro f
  induction f with
  | zero =>
    intro k zm zk ws hf em ek hw hfr
    have hk : k = 4 := by omega
    subst hk
    have bm := kiM_b S T q 4 (by decide)
    refine hild2 (j := 3) (x := zk) C (tv_m157.1.1.1 (4, .iload_n 3, 1) (List.mem_of_getElem? (i := 4) rfl)) (List.mem_of_getElem? (i := 3) rfl) ?_
    refine hsum (st := (5, [(0, (0, 49, 0, 0)), (1, (1, 2, 0, 0)), (2, (1, 3, 0, 0)), (3, (1, 0, 0, 4))], [(1, 0, 0, 4)], [(0, 0, false, 0, 0), (0, 2555, false, 1, 0), (0, 3, false, 2, 0), (0, 15, false, 3, 0)], [], [])) km_x rfl C (r := [0, 0, zt.toInt, zm.toInt]) ⟨en_mk (by simp only [en_b, and_true]; omega) rfl, sb0, ⟨rfl, Or.inl ⟨rfl, a, ha, rfl⟩, rfl, int_dv (z := zt.toInt) rfl (by omega), rfl, int_dv (z := zm.toInt) rfl (by omega), rfl, int_dv (z := 0) rfl (by omega), trivial⟩, ⟨int_dv (z := 0) rfl (by omega), trivial⟩, hw, k0, fun _ _ _ _ h => h, fun h => by cases h⟩ (fun x hx r1 lv1 st1 ws1 hx1 hb1 hl1 hs1 hlo1 hsk1 hw1 hV1 hf1 _ => ?_)
    unfold km_x_S at hx
    have m1_2 := nm_x hx1 (k := 2) rfl
    have m1_3 := nm_x hx1 (k := 3) rfl
    have hx0 := List.mem_singleton.mp hx
    subst hx0
    dsimp only at hlo1 hsk1 ⊢
    simp (config := { decide := true }) only [bnd_b, lin_b, lin_q, Nat.reduceAdd, Nat.zero_add, Nat.reduceEqDiff, reduceIte, and_true, Int.add_zero] at hb1 hl1
    obtain ⟨z, rfl, hz⟩ := sk1 rfl hsk1
    rw [vn_at hx1 (n := 3) (z := zm.toInt) rfl] at hz
    exact kk ws1 z lv1 hw1 (hfr.tr hf1) (by omega)
  | succ f ih =>
    intro k zm zk ws hf em ek hw hfr
    have bm := kiM_b S T q k (by omega)
    refine hild2 (j := 3) (x := zk) C (tv_m157.1.1.1 (4, .iload_n 3, 1) (List.mem_of_getElem? (i := 4) rfl)) (List.mem_of_getElem? (i := 3) rfl) ?_
    refine hsum (st := (5, [(0, (0, 49, 0, 0)), (1, (1, 2, 0, 0)), (2, (1, 3, 0, 0)), (3, (1, 0, 0, (k : Int)))], [(1, 0, 0, (k : Int))], [(0, 0, false, 0, 0), (0, 2555, false, 1, 0), (0, 3, false, 2, 0), (0, 15, false, 3, 0)], [], [])) (List.all_eq_true.mp km_o k (List.mem_range.mpr (by omega))) rfl C (r := [0, 0, zt.toInt, zm.toInt]) ⟨en_mk (by simp only [en_b, and_true]; omega) rfl, sb0, ⟨rfl, Or.inl ⟨rfl, a, ha, rfl⟩, rfl, int_dv (z := zt.toInt) rfl (by omega), rfl, int_dv (z := zm.toInt) rfl (by omega), rfl, int_dv (z := 0) rfl (by omega), trivial⟩, ⟨int_dv (z := 0) rfl (by omega), trivial⟩, hw, k0, fun _ _ _ _ h => h, fun h => by cases h⟩ (fun x hx r1 lv1 st1 ws1 hx1 hb1 hl1 hs1 hlo1 hsk1 hw1 hV1 hf1 _ => ?_)
    have hx9 := List.mem_singleton.mp hx
    subst hx9
    dsimp only at hlo1 hsk1 ⊢
    obtain ⟨l10, rfl, p10⟩ := lo_ref ha hlo1
    obtain ⟨y11, l11, rfl, d11, p11⟩ := lo_int rfl p10
    obtain ⟨y12, l12, rfl, d12, p12⟩ := lo_int rfl p11
    obtain ⟨y13, l13, rfl, d13, p13⟩ := lo_int rfl p12
    obtain ⟨y14, l14, rfl, d14, p14⟩ := lo_int rfl p13
    obtain ⟨y15, l15, rfl, d15, p15⟩ := lo_int rfl p14
    cases lo_nil p15
    rw [vn_at hx1 (n := 2) (z := zt.toInt) rfl] at d11
    have e11 : zt = y11 := Int32.toInt_inj.mp (by omega)
    subst e11
    rw [vn_at hx1 (n := 3) (z := zm.toInt) rfl] at d12
    have e12 : zm = y12 := Int32.toInt_inj.mp (by omega)
    subst e12
    rw [vn_at hx1 (n := 0) (z := 0) rfl] at d13
    have e13 : zk = y13 := Int32.toInt_inj.mp (by omega)
    subst e13
    rw [vn_at hx1 (n := 0) (z := 0) rfl] at d14
    rw [vn_at hx1 (n := 0) (z := 0) rfl] at d15
    cases hsk1.nil
    have bq : q ≤ 6 := hq
    have w0 := hv0.fr (hfr.tr hf1) rfl
    have hk : k = 0 ∨ k = 1 ∨ k = 2 ∨ k = 3 := by omega
    rcases hk with rfl | rfl | rfl | rfl
    · exact km_i0 (ws0 := ws1) C ha hq hS hT ezt w0 (fun j hj r hr => (hv j hj r hr).fr (hfr.tr hf1) (nowr_ok (c := 55) rfl _ _)) ek em (fun ws2 zm2 zk2 hw2 hf2 em2 ek2 => ih 1 zm2 zk2 ws2 (by omega) em2 ek2 hw2 ((hfr.tr hf1).tr hf2)) q 0 y14 y15 ws1 (by omega) (by rw [show y14.toInt = 1 by omega]; rfl) (by omega) hw1 (fun _ _ _ _ h => h)
    · exact km_i1 (ws0 := ws1) C ha hq hS hT ezt w0 (fun j hj r hr => (hv j hj r hr).fr (hfr.tr hf1) (nowr_ok (c := 55) rfl _ _)) ek em (fun ws2 zm2 zk2 hw2 hf2 em2 ek2 => ih 2 zm2 zk2 ws2 (by omega) em2 ek2 hw2 ((hfr.tr hf1).tr hf2)) q 0 y14 y15 ws1 (by omega) (by rw [show y14.toInt = 1 by omega]; rfl) (by omega) hw1 (fun _ _ _ _ h => h)
    · exact km_i2 (ws0 := ws1) C ha hq hS hT ezt w0 (fun j hj r hr => (hv j hj r hr).fr (hfr.tr hf1) (nowr_ok (c := 55) rfl _ _)) ek em (fun ws2 zm2 zk2 hw2 hf2 em2 ek2 => ih 3 zm2 zk2 ws2 (by omega) em2 ek2 hw2 ((hfr.tr hf1).tr hf2)) q 0 y14 y15 ws1 (by omega) (by rw [show y14.toInt = 1 by omega]; rfl) (by omega) hw1 (fun _ _ _ _ h => h)
    · exact km_i3 (ws0 := ws1) C ha hq hS hT ezt w0 (fun j hj r hr => (hv j hj r hr).fr (hfr.tr hf1) (nowr_ok (c := 55) rfl _ _)) ek em (fun ws2 zm2 zk2 hw2 hf2 em2 ek2 => ih 4 zm2 zk2 ws2 (by omega) em2 ek2 hw2 ((hfr.tr hf1).tr hf2)) q 0 y14 y15 ws1 (by omega) (by rw [show y14.toInt = 1 by omega]; rfl) (by omega) hw1 (fun _ _ _ _ h => h)
theorem km_all {a q : Nat} {S : Nat → Nat → Int} {T : Int} {zt : Int32} {ws : va_W} (C : ai_cx tb_m157 9 p R s m args c D tys A b L sx cells slots) (ha : ad[49]? = some a) (hq : q ≤ 6) (hS : ∀ j, j < q → seB (S j)) (hT : 0 ≤ T ∧ T ≤ 3) (ezt : zt.toInt = T) (hw : ai_wd tb_TY ad tys ws) (hv0 : vi ws 49 19 q) (hv : ∀ j, j < q → ∀ r, r < 4 → vi ws 55 (4 * j + r) (S j r))
    (kk : ∀ (ws' : va_W) (z : Int32) (lv' : List (Nat × Value)), ai_wd tb_TY ad tys ws' → ai_fr [] ws ws' → z.toInt = ((kiB S T q : Nat) : Int) → hG tb_m157 p l e R s m args below meth c D A cells slots Q 117 lv' [.int z] ws') : hG tb_m157 p l e R s m args below meth c D A cells slots Q 0 [(0, .ref a), (1, .int zt)] [] ws := by
  refine hsum (st := (0, [(0, (0, 49, 0, 0)), (1, (1, 2, 0, 0))], [], [(0, 0, false, 0, 0), (0, 2555, false, 1, 0), (0, 3, false, 2, 0)], [], [])) km_0 rfl C (r := [0, 0, zt.toInt]) ⟨en_mk (by simp only [en_b, and_true]; omega) rfl, sb0, ⟨rfl, Or.inl ⟨rfl, a, ha, rfl⟩, rfl, int_dv (z := zt.toInt) rfl (by omega), trivial⟩, trivial, hw, k0, fun _ _ _ _ h => h, fun h => by cases h⟩ (fun x hx r1 lv1 st1 ws1 hx1 hb1 hl1 hs1 hlo1 hsk1 hw1 hV1 hf1 _ => ?_)
  have hx9 := List.mem_singleton.mp hx
  subst hx9
  dsimp only at hlo1 hsk1 ⊢
  obtain ⟨l10, rfl, p10⟩ := lo_ref ha hlo1
  obtain ⟨y11, l11, rfl, d11, p11⟩ := lo_int rfl p10
  obtain ⟨y12, l12, rfl, d12, p12⟩ := lo_int rfl p11
  obtain ⟨y13, l13, rfl, d13, p13⟩ := lo_int rfl p12
  cases lo_nil p13
  rw [vn_at hx1 (n := 2) (z := zt.toInt) rfl] at d11
  have e11 : zt = y11 := Int32.toInt_inj.mp (by omega)
  subst e11
  rw [vn_at hx1 (n := 0) (z := 0) rfl] at d12
  rw [vn_at hx1 (n := 0) (z := 0) rfl] at d13
  cases hsk1.nil
  exact km_loop C ha hq hS hT ezt hv0 hv (fun w z lv h1 h2 h3 => kk w z lv h1 h2 (by rw [h3, ki_eq])) 4 0 y12 y13 ws1 rfl (by rw [show y12.toInt = 0 by omega]; rfl) (by omega) hw1 hf1
end KOM
