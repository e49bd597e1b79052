/-! longs by hand -/
def vl (ws : va_W) (c i : Nat) (z : Int) : Prop := ∃ j : Int64, ai_sl ws c i (.long j) ∧ j.toInt = z
theorem vl.fr {WR : List (Nat × Nat × Nat)} {ws ws' : va_W} {c i : Nat} {z : Int} (h : vl ws c i z) (hf : ai_fr WR ws ws') (hw : ai_wr WR c i i = false) : vl ws' c i z := by
  obtain ⟨j, h1, h2⟩ := h
  exact ⟨j, hf c i _ hw h1, h2⟩
theorem vl.kn {ad : List Nat} {b : Nat} {r : List Int} {ws : va_W} {k i n : Nat} {o t z : Int} (h : vl ws k i z) (hr : r[n]? = some t) (hz : z = t + o) : ∃ x, ai_sl ws k i x ∧ ai_dv ad b r (2, n, 0, o) x := by
  obtain ⟨j, h1, h2⟩ := h
  exact ⟨_, h1, Or.inr (Or.inr (Or.inl ⟨rfl, t, j, hr, rfl, by rw [h2, hz]⟩))⟩
theorem vl.eq {ws : va_W} {k i : Nat} {z y : Int} (h : vl ws k i z) (e : z = y) : vl ws k i y := by
  rw [← e]
  exact h
theorem vl.fun {ws : va_W} {k i : Nat} {z y : Int} (h : vl ws k i z) (h' : vl ws k i y) : z = y := by
  obtain ⟨j, h1, h2⟩ := h
  obtain ⟨j', h3, h4⟩ := h'
  have := h1.fun h3
  cases this
  rw [← h2, ← h4]
theorem dvl {ad : List Nat} {b : Nat} {r : List Int} {n : Nat} {o z : Int} {x : Value} (h : ai_dv ad b r (2, n, 0, o) x) (hz : r[n]? = some z) : ∃ i : Int64, x = .long i ∧ i.toInt = z + o := by
  rcases h with ⟨q, -⟩ | ⟨q, -⟩ | ⟨-, y, i, q1, q2, q3⟩ | ⟨q, -⟩ | ⟨q, -⟩
  · exact absurd (id q : (2 : Nat) = 0) (by decide)
  · exact absurd (id q : (2 : Nat) = 1) (by decide)
  · have q1 : r[n]? = some y := q1
    rw [hz] at q1
    cases q1
    exact ⟨i, q2, q3⟩
  · exact absurd (id q : (2 : Nat) = 3) (by decide)
  · exact absurd (id q : (2 : Nat) = 4) (by decide)
theorem lng_dv {ad : List Nat} {b : Nat} {n : Nat} {o z : Int} {i : Int64} {r : List Int} (hr : r[n]? = some z) (hi : i.toInt = z + o) : ai_dv ad b r (2, n, 0, o) (.long i) := Or.inr (Or.inr (Or.inl ⟨rfl, z, i, hr, rfl, hi⟩))
theorem int_any {ad : List Nat} {b : Nat} {r : List Int} {k : Nat} {o : Int} {x : Value} (h : ai_dv ad b r (1, k, 0, o) x) : ∃ i : Int32, x = .int i ∧ i.toInt = vn r (1, k, 0, o) := by
  rcases h with ⟨q, -⟩ | ⟨-, z, i, h3, rfl, h5⟩ | ⟨q, -⟩ | ⟨q, -⟩ | ⟨q, -⟩
  · omega
  · refine ⟨i, rfl, ?_⟩
    unfold vn
    rw [nm_of h3]
    exact h5
  all_goals omega
theorem lng_any {ad : List Nat} {b : Nat} {r : List Int} {k : Nat} {o : Int} {x : Value} (h : ai_dv ad b r (2, k, 0, o) x) : ∃ i : Int64, x = .long i ∧ i.toInt = vn r (2, k, 0, o) := by
  rcases h with ⟨q, -⟩ | ⟨q, -⟩ | ⟨-, z, i, h3, rfl, h5⟩ | ⟨q, -⟩ | ⟨q, -⟩
  · omega
  · omega
  · refine ⟨i, rfl, ?_⟩
    unfold vn
    rw [nm_of h3]
    exact h5
  all_goals omega
theorem vnl_at {r0 r' : List Int} (hx : ai_x r0 r') {n : Nat} {o z : Int} (h : r0[n]? = some z) : vn r' (2, n, 0, o) = z + o := by
  unfold vn
  rw [nm_x hx h]
theorem lo_lng {ad : List Nat} {b : Nat} {r : List Int} {i : Nat} {v : ai_v} {lo : List (Nat × ai_v)} {lv : List (Nat × Value)} (hv : v.1 = 2) (h : ai_lo ad b r ((i, v) :: lo) lv) : ∃ (z : Int64) (lv2 : List (Nat × Value)), lv = (i, .long z) :: lv2 ∧ z.toInt = vn r v ∧ ai_lo ad b r lo lv2 := by
  cases lv with
  | nil => exact h.elim
  | cons y ys =>
    obtain ⟨h1, h2, h3⟩ := h
    obtain ⟨y1, y2⟩ := y
    rcases h2 with ⟨q, -⟩ | ⟨q, -⟩ | ⟨-, z, j, h4, h5, h6⟩ | ⟨q, -⟩ | ⟨q, -⟩
    · exact absurd (hv.symm.trans q) (by decide)
    · exact absurd (hv.symm.trans q) (by decide)
    · cases h1
      cases h5
      refine ⟨j, ys, rfl, ?_, h3⟩
      unfold vn
      rw [nm_of h4]
      exact h6
    all_goals exact absurd (hv.symm.trans q) (by decide)
theorem skl {ad : List Nat} {b : Nat} {r : List Int} {v : ai_v} {sk : List Value} (hv : v.1 = 2) (h : ai_sk ad b r [v] sk) : ∃ i : Int64, sk = [.long i] ∧ i.toInt = vn r v := by
  obtain ⟨x, ys, rfl, h1, h2⟩ := h.cons
  rw [h2.nil]
  rcases h1 with ⟨q, -⟩ | ⟨q, -⟩ | ⟨-, z, i, h3, rfl, h5⟩ | ⟨q, -⟩ | ⟨q, -⟩
  · omega
  · omega
  · refine ⟨i, rfl, ?_⟩
    unfold vn
    rw [nm_of h3]
    exact h5
  all_goals omega
theorem lmul_i {x y : Int64} (h : -9223372036854775808 ≤ x.toInt * y.toInt ∧ x.toInt * y.toInt ≤ 9223372036854775807) : (x * y).toInt = x.toInt * y.toInt := by
  rw [Int64.toInt_mul]
  apply Int.bmod_eq_of_le <;> omega
theorem ladd_i {x y : Int64} (h : -9223372036854775808 ≤ x.toInt + y.toInt ∧ x.toInt + y.toInt ≤ 9223372036854775807) : (x + y).toInt = x.toInt + y.toInt := by
  rw [Int64.toInt_add]
  apply Int.bmod_eq_of_le <;> omega
section HLL
variable {ad : List Nat} {M : ai_m} {d : Nat} {p : Program} {l : Launch} {e : Env} {R : Room} {s : State} {m : MethodId} {args : Array Value} {below : List Frame} {meth : Method} {c : Code} {D : va_G} {tys : ai_ty} {A : Nat → Prop} {b L : Nat} {sx : Nat → Int32} {cells slots : Nat} {Q : State → Prop}
theorem hlald {pc c0 n a : Nat} {F : List ai_f} {w : Int} {ws : va_W} {i : Int32} {rest : List Value} {lv : List (Nat × Value)} (C : ai_cx M d p R s m args c D tys A b L sx cells slots) (hd : decode M.2.1 pc = .ok (.laload, 1)) (hT : tb_TY[c0]? = some (3, n, F)) (hw : ai_wd tb_TY ad tys ws) (ha : ad[c0]? = some a) (h0 : 0 ≤ i.toInt) (hn : i.toInt < n) (hv : vl ws c0 i.toInt.toNat w)
    (k : ∀ z : Int64, z.toInt = w → hG M p l e R s m args below meth c D A cells slots Q (pc + 1) lv (.long z :: rest) ws) : hG M p l e R s m args below meth c D A cells slots Q pc lv (.int i :: .ref a :: rest) ws := by
  intro H locs ls hP hD hS hl
  obtain ⟨a', e', w1, w2, w3⟩ := hw.get hT
  cases Option.some.inj (ha.symm.trans w2)
  rcases w3 with ⟨z, -⟩ | ⟨z, -⟩ | ⟨-, cA, f, rfl, ⟨t0, ht0⟩⟩ | ⟨z, -⟩
  · exact absurd (id z : (3 : Nat) = 0) (by decide)
  · exact absurd (id z : (3 : Nat) = 1 ∨ (3 : Nat) = 2) (by decide)
  · have hin : vp_in i n := vp_in_iff.mpr ⟨h0, hn⟩
    have ei : i.toNatClampNeg = i.toInt.toNat := by
      have e : (i.toNatClampNeg : Int) = i.toInt := by
        rw [Int32.toNatClampNeg]
        omega
      omega
    obtain ⟨j, j1, j2⟩ := hv
    have hj := j1.fun ⟨a, _, w1, Or.inr (Or.inr ⟨cA, n, f, rfl, by omega, rfl⟩)⟩
    injection hj with hj
    refine va_lald C.1 C.2.1 C.2.2.2.2.2.2.1 hP c0 t0 w1 ht0 hin hd (k _ ?_ H locs ls hP hD hS hl)
    rw [ei, ← hj]
    exact j2
  · exact absurd (id z : (3 : Nat) = 4) (by decide)
theorem hlast {pc c0 n a : Nat} {F : List ai_f} {ws : va_W} {v : Int64} {i : Int32} {rest : List Value} {lv : List (Nat × Value)} (C : ai_cx M d p R s m args c D tys A b L sx cells slots) (hd : decode M.2.1 pc = .ok (.lastore, 1)) (hT : tb_TY[c0]? = some (3, n, F)) (hw : ai_wd tb_TY ad tys ws) (ha : ad[c0]? = some a) (h0 : 0 ≤ i.toInt) (hn : i.toInt < n)
    (k : ∀ ws', ai_wd tb_TY ad tys ws' → ai_fr [(c0, i.toInt.toNat, i.toInt.toNat + 1)] ws ws' → vl ws' c0 i.toInt.toNat v.toInt → hG M p l e R s m args below meth c D A cells slots Q (pc + 1) lv rest ws') : hG M p l e R s m args below meth c D A cells slots Q pc lv (.long v :: .int i :: .ref a :: rest) ws := by
  intro H locs ls hP hD hS hl
  obtain ⟨a', e', w1, w2, w3⟩ := hw.get hT
  cases Option.some.inj (ha.symm.trans w2)
  rcases w3 with ⟨z, -⟩ | ⟨z, -⟩ | ⟨-, cA, f, rfl, ⟨t0, ht0⟩⟩ | ⟨z, -⟩
  · exact absurd (id z : (3 : Nat) = 0) (by decide)
  · exact absurd (id z : (3 : Nat) = 1 ∨ (3 : Nat) = 2) (by decide)
  · have hin : vp_in i n := vp_in_iff.mpr ⟨h0, hn⟩
    have ei : i.toNatClampNeg = i.toInt.toNat := by
      have e : (i.toNatClampNeg : Int) = i.toInt := by
        rw [Int32.toNatClampNeg]
        omega
      omega
    have hw' : ai_wd tb_TY ad tys (ws.set c0 (a, .inl (cA, n, .inr (.inl (vp_updL f i.toNatClampNeg v))))) := hw.set hT w1 (Or.inr (Or.inr (Or.inl ⟨rfl, cA, _, rfl, ⟨t0, ht0⟩⟩)))
    refine va_last C.1 C.2.1 C.2.2.2.2.2.2.1 hP hD hS c0 t0 w1 ht0 hin hd (fun H1 locs1 hP1 hD1 hS1 => k _ hw' (fun c' i' x hwr hsl => ai_sl.setL w1 hsl (fun hc hi' => ?_)) ⟨v, ⟨a, _, List.getElem?_set_self (List.getElem?_eq_some_iff.mp w1).1, Or.inr (Or.inr ⟨cA, n, _, rfl, by omega, ?_⟩)⟩, rfl⟩ H1 locs1 ls hP1 hD1 hS1 hl)
    · subst hc
      refine if_neg (fun hh => ?_)
      have : ai_wr [(c', i.toInt.toNat, i.toInt.toNat + 1)] c' i' i' = true := by
        unfold ai_wr
        refine List.any_eq_true.mpr ⟨_, List.mem_singleton.mpr rfl, ?_⟩
        simp only [Bool.and_eq_true, Bool.or_eq_true, decide_eq_true_eq]
        exact ⟨⟨Or.inl trivial, by omega⟩, by omega⟩
      rw [this] at hwr
      cases hwr
    · rw [ei]
      show Value.long v = .long (if i.toInt.toNat = i.toInt.toNat then v else f i.toInt.toNat)
      rw [if_pos rfl]
  · exact absurd (id z : (3 : Nat) = 4) (by decide)
theorem hlmul {pc : Nat} {x y : Int64} {ws : va_W} {sk : List Value} {lv : List (Nat × Value)} (C : ai_cx M d p R s m args c D tys A b L sx cells slots) (hd : decode M.2.1 pc = .ok (.lmul, 1)) (h : -9223372036854775808 ≤ x.toInt * y.toInt ∧ x.toInt * y.toInt ≤ 9223372036854775807) (k : ∀ z : Int64, z.toInt = x.toInt * y.toInt → hG M p l e R s m args below meth c D A cells slots Q (pc + 1) lv (.long z :: sk) ws) : hG M p l e R s m args below meth c D A cells slots Q pc lv (.long y :: .long x :: sk) ws := by
  intro H locs ls hP hD hS hl
  exact lv_lmul C.1 C.2.1 hd (k _ (lmul_i h) H locs ls hP hD hS hl)
theorem hladd {pc : Nat} {x y : Int64} {ws : va_W} {sk : List Value} {lv : List (Nat × Value)} (C : ai_cx M d p R s m args c D tys A b L sx cells slots) (hd : decode M.2.1 pc = .ok (.ladd, 1)) (h : -9223372036854775808 ≤ x.toInt + y.toInt ∧ x.toInt + y.toInt ≤ 9223372036854775807) (k : ∀ z : Int64, z.toInt = x.toInt + y.toInt → hG M p l e R s m args below meth c D A cells slots Q (pc + 1) lv (.long z :: sk) ws) : hG M p l e R s m args below meth c D A cells slots Q pc lv (.long y :: .long x :: sk) ws := by
  intro H locs ls hP hD hS hl
  exact lv_ladd C.1 C.2.1 hd (k _ (ladd_i h) H locs ls hP hD hS hl)
theorem hldiv {pc : Nat} {x y : Int64} {ws : va_W} {sk : List Value} {lv : List (Nat × Value)} (C : ai_cx M d p R s m args c D tys A b L sx cells slots) (hd : decode M.2.1 pc = .ok (.ldiv, 1)) (hy : ¬ y = 0) (k : hG M p l e R s m args below meth c D A cells slots Q (pc + 1) lv (.long (x / y) :: sk) ws) : hG M p l e R s m args below meth c D A cells slots Q pc lv (.long y :: .long x :: sk) ws := by
  intro H locs ls hP hD hS hl
  exact lv_ldiv C.1 C.2.1 hd hy (k H locs ls hP hD hS hl)
theorem hlget {pc c0 a ci i idx : Nat} {F : List ai_f} {w : Int} {ws : va_W} {rest : List Value} {lv : List (Nat × Value)} (C : ai_cx M d p R s m args c D tys A b L sx cells slots) (hd : decode M.2.1 pc = .ok (.getfield idx, 3)) (hf : ai_flok M.1.cls ci i idx) (hT : tb_TY[c0]? = some (0, ci, F)) (hw : ai_wd tb_TY ad tys ws) (ha : ad[c0]? = some a) (hv : vl ws c0 i w)
    (k : ∀ z : Int64, z.toInt = w → hG M p l e R s m args below meth c D A cells slots Q (pc + 3) lv (.long z :: rest) ws) : hG M p l e R s m args below meth c D A cells slots Q pc lv (.ref a :: rest) ws := by
  intro H locs ls hP hD hS hl
  obtain ⟨a', e', w1, w2, w3⟩ := hw.get hT
  cases Option.some.inj (ha.symm.trans w2)
  rcases w3 with ⟨-, fs, rfl, h4, h5⟩ | ⟨z, -⟩ | ⟨z, -⟩ | ⟨z, -⟩
  · obtain ⟨j, ⟨a2, e2, s1, s2⟩, j2⟩ := hv
    rw [w1] at s1
    cases s1
    have hfs : fs[i]? = some (.long j) := by
      rcases s2 with ⟨ci', fs', q, q2⟩ | ⟨_, _, _, q, _⟩ | ⟨_, _, _, q, _⟩
      · cases q
        exact q2
      · cases q
      · cases q
    obtain ⟨C1, T, N, f1, f2, f3, f4⟩ := hf
    exact va_get C.1 C.2.1 C.2.2.2.2.1 f4 C.2.2.2.1 C.2.2.2.2.2.2.1 hP c0 w1 f1 i f2 (C.2.2.2.2.1 _ f3) (fun _ h => h) hfs hd (k j j2 H locs ls hP hD hS hl)
  · exact absurd (id z : (0 : Nat) = 1 ∨ (0 : Nat) = 2) (by decide)
  · exact absurd (id z : (0 : Nat) = 3) (by decide)
  · exact absurd (id z : (0 : Nat) = 4) (by decide)
theorem hlput {pc c0 a ci i idx : Nat} {F : List ai_f} {f0 : ai_f} {ws : va_W} {v : Int64} {rest : List Value} {lv : List (Nat × Value)} (C : ai_cx M d p R s m args c D tys A b L sx cells slots) (hd : decode M.2.1 pc = .ok (.putfield idx, 3)) (hf : ai_fpok M.1.cls ci i idx 2) (hT : tb_TY[c0]? = some (0, ci, F)) (hF : F[i]? = some f0) (hF2 : f0.1 = 2) (hw : ai_wd tb_TY ad tys ws) (ha : ad[c0]? = some a)
    (k : ∀ ws', ai_wd tb_TY ad tys ws' → ai_fr [(c0, i, i + 1)] ws ws' → vl ws' c0 i v.toInt → hG M p l e R s m args below meth c D A cells slots Q (pc + 3) lv rest ws') : hG M p l e R s m args below meth c D A cells slots Q pc lv (.long v :: .ref a :: rest) ws := by
  intro H locs ls hP hD hS hl
  obtain ⟨a', e', w1, w2, w3⟩ := hw.get hT
  cases Option.some.inj (ha.symm.trans w2)
  rcases w3 with ⟨-, fs, rfl, h4, h5⟩ | ⟨z, -⟩ | ⟨z, -⟩ | ⟨z, -⟩
  · have hi : i < fs.length := by
      rw [h4]
      exact (List.getElem?_eq_some_iff.mp hF).1
    have hl0 : c0 < ws.length := (List.getElem?_eq_some_iff.mp w1).1
    have hw' : ai_wd tb_TY ad tys (ws.set c0 (a, .inr (ci, fs.set i (.long v)))) := hw.set hT w1 (Or.inl ⟨rfl, fs.set i (.long v), rfl, by rw [List.length_set]; exact h4, fun k f hk => by
      by_cases hik : i = k
      · subst hik
        have hk : F[i]? = some f := hk
        rw [hF] at hk
        cases hk
        exact ⟨.long v, List.getElem?_set_self hi, Or.inr (Or.inr ⟨hF2, v, rfl⟩)⟩
      · obtain ⟨x, x1, x2⟩ := h5 k f hk
        exact ⟨x, by rw [List.getElem?_set_ne hik]; exact x1, x2⟩⟩)
    obtain ⟨C1, T, N, ty0, f1, f2, f3, f4, f5, f6, f7, f8⟩ := hf
    exact va_put C.1 C.2.1 C.2.2.2.2.1 f4 ty0 f5 f6 C.2.2.2.1 C.2.2.2.2.2.2.1 hP hD hS c0 w1 f1 i f2 (C.2.2.2.2.1 _ f3) (fun _ h => h) f7 f8 rfl rfl hi hd (fun H1 locs1 hP1 hD1 hS1 => k _ hw' (fun c' i' x hwr hsl => ai_sl.setF w1 hsl (fun hc hii => by
      subst hc
      subst hii
      have : ai_wr [(c', i', i' + 1)] c' i' i' = true := by
        unfold ai_wr
        refine List.any_eq_true.mpr ⟨_, List.mem_singleton.mpr rfl, ?_⟩
        simp only [Bool.and_eq_true, Bool.or_eq_true, decide_eq_true_eq]
        exact ⟨⟨Or.inl trivial, by omega⟩, by omega⟩
      rw [this] at hwr
      cases hwr)) ⟨v, ⟨a, _, List.getElem?_set_self hl0, Or.inl ⟨ci, _, rfl, List.getElem?_set_self hi⟩⟩, rfl⟩ H1 locs1 ls hP1 hD1 hS1 hl)
  · exact absurd (id z : (0 : Nat) = 1 ∨ (0 : Nat) = 2) (by decide)
  · exact absurd (id z : (0 : Nat) = 3) (by decide)
  · exact absurd (id z : (0 : Nat) = 4) (by decide)
end HLL
/-! calls that answer a long -/
def hj_Q (P : va_W → Int64 → Prop) (D : va_G) (A : Nat → Prop) : Array Value → State → Outcome → State → Prop := fun _ st oc t => (∃ (ws : va_W) (z : Int64), P ws z ∧ va_P D vwCl ws t.heap ∧ va_D A ws ∧ oc = .returned (some (.long z))) ∧ va_F A st t
section HCJ
variable {ad : List Nat} {M : ai_m} {d : Nat} {p : Program} {l : Launch} {e : Env} {R : Room} {s : State} {m : MethodId} {args : Array Value} {below : List Frame} {meth : Method} {c : Code} {D : va_G} {tys : ai_ty} {A : Nat → Prop} {b L : Nat} {sx : Nat → Int32} {cells slots : Nat} {Q : State → Prop}
theorem hcallJ {q : ai_l5} {M' : ai_m} {pc cl a : Nat} {t : ai_c} {rets : List Nat} {P : va_W → Int64 → Prop} {ws : va_W} {As rest : List Value} {lv : List (Nat × Value)}
    (C : ai_cx M d p R s m args c D tys A b L sx cells slots) (hd1 : 1 ≤ d) (hdec : decode M.2.1 pc = .ok (.invokevirtual q.1, 3)) (hlok : ai_lok tb_MT M.1.cls q) (hq0 : q.2.1 = 0) (hq1 : q.2.2.2.1 = As.length) (hM' : tb_MT[q.2.2.1]? = some M') (hsc : M'.2.2.2.2.1 = false) (hml : M'.2.2.1 ≤ 17) (hm1 : (lg_sl (.ref a :: As)).length ≤ M'.2.2.1) (hv : M'.2.2.2.1 = some .long)
    (ht : tb_TY[cl]? = some t) (t0 : t.1 = 0) (t1 : t.2.1 = q.2.2.2.2) (hw : ai_wd tb_TY ad tys ws) (ha : ad[cl]? = some a) (hrest : (rest.map fun v => v.category).sum ≤ 8)
    (hr : ∀ pcr ∈ rets, decode M'.2.1 pcr = .ok (.lreturn, 1))
    (callee : ∀ {p : Program} {e : Env} {R : Room} {s : State} {m : MethodId} {args : Array Value} {below : List Frame} {meth : Method} {c : Code} {Q : State → Prop}, ai_cx M' (d - 1) p R s m args c D tys A b L sx 0 0 → (∀ (pcr : Nat) (ws' : va_W) (z : Int64) (lv' : List (Nat × Value)), pcr ∈ rets → P ws' z → hG M' p l e R s m args below meth c D A 0 0 Q pcr lv' [.long z] ws') → hG M' p l e R s m args below meth c D A 0 0 Q 0 (lv_args 0 (.ref a :: As)) [] ws)
    (k : ∀ ws' z, P ws' z → hG M p l e R s m args below meth c D A cells slots Q (pc + 3) lv (.long z :: rest) ws') : hG M p l e R s m args below meth c D A cells slots Q pc lv (As.reverse ++ .ref a :: rest) ws := by
  intro H locs ls hP hD hS hl
  obtain ⟨a', e1, w1, w2, w3⟩ := hw.get ht
  cases Option.some.inj (ha.symm.trans w2)
  unfold ai_lok at hlok
  rw [hq0] at hlok
  obtain ⟨M2, rr, m1, m2, m3, m4⟩ := hlok
  rw [hM'] at m1
  cases m1
  obtain ⟨hok, hpl⟩ := (tv_MT M' (List.mem_of_getElem? hM')).1
  have hA : ∀ q, H.size ≤ q → A q := fun q hq => C.2.2.2.2.2.2.2.1 q (Nat.le_trans hS.1 hq)
  have met : Met l M'.1 (ai_ws M') (ai_rm (d - 1)) (va_Pc (.ref a :: As) (fun U => U.heap = H ∧ va_K D vwCl tys U ∧ ai_nj A U)) (hj_Q P D A) 0 0 A := by
    refine Met.ofW (cc := M'.2.1) (maxL := M'.2.2.1) (ret := M'.2.2.2.1) hpl rfl ?_
    intro p e s m args below meth c s₁ B hmL hv'
    obtain ⟨rfl, hH, hK, hN⟩ := hv'
    have hts := atoms_spec (ws := ai_ws M') B.pre
    have hown : s.vm.findClass M'.1.cls = some m.cls := findClass_of_methodNamed B.named
    have C' : ai_cx M' (d - 1) p (headSpec (ai_ws M') (ai_rm (d - 1))).room s m (Value.ref a :: As : List Value).toArray c D tys A b L sx 0 0 :=
      ⟨B.exec, B.bytes, hmL, hown, fun w h => hts w (List.mem_cons_of_mem _ h), hN, hK, fun q hq => hA q (by rw [← hH]; exact hq), ⟨Nat.le_refl _, Nat.le_refl _, Nat.zero_le _, Nat.zero_le _⟩, fun h => by rw [hsc] at h; cases h⟩
    have hl' := lv_entry (Value.ref a :: As) (n := M'.2.2.1) (by exact hm1)
    rw [lg_entry_eq]
    have hh : s.heap = H := hH
    refine callee C' (fun pcr ws' z lv' hpr hPw => ?_) s.heap [] _ (by rw [hh]; exact hP) hD va_S.rf hl'
    intro H2 locs2 ls2 hP2 hD2 hS2 hl2
    exact W.lret C'.1 C'.2.1 (B.returns.trans hv) (fun t ht hW => ⟨⟨ws', z, hPw, by rw [ht]; exact hP2, hD2, rfl⟩, hS2.F ht⟩) hS2.2.2 (hr pcr hpr) B.notSynchronized
  rcases w3 with ⟨-, fs, rfl, -⟩ | ⟨q1, -⟩ | ⟨q1, -⟩ | ⟨q1, -⟩
  · rw [t1] at w1
    refine ai_callW (va_runV (C := rr.1) (As := As) (rest := rest) (Ts := ai_GT) (own := M.1.cls) ⟨C.1, C.2.1, C.2.2.1, C.2.2.2.1, C.2.2.2.2.1⟩ met (cwV q.2.2.2.1 C.2.2.2.2.1 m3 rfl rfl rfl m4 (ai_roomOK C hd1 hml)) ⟨ai_PcB, va_recv C.2.2.2.2.2.2.1 hP m2 w1, ai_PcW C hS⟩ rfl hq1.symm hl.1 rfl (lv_room hrest) hdec ⟨C.2.2.2.2.2.2.2.2.1.2.2.1, C.2.2.2.2.2.2.2.2.1.2.2.2⟩) (fun v0 st₀ t LL h0 hL hQ => ?_)
    obtain ⟨⟨ws', z, p1, p2, p3, p4⟩, hF⟩ := hQ
    injection p4 with p4
    subst p4
    exact k ws' z p1 t.heap (locs ++ LL) ls p2 p3 (ai_SF hS h0 hF hL) hl
  · omega
  · omega
  · omega
theorem hcallSJ {q : ai_l5} {M' : ai_m} {pc : Nat} {rets : List Nat} {P : va_W → Int64 → Prop} {ws : va_W} {As rest : List Value} {lv : List (Nat × Value)}
    (C : ai_cx M d p R s m args c D tys A b L sx cells slots) (hd1 : 1 ≤ d) (hdec : decode M.2.1 pc = .ok (.invokestatic q.1, 3)) (hlok : ai_lok tb_MT M.1.cls q) (hq0 : q.2.1 = 1 ∨ q.2.1 = 2) (hq1 : q.2.2.2.1 = As.length) (hM' : tb_MT[q.2.2.1]? = some M') (hsc : M'.2.2.2.2.1 = false) (hml : M'.2.2.1 ≤ 17) (hm1 : (lg_sl As).length ≤ M'.2.2.1) (hv : M'.2.2.2.1 = some .long) (hrest : (rest.map fun v => v.category).sum ≤ 8)
    (hr : ∀ pcr ∈ rets, decode M'.2.1 pcr = .ok (.lreturn, 1))
    (callee : ∀ {p : Program} {e : Env} {R : Room} {s : State} {m : MethodId} {args : Array Value} {below : List Frame} {meth : Method} {c : Code} {Q : State → Prop}, ai_cx M' (d - 1) p R s m args c D tys A b L sx 0 0 → (∀ (pcr : Nat) (ws' : va_W) (z : Int64) (lv' : List (Nat × Value)), pcr ∈ rets → P ws' z → hG M' p l e R s m args below meth c D A 0 0 Q pcr lv' [.long z] ws') → hG M' p l e R s m args below meth c D A 0 0 Q 0 (lv_args 0 As) [] ws)
    (k : ∀ ws' z, P ws' z → hG M p l e R s m args below meth c D A cells slots Q (pc + 3) lv (.long z :: rest) ws') : hG M p l e R s m args below meth c D A cells slots Q pc lv (As.reverse ++ rest) ws := by
  intro H locs ls hP hD hS hl
  obtain ⟨hok, hpl⟩ := (tv_MT M' (List.mem_of_getElem? hM')).1
  have hA : ∀ q, H.size ≤ q → A q := fun q hq => C.2.2.2.2.2.2.2.1 q (Nat.le_trans hS.1 hq)
  have met : Met l M'.1 (ai_ws M') (ai_rm (d - 1)) (va_Pc As (fun U => U.heap = H ∧ va_K D vwCl tys U ∧ ai_nj A U)) (hj_Q P D A) 0 0 A := by
    refine Met.ofW (cc := M'.2.1) (maxL := M'.2.2.1) (ret := M'.2.2.2.1) hpl rfl ?_
    intro p e s m args below meth c s₁ B hmL hv'
    obtain ⟨rfl, hH, hK, hN⟩ := hv'
    have hts := atoms_spec (ws := ai_ws M') B.pre
    have hown : s.vm.findClass M'.1.cls = some m.cls := findClass_of_methodNamed B.named
    have C' : ai_cx M' (d - 1) p (headSpec (ai_ws M') (ai_rm (d - 1))).room s m As.toArray c D tys A b L sx 0 0 :=
      ⟨B.exec, B.bytes, hmL, hown, fun w h => hts w (List.mem_cons_of_mem _ h), hN, hK, fun q hq => hA q (by rw [← hH]; exact hq), ⟨Nat.le_refl _, Nat.le_refl _, Nat.zero_le _, Nat.zero_le _⟩, fun h => by rw [hsc] at h; cases h⟩
    have hl' := lv_entry As (n := M'.2.2.1) (by exact hm1)
    rw [lg_entry_eq]
    have hh : s.heap = H := hH
    refine callee C' (fun pcr ws' z lv' hpr hPw => ?_) s.heap [] _ (by rw [hh]; exact hP) hD va_S.rf hl'
    intro H2 locs2 ls2 hP2 hD2 hS2 hl2
    exact W.lret C'.1 C'.2.1 (B.returns.trans hv) (fun t ht hW => ⟨⟨ws', z, hPw, by rw [ht]; exact hP2, hD2, rfl⟩, hS2.F ht⟩) hS2.2.2 (hr pcr hpr) B.notSynchronized
  have hrooms := C.2.2.2.2.2.2.2.2.1
  unfold ai_lok at hlok
  rcases hq0 with hk | hk
  · rw [hk] at hlok
    obtain ⟨M2, m1, m3, m4⟩ := hlok
    rw [hM'] at m1
    cases m1
    refine ai_callW (va_runS (As := As) (rest := rest) (Ts := ai_GT) (own := M.1.cls) ⟨C.1, C.2.1, C.2.2.1, C.2.2.2.1, C.2.2.2.2.1⟩ met (va_cwS q.2.2.2.1 C.2.2.2.2.1 m3 rfl rfl rfl m4 (ai_roomOK C hd1 hml)) ⟨ai_PcB, ai_PcW C hS⟩ rfl hq1.symm hl.1 rfl (lv_room hrest) hdec ⟨hrooms.2.2.1, hrooms.2.2.2⟩) (fun v0 st₀ t LL h0 hL hQ => ?_)
    obtain ⟨⟨ws', z, p1, p2, p3, p4⟩, hF⟩ := hQ
    injection p4 with p4
    subst p4
    exact k ws' z p1 t.heap (locs ++ LL) ls p2 p3 (ai_SF hS h0 hF hL) hl
  · rw [hk] at hlok
    obtain ⟨M2, host, m1, m2, m3, m5, m6, m4⟩ := hlok
    rw [hM'] at m1
    cases m1
    refine ai_callW (va_runSN (As := As) (rest := rest) (Ts := ai_GT) (own := M.1.cls) ⟨C.1, C.2.1, C.2.2.1, C.2.2.2.1, C.2.2.2.2.1⟩ met ⟨va_cnB q.2.2.2.1 C.2.2.2.2.1 m3 rfl rfl rfl (C.2.2.2.2.2.1.1 _ m2) (C.2.2.2.2.1 _ m6) m4 (ai_roomOK C hd1 hml), C.2.2.2.2.1 _ m5, trivial⟩ ⟨ai_PcB, ai_PcW C hS⟩ rfl hq1.symm hl.1 rfl (lv_room hrest) hdec ⟨hrooms.2.2.1, hrooms.2.2.2⟩) (fun v0 st₀ t LL h0 hL hQ => ?_)
    obtain ⟨⟨ws', z, p1, p2, p3, p4⟩, hF⟩ := hQ
    injection p4 with p4
    subst p4
    exact k ws' z p1 t.heap (locs ++ LL) ls p2 p3 (ai_SF hS h0 hF hL) hl
end HCJ
/-! lowest terms -/
def ansF (u v : Nat) (w : Int) : Int := if w = 0 then ((u / Nat.gcd u v : Nat) : Int) else ((v / Nat.gcd u v : Nat) : Int)
theorem ansF_k {u v k : Nat} (w : Int) (hk : 0 < k) : ansF (u * k) (v * k) w = ansF u v w := by
  unfold ansF
  rw [Nat.gcd_mul_right, Nat.mul_div_mul_right _ _ hk, Nat.mul_div_mul_right _ _ hk]
theorem lg_rem {x y : Int64} {a b : Nat} (hx : x.toInt = a) (hy : y.toInt = b) (hb : 0 < b) : (x - x / y * y).toInt = ((a % b : Nat) : Int) := by
  have hr := ai_lrg y
  have h3 : a % b < b := Nat.mod_lt _ hb
  have h : (x - x / y * y).toInt = x.toInt.tmod y.toInt := by
    rw [Int64.toInt_sub, Int64.toInt_mul, Int64.toInt_div]
    simp only [Int.sub_bmod_bmod, Int.bmod_mul_bmod]
    have e : x.toInt - x.toInt.tdiv y.toInt * y.toInt = x.toInt.tmod y.toInt := by
      rw [Int.tmod_def, Int.mul_comm]
    rw [e, hx, hy]
    have e2 : (a : Int).tmod (b : Int) = ((a % b : Nat) : Int) := rfl
    rw [e2]
    apply Int.bmod_eq_of_le <;> omega
  rw [h, hx, hy]
  rfl
theorem lg_div {x y : Int64} {a b : Nat} (hx : x.toInt = a) (hy : y.toInt = b) : (x / y).toInt = ((a / b : Nat) : Int) := by
  have hr := ai_lrg x
  have h3 : a / b ≤ a := Nat.div_le_self a b
  rw [Int64.toInt_div, hx, hy, show (a : Int).tdiv (b : Int) = ((a / b : Nat) : Int) from rfl]
  generalize a / b = q at h3 ⊢
  apply Int.bmod_eq_of_le <;> omega
theorem gcd_st {a b g : Nat} (h : Nat.gcd a b = g) : Nat.gcd b (a % b) = g := by
  rw [← h, Nat.gcd_comm a b, Nat.gcd_rec b a, Nat.gcd_comm]
theorem lz {x : Int64} {a : Nat} (h : x.toInt = a) : x = 0 ↔ a = 0 := ⟨fun q => by
    rw [q] at h
    have : (0 : Int64).toInt = 0 := rfl
    omega, fun q => Int64.toInt_inj.mp (by
    rw [h, q]
    rfl)⟩
section LOW2
variable {p : Program} {l : Launch} {e : Env} {R : Room} {s : State} {m : MethodId} {args : Array Value} {below : List Frame} {meth : Method} {c : Code} {H : Heap} {locs : List Loc} {cells slots : Nat} {Q : State → Prop}
theorem lo2_loop (hx : p.tables.exec = Jvm.exec) (hb : c.code = cX6_lowest) (x0 y0 : Int64) (i4 : Int32) {u v : Nat} (hu0 : x0.toInt = u) (hu1 : y0.toInt = v) (hv : 0 < v) (hk : ∀ (q : Int64) (ls : Array Slot), lv_has ls 11 [] → q.toInt = ansF u v i4.toInt → W p l e R s m args below meth c H locs cells slots Q (F0 m 44 ls [.long q])) :
    ∀ (n : Nat) (a b : Int64) (an bn : Nat) (ls : Array Slot), bn ≤ n → a.toInt = an → b.toInt = bn → Nat.gcd an bn = Nat.gcd u v → lv_has ls 11 [(7, .long b), (5, .long a), (0, .long x0), (2, .long y0), (4, .int i4)] → W p l e R s m args below meth c H locs cells slots Q (F0 m 6 ls []) := by
  have hg : 0 < Nat.gcd u v := Nat.gcd_pos_of_pos_right _ hv
  intro n
  induction n with
  | zero =>
    intro a b an bn ls hn ea eb hG hl
    have hbn : bn = 0 := by omega
    subst hbn
    rw [Nat.gcd_zero_right] at hG
    have hb0 : b = 0 := (lz eb).mpr rfl
    have ha0 : ¬ a = 0 := fun q => by
      have := (lz ea).mp q
      omega
    refine lv_lload hx hb (by decide +kernel : decode cX6_lowest 6 = .ok (.lload 7, 2)) (lv_at hl 0 rfl) ?_
    refine lv_lconst hx hb (by decide +kernel : decode cX6_lowest 8 = .ok (.lconst 0, 1)) (v := 0) rfl ?_
    refine W.lcmp hx hb (by decide +kernel : decode cX6_lowest 9 = .ok (.lcmp, 1)) ?_
    refine lv_if_eq hx hb (by decide +kernel : decode cX6_lowest 10 = .ok (.ifCond .eq 21, 3)) (tgt := 31) (by decide) (fun h0 => ?_) (fun h0 => absurd (lo_cmp0.mpr hb0) h0)
    refine lv_iload hx hb (by decide +kernel : decode cX6_lowest 31 = .ok (.iload 4, 2)) (lv_at hl 4 rfl) ?_
    refine lv_if_ne hx hb (by decide +kernel : decode cX6_lowest 33 = .ok (.ifCond .ne 7, 3)) (tgt := 40) (by decide) (fun h9 => ?_) (fun h9 => ?_)
    · refine lv_lload_n hx hb (by decide +kernel : decode cX6_lowest 40 = .ok (.lload_n 2, 1)) (i := 2) rfl (lv_at hl 3 rfl) ?_
      refine lv_lload hx hb (by decide +kernel : decode cX6_lowest 41 = .ok (.lload 5, 2)) (lv_at hl 1 rfl) ?_
      refine lv_ldiv hx hb (by decide +kernel : decode cX6_lowest 43 = .ok (.ldiv, 1)) ha0 (hk _ ls (lv_sub hl [] rfl) ?_)
      rw [lg_div hu1 ea, hG]
      unfold ansF
      rw [if_neg (fun q => h9 (Int32.toInt_inj.mp (by rw [q]; rfl)))]
    · refine lv_lload_n hx hb (by decide +kernel : decode cX6_lowest 36 = .ok (.lload_n 0, 1)) (i := 0) rfl (lv_at hl 2 rfl) ?_
      refine lv_goto hx hb (by decide +kernel : decode cX6_lowest 37 = .ok (.goto 4, 3)) (tgt := 41) (by decide) ?_
      refine lv_lload hx hb (by decide +kernel : decode cX6_lowest 41 = .ok (.lload 5, 2)) (lv_at hl 1 rfl) ?_
      refine lv_ldiv hx hb (by decide +kernel : decode cX6_lowest 43 = .ok (.ldiv, 1)) ha0 (hk _ ls (lv_sub hl [] rfl) ?_)
      rw [lg_div hu0 ea, hG, h9]
      unfold ansF
      rw [if_pos (by decide)]
  | succ n ih =>
    intro a b an bn ls hn ea eb hG hl
    by_cases hbn : bn = 0
    · subst hbn
      rw [Nat.gcd_zero_right] at hG
      have hb0 : b = 0 := (lz eb).mpr rfl
      have ha0 : ¬ a = 0 := fun q => by
        have := (lz ea).mp q
        omega
      refine lv_lload hx hb (by decide +kernel : decode cX6_lowest 6 = .ok (.lload 7, 2)) (lv_at hl 0 rfl) ?_
      refine lv_lconst hx hb (by decide +kernel : decode cX6_lowest 8 = .ok (.lconst 0, 1)) (v := 0) rfl ?_
      refine W.lcmp hx hb (by decide +kernel : decode cX6_lowest 9 = .ok (.lcmp, 1)) ?_
      refine lv_if_eq hx hb (by decide +kernel : decode cX6_lowest 10 = .ok (.ifCond .eq 21, 3)) (tgt := 31) (by decide) (fun h0 => ?_) (fun h0 => absurd (lo_cmp0.mpr hb0) h0)
      refine lv_iload hx hb (by decide +kernel : decode cX6_lowest 31 = .ok (.iload 4, 2)) (lv_at hl 4 rfl) ?_
      refine lv_if_ne hx hb (by decide +kernel : decode cX6_lowest 33 = .ok (.ifCond .ne 7, 3)) (tgt := 40) (by decide) (fun h9 => ?_) (fun h9 => ?_)
      · refine lv_lload_n hx hb (by decide +kernel : decode cX6_lowest 40 = .ok (.lload_n 2, 1)) (i := 2) rfl (lv_at hl 3 rfl) ?_
        refine lv_lload hx hb (by decide +kernel : decode cX6_lowest 41 = .ok (.lload 5, 2)) (lv_at hl 1 rfl) ?_
        refine lv_ldiv hx hb (by decide +kernel : decode cX6_lowest 43 = .ok (.ldiv, 1)) ha0 (hk _ ls (lv_sub hl [] rfl) ?_)
        rw [lg_div hu1 ea, hG]
        unfold ansF
        rw [if_neg (fun q => h9 (Int32.toInt_inj.mp (by rw [q]; rfl)))]
      · refine lv_lload_n hx hb (by decide +kernel : decode cX6_lowest 36 = .ok (.lload_n 0, 1)) (i := 0) rfl (lv_at hl 2 rfl) ?_
        refine lv_goto hx hb (by decide +kernel : decode cX6_lowest 37 = .ok (.goto 4, 3)) (tgt := 41) (by decide) ?_
        refine lv_lload hx hb (by decide +kernel : decode cX6_lowest 41 = .ok (.lload 5, 2)) (lv_at hl 1 rfl) ?_
        refine lv_ldiv hx hb (by decide +kernel : decode cX6_lowest 43 = .ok (.ldiv, 1)) ha0 (hk _ ls (lv_sub hl [] rfl) ?_)
        rw [lg_div hu0 ea, hG, h9]
        unfold ansF
        rw [if_pos (by decide)]
    · have hb0 : ¬ b = 0 := fun q => hbn ((lz eb).mp q)
      refine lv_lload hx hb (by decide +kernel : decode cX6_lowest 6 = .ok (.lload 7, 2)) (lv_at hl 0 rfl) ?_
      refine lv_lconst hx hb (by decide +kernel : decode cX6_lowest 8 = .ok (.lconst 0, 1)) (v := 0) rfl ?_
      refine W.lcmp hx hb (by decide +kernel : decode cX6_lowest 9 = .ok (.lcmp, 1)) ?_
      refine lv_if_eq hx hb (by decide +kernel : decode cX6_lowest 10 = .ok (.ifCond .eq 21, 3)) (tgt := 31) (by decide) (fun h0 => absurd (lo_cmp0.mp h0) hb0) (fun h0 => ?_)
      refine lv_lload hx hb (by decide +kernel : decode cX6_lowest 13 = .ok (.lload 5, 2)) (lv_at hl 1 rfl) ?_
      refine lv_lload hx hb (by decide +kernel : decode cX6_lowest 15 = .ok (.lload 7, 2)) (lv_at hl 0 rfl) ?_
      refine lv_lrem hx hb (by decide +kernel : decode cX6_lowest 17 = .ok (.lrem, 1)) hb0 ?_
      refine lv_lstore hx hb (by decide +kernel : decode cX6_lowest 18 = .ok (.lstore 9, 2)) hl (by decide) (lv' := [(9, .long (a - a / b * b)), (7, .long b), (5, .long a), (0, .long x0), (2, .long y0), (4, .int i4)]) rfl (fun ls1 hl1 => ?_)
      refine lv_lload hx hb (by decide +kernel : decode cX6_lowest 20 = .ok (.lload 7, 2)) (lv_at hl1 1 rfl) ?_
      refine lv_lstore hx hb (by decide +kernel : decode cX6_lowest 22 = .ok (.lstore 5, 2)) hl1 (by decide) (lv' := [(5, .long b), (9, .long (a - a / b * b)), (7, .long b), (0, .long x0), (2, .long y0), (4, .int i4)]) rfl (fun ls2 hl2 => ?_)
      refine lv_lload hx hb (by decide +kernel : decode cX6_lowest 24 = .ok (.lload 9, 2)) (lv_at hl2 1 rfl) ?_
      refine lv_lstore hx hb (by decide +kernel : decode cX6_lowest 26 = .ok (.lstore 7, 2)) hl2 (by decide) (lv' := [(7, .long (a - a / b * b)), (5, .long b), (9, .long (a - a / b * b)), (0, .long x0), (2, .long y0), (4, .int i4)]) rfl (fun ls3 hl3 => ?_)
      refine lv_goto hx hb (by decide +kernel : decode cX6_lowest 28 = .ok (.goto (-22), 3)) (tgt := 6) (by decide) ?_
      have hm := lg_rem ea eb (by omega)
      have hlt : an % bn < bn := Nat.mod_lt _ (by omega)
      exact ih b (a - a / b * b) bn (an % bn) ls3 (by omega) eb hm (gcd_st hG) (lv_sub hl3 [0, 1, 3, 4, 5] rfl)
/-- steps that are wanted: the product halves -/
theorem gcd_half {a b : Nat} (h : b < a) (hb : 0 < b) : 2 * (b * (a % b)) ≤ a * b := by
  have h1 : a % b < b := Nat.mod_lt _ hb
  have h2 : b * (a / b) + a % b = a := Nat.div_add_mod a b
  have h3 : 1 ≤ a / b := (Nat.le_div_iff_mul_le hb).mpr (by omega)
  have h4 : b * 1 ≤ b * (a / b) := Nat.mul_le_mul_left b h3
  have h5 : 2 * (a % b) ≤ a := by omega
  have h6 : b * (2 * (a % b)) ≤ b * a := Nat.mul_le_mul_left b h5
  rw [Nat.mul_comm a b, ← Nat.mul_assoc, Nat.mul_comm 2 b, Nat.mul_assoc]
  exact h6
theorem cd_le {i : Int32} : (200 : Int32) ≤ i ↔ 200 ≤ i.toInt := ⟨fun h => Int32.le_iff_toInt_le.mp h, fun h => Int32.le_iff_toInt_le.mpr h⟩
theorem gc_loop (hx : p.tables.exec = Jvm.exec) (hb : c.code = cX1_commonDivisor) {g : Nat} (hk : ∀ (q : Int64) (ls : Array Slot), lv_has ls 11 [] → q.toInt = g → W p l e R s m args below meth c H locs cells slots Q (F0 m 47 ls [.long q])) :
    ∀ (n : Nat) (a b : Int64) (an bn : Nat) (i : Int32) (ls : Array Slot), i.toInt + n = 200 → 0 ≤ i.toInt → a.toInt = an → b.toInt = bn → Nat.gcd an bn = g → bn < an → an * bn < 2 ^ n → lv_has ls 11 [(8, .int i), (6, .long b), (4, .long a)] → W p l e R s m args below meth c H locs cells slots Q (F0 m 9 ls []) := by
  intro n
  induction n with
  | zero =>
    intro a b an bn i ls hn hi ea eb hG hab hpw hl
    have hbn : bn = 0 := by
      rcases Nat.eq_zero_or_pos bn with h | h
      · exact h
      · have : 1 * 1 ≤ an * bn := Nat.mul_le_mul (by omega) h
        omega
    subst hbn
    rw [Nat.gcd_zero_right] at hG
    have hb0 : b = 0 := (lz eb).mpr rfl
    refine lv_iload hx hb (by decide +kernel : decode cX1_commonDivisor 9 = .ok (.iload 8, 2)) (lv_at hl 0 rfl) ?_
    refine lv_sipush hx hb (by decide +kernel : decode cX1_commonDivisor 11 = .ok (.sipush 200, 3)) (v := 200) rfl ?_
    refine lv_icmp_ge hx hb (by decide +kernel : decode cX1_commonDivisor 14 = .ok (.if_icmp .ge 31, 3)) (tgt := 45) (by decide) (fun h9 => ?_) (fun h9 => absurd (cd_le.mpr (by omega)) h9)
    exact lv_lload hx hb (by decide +kernel : decode cX1_commonDivisor 45 = .ok (.lload 4, 2)) (lv_at hl 2 rfl) (hk _ ls (lv_sub hl [] rfl) (by rw [ea, hG]))
  | succ n ih =>
    intro a b an bn i ls hn hi ea eb hG hab hpw hl
    refine lv_iload hx hb (by decide +kernel : decode cX1_commonDivisor 9 = .ok (.iload 8, 2)) (lv_at hl 0 rfl) ?_
    refine lv_sipush hx hb (by decide +kernel : decode cX1_commonDivisor 11 = .ok (.sipush 200, 3)) (v := 200) rfl ?_
    refine lv_icmp_ge hx hb (by decide +kernel : decode cX1_commonDivisor 14 = .ok (.if_icmp .ge 31, 3)) (tgt := 45) (by decide) (fun h9 => ?_) (fun h9 => ?_)
    · have := cd_le.mp h9
      omega
    refine lv_lload hx hb (by decide +kernel : decode cX1_commonDivisor 17 = .ok (.lload 6, 2)) (lv_at hl 1 rfl) ?_
    refine lv_lconst hx hb (by decide +kernel : decode cX1_commonDivisor 19 = .ok (.lconst 0, 1)) (v := 0) rfl ?_
    refine W.lcmp hx hb (by decide +kernel : decode cX1_commonDivisor 20 = .ok (.lcmp, 1)) ?_
    refine lv_if_eq hx hb (by decide +kernel : decode cX1_commonDivisor 21 = .ok (.ifCond .eq 24, 3)) (tgt := 45) (by decide) (fun h0 => ?_) (fun h0 => ?_)
    · have hbn := (lz eb).mp (lo_cmp0.mp h0)
      subst hbn
      rw [Nat.gcd_zero_right] at hG
      exact lv_lload hx hb (by decide +kernel : decode cX1_commonDivisor 45 = .ok (.lload 4, 2)) (lv_at hl 2 rfl) (hk _ ls (lv_sub hl [] rfl) (by rw [ea, hG]))
    · have hb0 : ¬ b = 0 := fun q => h0 (lo_cmp0.mpr q)
      have hbn : 0 < bn := Nat.pos_of_ne_zero (fun q => hb0 ((lz eb).mpr q))
      refine lv_lload hx hb (by decide +kernel : decode cX1_commonDivisor 24 = .ok (.lload 4, 2)) (lv_at hl 2 rfl) ?_
      refine lv_lload hx hb (by decide +kernel : decode cX1_commonDivisor 26 = .ok (.lload 6, 2)) (lv_at hl 1 rfl) ?_
      refine lv_lrem hx hb (by decide +kernel : decode cX1_commonDivisor 28 = .ok (.lrem, 1)) hb0 ?_
      refine lv_lstore hx hb (by decide +kernel : decode cX1_commonDivisor 29 = .ok (.lstore 9, 2)) hl (by decide) (lv' := [(9, .long (a - a / b * b)), (8, .int i), (6, .long b), (4, .long a)]) rfl (fun ls1 hl1 => ?_)
      refine lv_lload hx hb (by decide +kernel : decode cX1_commonDivisor 31 = .ok (.lload 6, 2)) (lv_at hl1 2 rfl) ?_
      refine lv_lstore hx hb (by decide +kernel : decode cX1_commonDivisor 33 = .ok (.lstore 4, 2)) hl1 (by decide) (lv' := [(4, .long b), (9, .long (a - a / b * b)), (8, .int i), (6, .long b)]) rfl (fun ls2 hl2 => ?_)
      refine lv_lload hx hb (by decide +kernel : decode cX1_commonDivisor 35 = .ok (.lload 9, 2)) (lv_at hl2 1 rfl) ?_
      refine lv_lstore hx hb (by decide +kernel : decode cX1_commonDivisor 37 = .ok (.lstore 6, 2)) hl2 (by decide) (lv' := [(6, .long (a - a / b * b)), (4, .long b), (9, .long (a - a / b * b)), (8, .int i)]) rfl (fun ls3 hl3 => ?_)
      have e1 : (1 : Int32).toInt = 1 := rfl
      have ei : (i + 1).toInt = i.toInt + 1 := by
        rw [Int32.toInt_add, e1]
        apply Int.bmod_eq_of_le <;> omega
      refine lv_iinc hx hb (by decide +kernel : decode cX1_commonDivisor 39 = .ok (.iinc 8 1, 3)) hl3 (k := 3) rfl (v := i + 1) rfl (by decide) (lv' := [(8, .int (i + 1)), (6, .long (a - a / b * b)), (4, .long b), (9, .long (a - a / b * b))]) rfl (fun ls4 hl4 => ?_)
      refine lv_goto hx hb (by decide +kernel : decode cX1_commonDivisor 42 = .ok (.goto (-33), 3)) (tgt := 9) (by decide) ?_
      have hm := lg_rem ea eb hbn
      have hlt : an % bn < bn := Nat.mod_lt _ hbn
      have hh := gcd_half hab hbn
      exact ih b (a - a / b * b) bn (an % bn) (i + 1) ls4 (by omega) (by omega) eb hm (gcd_st hG) hlt (by rw [Nat.pow_succ] at hpw; omega) (lv_sub hl4 [0, 1, 2] rfl)
/-- the whole of it: whatever the first two are -/
theorem cd_walk (hx : p.tables.exec = Jvm.exec) (hb : c.code = cX1_commonDivisor) {x0 y0 : Int64} {u v : Nat} (hu0 : x0.toInt = u) (hu1 : y0.toInt = v) (hv : 0 < v) (hvb : v ≤ 100000000) (hk : ∀ (q : Int64) (ls : Array Slot), lv_has ls 11 [] → q.toInt = ((Nat.gcd u v : Nat) : Int) → W p l e R s m args below meth c H locs cells slots Q (F0 m 47 ls [.long q])) {ls : Array Slot} (hl : lv_has ls 11 [(0, .long x0), (2, .long y0)]) : W p l e R s m args below meth c H locs cells slots Q (F0 m 0 ls []) := by
  have hy0 : ¬ y0 = 0 := fun q => by
    have := (lz hu1).mp q
    omega
  refine lv_lload_n hx hb (by decide +kernel : decode cX1_commonDivisor 0 = .ok (.lload_n 0, 1)) (i := 0) rfl (lv_at hl 0 rfl) ?_
  refine lv_lstore hx hb (by decide +kernel : decode cX1_commonDivisor 1 = .ok (.lstore 4, 2)) hl (by decide) (lv' := [(4, .long x0), (0, .long x0), (2, .long y0)]) rfl (fun ls1 hl1 => ?_)
  refine lv_lload_n hx hb (by decide +kernel : decode cX1_commonDivisor 3 = .ok (.lload_n 2, 1)) (i := 2) rfl (lv_at hl1 2 rfl) ?_
  refine lv_lstore hx hb (by decide +kernel : decode cX1_commonDivisor 4 = .ok (.lstore 6, 2)) hl1 (by decide) (lv' := [(6, .long y0), (4, .long x0), (0, .long x0), (2, .long y0)]) rfl (fun ls2 hl2 => ?_)
  refine lv_iconst hx hb (by decide +kernel : decode cX1_commonDivisor 6 = .ok (.iconst 0, 1)) (v := 0) rfl ?_
  refine lv_istore hx hb (by decide +kernel : decode cX1_commonDivisor 7 = .ok (.istore 8, 2)) hl2 (by decide) (lv' := [(8, .int 0), (6, .long y0), (4, .long x0), (0, .long x0), (2, .long y0)]) rfl (fun ls3 hl3 => ?_)
  -- the first step
  refine lv_iload hx hb (by decide +kernel : decode cX1_commonDivisor 9 = .ok (.iload 8, 2)) (lv_at hl3 0 rfl) ?_
  refine lv_sipush hx hb (by decide +kernel : decode cX1_commonDivisor 11 = .ok (.sipush 200, 3)) (v := 200) rfl ?_
  refine lv_icmp_ge hx hb (by decide +kernel : decode cX1_commonDivisor 14 = .ok (.if_icmp .ge 31, 3)) (tgt := 45) (by decide) (fun h9 => ?_) (fun h9 => ?_)
  · exact absurd (cd_le.mp h9) (by decide)
  refine lv_lload hx hb (by decide +kernel : decode cX1_commonDivisor 17 = .ok (.lload 6, 2)) (lv_at hl3 1 rfl) ?_
  refine lv_lconst hx hb (by decide +kernel : decode cX1_commonDivisor 19 = .ok (.lconst 0, 1)) (v := 0) rfl ?_
  refine W.lcmp hx hb (by decide +kernel : decode cX1_commonDivisor 20 = .ok (.lcmp, 1)) ?_
  refine lv_if_eq hx hb (by decide +kernel : decode cX1_commonDivisor 21 = .ok (.ifCond .eq 24, 3)) (tgt := 45) (by decide) (fun h0 => absurd (lo_cmp0.mp h0) hy0) (fun h0 => ?_)
  refine lv_lload hx hb (by decide +kernel : decode cX1_commonDivisor 24 = .ok (.lload 4, 2)) (lv_at hl3 2 rfl) ?_
  refine lv_lload hx hb (by decide +kernel : decode cX1_commonDivisor 26 = .ok (.lload 6, 2)) (lv_at hl3 1 rfl) ?_
  refine lv_lrem hx hb (by decide +kernel : decode cX1_commonDivisor 28 = .ok (.lrem, 1)) hy0 ?_
  refine lv_lstore hx hb (by decide +kernel : decode cX1_commonDivisor 29 = .ok (.lstore 9, 2)) hl3 (by decide) (lv' := [(9, .long (x0 - x0 / y0 * y0)), (8, .int 0), (6, .long y0), (4, .long x0), (0, .long x0), (2, .long y0)]) rfl (fun ls4 hl4 => ?_)
  refine lv_lload hx hb (by decide +kernel : decode cX1_commonDivisor 31 = .ok (.lload 6, 2)) (lv_at hl4 2 rfl) ?_
  refine lv_lstore hx hb (by decide +kernel : decode cX1_commonDivisor 33 = .ok (.lstore 4, 2)) hl4 (by decide) (lv' := [(4, .long y0), (9, .long (x0 - x0 / y0 * y0)), (8, .int 0), (6, .long y0), (0, .long x0), (2, .long y0)]) rfl (fun ls5 hl5 => ?_)
  refine lv_lload hx hb (by decide +kernel : decode cX1_commonDivisor 35 = .ok (.lload 9, 2)) (lv_at hl5 1 rfl) ?_
  refine lv_lstore hx hb (by decide +kernel : decode cX1_commonDivisor 37 = .ok (.lstore 6, 2)) hl5 (by decide) (lv' := [(6, .long (x0 - x0 / y0 * y0)), (4, .long y0), (9, .long (x0 - x0 / y0 * y0)), (8, .int 0), (0, .long x0), (2, .long y0)]) rfl (fun ls6 hl6 => ?_)
  refine lv_iinc hx hb (by decide +kernel : decode cX1_commonDivisor 39 = .ok (.iinc 8 1, 3)) hl6 (k := 3) rfl (v := 1) rfl (by decide) (lv' := [(8, .int 1), (6, .long (x0 - x0 / y0 * y0)), (4, .long y0), (9, .long (x0 - x0 / y0 * y0)), (0, .long x0), (2, .long y0)]) rfl (fun ls7 hl7 => ?_)
  refine lv_goto hx hb (by decide +kernel : decode cX1_commonDivisor 42 = .ok (.goto (-33), 3)) (tgt := 9) (by decide) ?_
  have hm := lg_rem hu0 hu1 hv
  have hlt : u % v < v := Nat.mod_lt _ hv
  have hpp : v * (u % v) ≤ 100000000 * 100000000 := Nat.mul_le_mul hvb (by omega)
  exact gc_loop hx hb hk 199 y0 (x0 - x0 / y0 * y0) v (u % v) 1 ls7 rfl (by decide) hu1 hm (gcd_st rfl) hlt (Nat.lt_of_le_of_lt hpp (by decide)) (lv_sub hl7 [0, 1, 2] rfl)
end LOW2
section LCT
variable {ad : List Nat} {M : ai_m} {d : Nat} {p : Program} {l : Launch} {e : Env} {R : Room} {s : State} {m : MethodId} {args : Array Value} {below : List Frame} {meth : Method} {c : Code} {D : va_G} {tys : ai_ty} {A : Nat → Prop} {b L : Nat} {sx : Nat → Int32} {cells slots : Nat} {Q : State → Prop}
theorem lo2_all {x0 y0 : Int64} {i4 : Int32} {u v : Nat} {ws : va_W} (C : ai_cx tb_m150 d p R s m args c D tys A b L sx cells slots) (hu0 : x0.toInt = u) (hu1 : y0.toInt = v) (hv : 0 < v)
    (kk : ∀ (z : Int64) (lv' : List (Nat × Value)), z.toInt = ansF u v i4.toInt → hG tb_m150 p l e R s m args below meth c D A cells slots Q 44 lv' [.long z] ws) : hG tb_m150 p l e R s m args below meth c D A cells slots Q 0 [(0, .long x0), (2, .long y0), (4, .int i4)] [] ws := by
  intro H locs ls hP hD hS hl
  have hx := C.1
  have hb : c.code = cX6_lowest := C.2.1
  refine lv_lload_n hx hb (by decide +kernel : decode cX6_lowest 0 = .ok (.lload_n 0, 1)) (i := 0) rfl (lv_at hl 0 rfl) ?_
  refine lv_lstore hx hb (by decide +kernel : decode cX6_lowest 1 = .ok (.lstore 5, 2)) hl (by decide) (lv' := [(5, .long x0), (0, .long x0), (2, .long y0), (4, .int i4)]) rfl (fun ls1 hl1 => ?_)
  refine lv_lload_n hx hb (by decide +kernel : decode cX6_lowest 3 = .ok (.lload_n 2, 1)) (i := 2) rfl (lv_at hl1 2 rfl) ?_
  refine lv_lstore hx hb (by decide +kernel : decode cX6_lowest 4 = .ok (.lstore 7, 2)) hl1 (by decide) (lv' := [(7, .long y0), (5, .long x0), (0, .long x0), (2, .long y0), (4, .int i4)]) rfl (fun ls2 hl2 => ?_)
  exact lo2_loop hx hb x0 y0 i4 hu0 hu1 hv (fun q ls' hl' hq => kk q [] hq H locs ls' hP hD hS hl') v x0 y0 u v ls2 (Nat.le_refl _) hu0 hu1 rfl hl2
theorem gc_all {x0 y0 : Int64} {u v : Nat} {ws : va_W} (C : ai_cx tb_m23 d p R s m args c D tys A b L sx cells slots) (hu0 : x0.toInt = u) (hu1 : y0.toInt = v) (hv : 0 < v) (hvb : v ≤ 100000000)
    (kk : ∀ (z : Int64) (lv' : List (Nat × Value)), z.toInt = ((Nat.gcd u v : Nat) : Int) → hG tb_m23 p l e R s m args below meth c D A cells slots Q 47 lv' [.long z] ws) : hG tb_m23 p l e R s m args below meth c D A cells slots Q 0 [(0, .long x0), (2, .long y0)] [] ws := by
  intro H locs ls hP hD hS hl
  exact cd_walk C.1 C.2.1 hu0 hu1 hv hvb (fun q ls' hl' hq => kk q [] hq H locs ls' hP hD hS hl') hl
end LCT
/-! a case of the law that answers longs -/
def lw_e9J : List ai_e := [(0, 0, false, 0, 0), (0, 2555, false, 1, 0), (0, 0, false, 2, 0), (-2147483648, 2147483647, false, 3, 0), (-2147483648, 2147483647, false, 4, 0), (-2147483648, 2147483647, false, 5, 0), (-2147483648, 2147483647, false, 6, 0), (-2147483648, 2147483647, false, 7, 0), (-9223372036854775808, 9223372036854775807, false, 8, 0)]
noncomputable def lw_BJ (i1 i2 n : Nat) (cmp : Bool) : Bool := (ai_ex (hk []) 80 169 tb_m169 11 [i2] (i1 + 3, lw_lo, [(2, 8, 0, 0)], lw_e9J, [], [])).any fun xs => xs.all fun x => lw_is x i2 (lw_ar n ++ (0, 49, 0, 0) :: if cmp = true then [(2, 8, 0, 0)] else []) lw_e9J
noncomputable def lw_CJ (i2 : Nat) (cmp : Bool) : Bool := (ai_ex (hk []) 80 169 tb_m169 11 [1298] (i2 + 3, lw_lo, (2, 8, 0, 0) :: (if cmp = true then [(2, 8, 0, 0)] else []), lw_e9J, [], [])).any fun xs => xs.all fun x => lw_is x 1298 [] lw_e9J
section LWJ
variable {ad : List Nat} {p : Program} {l : Launch} {e : Env} {R : Room} {s : State} {m : MethodId} {args : Array Value} {below : List Frame} {meth : Method} {c : Code} {D : va_G} {tys : ai_ty} {A : Nat → Prop} {b L : Nat} {sx : Nat → Int32} {cells slots : Nat} {Q : State → Prop}
theorem law2J {pc i1 i2 n i q0 q49 : Nat} {cmp : Bool} {q1 q2 : ai_l5} {M1 M2 : ai_m} {rets1 rets2 : List Nat} {P1 : va_W → Int64 → Prop} {P2 : va_W → Int64 → va_W → Int64 → Prop} {ws : va_W} (C : ai_cx tb_m169 11 p R s m args c D tys A b L sx cells slots) (e0 : ad[0]? = some q0) (e49 : ad[49]? = some q49) (hi : i + 5 ≤ L) (hL : L ≤ 2560) (hw : ai_wd tb_TY ad tys ws) (hn : n ≤ 4)
    (hA : lw_A pc i1 n = true) (hB : lw_BJ i1 i2 n cmp = true) (hC : lw_CJ i2 cmp = true)
    (d1 : decode tb_m169.2.1 i1 = .ok (.invokevirtual q1.1, 3)) (l1 : ai_lok tb_MT tb_m169.1.cls q1) (q10 : q1.2.1 = 0) (q1n : q1.2.2.2.1 = n) (m1 : tb_MT[q1.2.2.1]? = some M1) (s1 : M1.2.2.2.2.1 = false) (ml1 : M1.2.2.1 ≤ 17) (mw1 : (lg_sl (.ref q0 :: lw_As sx i n)).length ≤ M1.2.2.1) (mr1 : M1.2.2.2.1 = some .long) (t1 : q1.2.2.2.2 = 5)
    (d2 : decode tb_m169.2.1 i2 = .ok (.invokevirtual q2.1, 3)) (l2 : ai_lok tb_MT tb_m169.1.cls q2) (q20 : q2.2.1 = 0) (q2n : q2.2.2.2.1 = n) (m2 : tb_MT[q2.2.2.1]? = some M2) (s2 : M2.2.2.2.2.1 = false) (ml2 : M2.2.2.1 ≤ 17) (mw2 : (lg_sl (.ref q49 :: lw_As sx i n)).length ≤ M2.2.2.1) (mr2 : M2.2.2.2.1 = some .long) (t2 : q2.2.2.2.2 = 6)
    (r1 : ∀ pcr ∈ rets1, decode M1.2.1 pcr = .ok (.lreturn, 1)) (r2 : ∀ pcr ∈ rets2, decode M2.2.1 pcr = .ok (.lreturn, 1))
    (c1 : ∀ {p : Program} {e : Env} {R : Room} {s : State} {m : MethodId} {args : Array Value} {below : List Frame} {meth : Method} {c : Code} {Q : State → Prop} (w : va_W), ai_wd tb_TY ad tys w → ai_fr [] ws w → ai_cx M1 10 p R s m args c D tys A b L sx 0 0 → (∀ (pcr : Nat) (ws' : va_W) (z : Int64) (lv' : List (Nat × Value)), pcr ∈ rets1 → P1 ws' z → hG M1 p l e R s m args below meth c D A 0 0 Q pcr lv' [.long z] ws') → hG M1 p l e R s m args below meth c D A 0 0 Q 0 (lv_args 0 (.ref q0 :: lw_As sx i n)) [] w)
    (w1 : ∀ wa z1, P1 wa z1 → ai_wd tb_TY ad tys wa)
    (c2 : ∀ {p : Program} {e : Env} {R : Room} {s : State} {m : MethodId} {args : Array Value} {below : List Frame} {meth : Method} {c : Code} {Q : State → Prop} (wa : va_W) (z1 : Int64) (w : va_W), P1 wa z1 → ai_wd tb_TY ad tys w → ai_fr [] wa w → ai_cx M2 10 p R s m args c D tys A b L sx 0 0 → (∀ (pcr : Nat) (ws' : va_W) (z : Int64) (lv' : List (Nat × Value)), pcr ∈ rets2 → P2 wa z1 ws' z → hG M2 p l e R s m args below meth c D A 0 0 Q pcr lv' [.long z] ws') → hG M2 p l e R s m args below meth c D A 0 0 Q 0 (lv_args 0 (.ref q49 :: lw_As sx i n)) [] w)
    (w2 : ∀ wa z1 wb z2, P1 wa z1 → P2 wa z1 wb z2 → ai_wd tb_TY ad tys wb ∧ (cmp = true → z1 = z2))
    (k : ∀ wa z1 wb z2 wc, P1 wa z1 → P2 wa z1 wb z2 → ai_wd tb_TY ad tys wc → ai_fr [] wb wc → hG tb_m169 p l e R s m args below meth c D A cells slots Q 1298 [(0, .ref b), (1, .ref q0), (2, .ref q49), (3, .int (nI i))] [] wc) :
    hG tb_m169 p l e R s m args below meth c D A cells slots Q pc [(0, .ref b), (1, .ref q0), (2, .ref q49), (3, .int (nI i))] [] ws := by
  have bx : ∀ o, -2147483648 ≤ (sx o).toInt ∧ (sx o).toInt ≤ 2147483647 := fun o => ai_irg (sx o)
  have b0 := bx i
  have b1 := bx (i + 1)
  have b2 := bx (i + 2)
  have b3 := bx (i + 3)
  have b4 := bx (i + 4)
  have ok8 : ai_ok (lw_r sx i ++ []) lw_en := en_mk (by simp only [lw_r, lw_en, List.append_nil, en_b, and_true]; omega) rfl
  have ok9 : ∀ z : Int64, ai_ok (lw_r sx i ++ [z.toInt]) lw_e9J := fun z => by
    have bz := ai_lrg z
    exact en_mk (by simp only [lw_r, lw_e9J, List.cons_append, List.nil_append, en_b, and_true]; omega) rfl
  have rev : ((List.range n).map fun o => Value.int (sx (i + (1 + o)))).reverse = (List.range n).reverse.map fun o => Value.int (sx (i + (1 + o))) := by rw [List.map_reverse]
  have mem : ∀ o ∈ (List.range n).reverse, o < 4 := fun o ho => by
    have := List.mem_range.mp (List.mem_reverse.mp ho)
    omega
  refine lw_seg (rr := []) C e0 e49 hi hL hw hA ok8 trivial (fun r' sv' wA hx' hsk hwA hfA => ?_)
  obtain ⟨sk2, rfl, h2⟩ := lw_args_ok (fun o ho => hx'.at (lw_rAt ho)) mem hsk
  obtain ⟨xr, ys, rfl, dr, h3⟩ := ai_sk.cons h2
  cases ai_sk.nil h3
  have er := ref_of e0 dr
  subst er
  rw [← rev]
  refine hcallJ (q := q1) (M' := M1) (cl := 0) (a := q0) (As := lw_As sx i n) (rest := []) (rets := rets1) (P := P1) C (by decide) d1 l1 q10 (by rw [q1n]; unfold lw_As; rw [List.length_map, List.length_range]) m1 s1 ml1 mw1 mr1 rfl rfl (by rw [t1]) hwA e0 (by decide) r1 (fun C2 kk => c1 wA hwA hfA C2 kk) (fun wa z1 hP1 => ?_)
  refine lw_seg (rr := [z1.toInt]) C e0 e49 hi hL (w1 wa z1 hP1) hB (ok9 z1) ⟨lng_dv (z := z1.toInt) rfl (by omega), trivial⟩ (fun r' sv' wB hx' hsk hwB hfB => ?_)
  obtain ⟨sk2, rfl, h2⟩ := lw_args_ok (fun o ho => hx'.at (lw_rAt ho)) mem hsk
  obtain ⟨xr, ys, rfl, dr, h3⟩ := ai_sk.cons h2
  have er := ref_of e49 dr
  subst er
  obtain ⟨rest, hrest, hys⟩ : ∃ rest : List Value, ys = rest ∧ ((cmp = true ∧ rest = [.long z1]) ∨ (cmp = false ∧ rest = [])) := by
    refine ⟨ys, rfl, ?_⟩
    cases cmp with
    | true =>
      rw [if_pos rfl] at h3
      obtain ⟨x8, ys8, rfl, d8, h4⟩ := ai_sk.cons h3
      cases ai_sk.nil h4
      obtain ⟨z8, rfl, hz8⟩ := dvl d8 (hx'.at (k := 8) rfl)
      rw [Int64.toInt_inj.mp (show z8.toInt = z1.toInt by omega)]
      exact Or.inl ⟨rfl, rfl⟩
    | false =>
      rw [if_neg (by decide)] at h3
      exact Or.inr ⟨rfl, ai_sk.nil h3⟩
  subst hrest
  rw [← rev]
  refine hcallJ (q := q2) (M' := M2) (cl := 49) (a := q49) (As := lw_As sx i n) (rest := ys) (rets := rets2) (P := P2 wa z1) C (by decide) d2 l2 q20 (by rw [q2n]; unfold lw_As; rw [List.length_map, List.length_range]) m2 s2 ml2 mw2 mr2 rfl rfl (by rw [t2]) hwB e49 (by rcases hys with ⟨-, rfl⟩ | ⟨-, rfl⟩ <;> exact Nat.le_of_ble_eq_true rfl) r2 (fun C2 kk => c2 wa z1 wB hP1 hwB hfB C2 kk) (fun wb z2 hP2 => ?_)
  obtain ⟨hwb, hcmp⟩ := w2 wa z1 wb z2 hP1 hP2
  refine lw_seg (rr := [z2.toInt]) (sk := (2, 8, 0, 0) :: (if cmp = true then [(2, 8, 0, 0)] else [])) C e0 e49 hi hL hwb hC (ok9 z2) ⟨lng_dv (z := z2.toInt) rfl (by omega), ?_⟩ (fun r' sv' wC hx' hsk hwC hfC => ?_)
  · rcases hys with ⟨rfl, rfl⟩ | ⟨rfl, rfl⟩
    · rw [if_pos rfl, hcmp rfl]
      exact ⟨lng_dv (z := z2.toInt) rfl (by omega), trivial⟩
    · rw [if_neg (by decide)]
      trivial
  · cases ai_sk.nil hsk
    exact k wa z1 wb z2 wC hP1 hP2 hwC hfC
end LWJ
