/-! an int stored by hand, a local loaded by hand; renew of the class -/
section HST
variable {ad : List Nat} {M : ai_m} {d : Nat} {p : Program} {l : Launch} {e : Env} {R : Room} {s : State} {m : MethodId} {args : Array Value} {below : List Frame} {meth : Method} {c : Code} {D : va_G} {tys : ai_ty} {A : Nat → Prop} {b L : Nat} {sx : Nat → Int32} {cells slots : Nat} {Q : State → Prop}
theorem hast {pc c0 n a : Nat} {ws : va_W} {v i : Int32} {rest : List Value} {lv : List (Nat × Value)} (C : ai_cx M d p R s m args c D tys A b L sx cells slots) (hd : decode M.2.1 pc = .ok (.iastore, 1)) (hT : tb_TY[c0]? = some (1, n, [(1, 0, -2147483648, 2147483647)])) (hw : ai_wd tb_TY ad tys ws) (ha : ad[c0]? = some a) (h0 : 0 ≤ i.toInt) (hn : i.toInt < n)
    (k : ∀ ws', ai_wd tb_TY ad tys ws' → ai_fr [(c0, i.toInt.toNat, i.toInt.toNat + 1)] ws ws' → vi ws' c0 i.toInt.toNat v.toInt → hG M p l e R s m args below meth c D A cells slots Q (pc + 1) lv rest ws') : hG M p l e R s m args below meth c D A cells slots Q pc lv (.int v :: .int i :: .ref a :: rest) ws := by
  intro H locs ls hP hD hS hl
  obtain ⟨a', e', w1, w2, w3⟩ := hw.get hT
  cases Option.some.inj (ha.symm.trans w2)
  rcases w3 with ⟨z, -⟩ | ⟨-, cA, f, rfl, ⟨t0, ht0⟩, h5⟩ | ⟨z, -⟩ | ⟨z, -⟩
  · exact absurd (id z : (1 : Nat) = 0) (by decide)
  · have hin : vp_in i n := vp_in_iff.mpr ⟨h0, hn⟩
    have ei : i.toNatClampNeg = i.toInt.toNat := by
      have e : (i.toNatClampNeg : Int) = i.toInt := by
        rw [Int32.toNatClampNeg]
        omega
      omega
    have hw' : ai_wd tb_TY ad tys (ws.set c0 (a, .inl (cA, n, .inl (upd f i.toNatClampNeg v)))) := hw.set hT w1 (Or.inr (Or.inl ⟨Or.inl rfl, cA, _, rfl, ⟨t0, ht0⟩, fun j q hj hq => by
      have hq2 : q = (1, 0, -2147483648, 2147483647) := by
        unfold ai_pt at hq
        have hq : [((1 : Nat), (0 : Nat), (-2147483648 : Int), (2147483647 : Int))][j % 1]? = some q := hq
        rw [Nat.mod_one] at hq
        cases hq
        rfl
      rw [hq2]
      exact ai_irg _⟩))
    refine va_iast C.1 C.2.1 C.2.2.2.2.2.2.1 hP hD hS c0 t0 w1 ht0 hin hd (fun H1 locs1 hP1 hD1 hS1 => k _ hw' (fun c' i' x hwr hsl => ai_sl.setA (j := 0) w1 hsl (fun hc hi' => ?_)) ⟨v, ⟨a, _, List.getElem?_set_self (List.getElem?_eq_some_iff.mp w1).1, Or.inr ⟨cA, n, _, rfl, by omega, ?_⟩⟩, rfl⟩ H1 locs1 ls hP1 hD1 hS1 hl)
    · subst hc
      refine pk_un (fun hh => ?_)
      have : ai_wr [(c', i.toInt.toNat, i.toInt.toNat + 1)] c' i' i' = true := by
        unfold ai_wr
        refine List.any_eq_true.mpr ⟨_, List.mem_singleton.mpr rfl, ?_⟩
        simp only [Bool.and_eq_true, Bool.or_eq_true, decide_eq_true_eq]
        exact ⟨⟨Or.inl trivial, by omega⟩, by omega⟩
      rw [this] at hwr
      cases hwr
    · rw [ei]
      show Value.int v = .int (if i.toInt.toNat = i.toInt.toNat then v else f i.toInt.toNat)
      rw [if_pos rfl]
  · exact absurd (id z : (1 : Nat) = 3) (by decide)
  · exact absurd (id z : (1 : Nat) = 4) (by decide)
theorem hild {pc j : Nat} {x : Int32} {ws : va_W} {sk : List Value} {lv : List (Nat × Value)} (C : ai_cx M d p R s m args c D tys A b L sx cells slots) (hd : decode M.2.1 pc = .ok (.iload j, 2)) (hm : (j, Value.int x) ∈ lv)
    (k : hG M p l e R s m args below meth c D A cells slots Q (pc + 2) lv (.int x :: sk) ws) : hG M p l e R s m args below meth c D A cells slots Q pc lv sk ws := by
  intro H locs ls hP hD hS hl
  obtain ⟨n, hn, hx⟩ := List.getElem_of_mem hm
  exact lv_iload C.1 C.2.1 hd (lv_at hl n (by rw [List.getElem?_eq_getElem hn, hx])) (k H locs ls hP hD hS hl)
end HST
