/-! what the two sides have alike -/
/-- an evening of the class at cell cc and a page of the reference at pg: tests, strength, laughs, plan -/
def pgI (ws : va_W) (cc pg n : Nat) (E : Nat → Int) (a : Nat) (P : Nat → Int) : Prop := (cev ws cc n E ∧ pev ws pg n E ∧ good n E) ∧ (vi ws cc 3 a ∧ vi ws 50 (26 + pg) a ∧ a ≤ 8) ∧ ∀ j, j < a → vi ws (cc + 5) j (P j) ∧ vi ws 50 (18 + j + pg) (P j) ∧ (P j = 4 ∨ (0 ≤ P j ∧ P j < n))
/-- tape and fault, how many tests and sightings, images kept, torn -/
def baI (ws : va_W) (t : Nat) (g : Nat → Int) (u q y : Int) (n : Nat) (k0 k1 : Int) : Prop := ((vi ws 26 1 t ∧ vi ws 49 7 t) ∧ t ≤ 160 ∧ sp_tape g t ws) ∧ (vi ws 0 9 u ∧ vi ws 49 8 u) ∧ (vi ws 34 0 q ∧ vi ws 49 19 q) ∧ (vi ws 0 10 y ∧ vi ws 49 24 y) ∧ (vi ws 1 0 n ∧ vi ws 49 1 n ∧ n ≤ 4) ∧ (vi ws 25 0 k0 ∧ vi ws 56 0 k0) ∧ (vi ws 25 1 k1 ∧ vi ws 56 1 k1)
def imI (ws : va_W) (k n : Nat) : Prop := ∃ (E : Nat → Int) (a : Nat) (P : Nat → Int), vi ws (13 + 6 * k) 0 n ∧ pgI ws (13 + 6 * k) (27 + 27 * k) n E a P
/-- the sightings: a test, strength, pulled before, yielded -/
def seB (S : Nat → Int) : Prop := (0 ≤ S 0 ∧ S 0 ≤ 3) ∧ (1 ≤ S 1 ∧ S 1 ≤ 20) ∧ (0 ≤ S 2 ∧ S 2 ≤ 20) ∧ 0 ≤ S 3 ∧ S 3 ≤ 20
def seI (ws : va_W) : Prop := ∃ (q : Nat) (S : Nat → Nat → Int), vi ws 34 0 q ∧ q ≤ 6 ∧ ∀ j, j < q → seB (S j) ∧ ∀ r, r < 4 → vi ws (35 + r) j (S j r) ∧ vi ws 55 (4 * j + r) (S j r)
def seW (W : List (Nat × Nat × Nat)) : Bool := !(ai_wr W 34 0 0) && (((List.range 4).all fun r => nowr W (35 + r)) && nowr W 55)
def shB (W : List (Nat × Nat × Nat)) : Bool := (nowr W 57 && (nowr W 58 && nowr W 59)) && seW W
theorem seI.fr {W : List (Nat × Nat × Nat)} {ws ws' : va_W} (h : seI ws) (hf : ai_fr W ws ws') (h1 : seW W = true) : seI ws' := by
  obtain ⟨q, S, a1, a2, a3⟩ := h
  unfold seW at h1
  rw [Bool.and_eq_true, Bool.and_eq_true, Bool.not_eq_true'] at h1
  obtain ⟨b1, b2, b3⟩ := h1
  refine ⟨q, S, a1.fr hf b1, a2, fun j hj => ⟨(a3 j hj).1, fun r hr => ?_⟩⟩
  obtain ⟨c1, c2⟩ := (a3 j hj).2 r hr
  exact ⟨c1.fr hf (nowr_ok (List.all_eq_true.mp b2 r (List.mem_range.mpr hr)) j j), c2.fr hf (nowr_ok b3 _ _)⟩
theorem seI.zero {ws : va_W} (h : vi ws 34 0 0) : seI ws := ⟨0, fun _ _ => 0, h, by decide, fun j hj => absurd hj (Nat.not_lt_zero j)⟩
/-- sheets, sightings -/
def sh0 (ws : va_W) : Prop := ∃ (Lk : Nat → Int) (Nk : Nat → Nat) (Xk : Nat → Nat → Int), csh ws Lk Nk Xk ∧ msh ws Lk Nk Xk
def shI (ws : va_W) : Prop := sh0 ws ∧ seI ws
def Inv (ws : va_W) : Prop := ∃ (t : Nat) (g : Nat → Int) (u q y : Int) (n : Nat) (k0 k1 : Int) (E : Nat → Int) (a : Nat) (P : Nat → Int), baI ws t g u q y n k0 k1 ∧ pgI ws 1 0 n E a P ∧ (k0 = 1 → imI ws 0 n) ∧ (k1 = 1 → imI ws 1 n) ∧ shI ws
/-- none of these places is written -/
def nwr (W : List (Nat × Nat × Nat)) (L : List (Nat × Nat)) : Bool := L.all fun q => !(ai_wr W q.1 q.2 q.2)
theorem nwr_at {W : List (Nat × Nat × Nat)} {L : List (Nat × Nat)} (h : nwr W L = true) {c i : Nat} (hm : (c, i) ∈ L) : ai_wr W c i i = false := by
  have := List.all_eq_true.mp h (c, i) hm
  rw [Bool.not_eq_true'] at this
  exact this
/-- all places of page pg -/
def pgw (W : List (Nat × Nat × Nat)) (pg : Nat) : Bool := (List.range 27).all fun j => !(ai_wr W 50 (j + pg) (j + pg))
theorem pgw_at {W : List (Nat × Nat × Nat)} {pg : Nat} (h : pgw W pg = true) {j : Nat} (hj : j < 27) : ai_wr W 50 (j + pg) (j + pg) = false := by
  have := List.all_eq_true.mp h j (List.mem_range.mpr hj)
  rw [Bool.not_eq_true'] at this
  exact this
theorem pgI.fr {W : List (Nat × Nat × Nat)} {ws ws' : va_W} {cc pg n a : Nat} {E P : Nat → Int} (hn : n ≤ 4) (h : pgI ws cc pg n E a P) (hf : ai_fr W ws ws') (h1 : (evw W cc && nowr W (cc + 5)) = true) (h2 : pgw W pg = true) : pgI ws' cc pg n E a P := by
  obtain ⟨⟨a1, a2, a3⟩, ⟨b1, b2, b3⟩, c1⟩ := h
  rw [Bool.and_eq_true] at h1
  have h0 : nowr W cc = true := by
    have := h1.1
    unfold evw at this
    rw [Bool.and_eq_true] at this
    exact this.1
  refine ⟨⟨a1.fr hf h1.1, a2.fr hn hf (fun j hj => pgw_at h2 (by omega)), a3⟩, ⟨b1.fr hf (nowr_ok h0 3 3), b2.fr hf (pgw_at h2 (by omega)), b3⟩, fun j hj => ?_⟩
  obtain ⟨c2, c3, c4⟩ := c1 j hj
  exact ⟨c2.fr hf (nowr_ok h1.2 j j), c3.fr hf (pgw_at h2 (by omega)), c4⟩
theorem imI.fr {W : List (Nat × Nat × Nat)} {ws ws' : va_W} {k n : Nat} (hn : n ≤ 4) (h : imI ws k n) (hf : ai_fr W ws ws') (h1 : (evw W (13 + 6 * k) && nowr W (13 + 6 * k + 5)) = true) (h2 : pgw W (27 + 27 * k) = true) : imI ws' k n := by
  obtain ⟨E, a, P, v, hp⟩ := h
  have h0 : nowr W (13 + 6 * k) = true := by
    rw [Bool.and_eq_true] at h1
    have := h1.1
    unfold evw at this
    rw [Bool.and_eq_true] at this
    exact this.1
  exact ⟨E, a, P, v.fr hf (nowr_ok h0 0 0), hp.fr hn hf h1 h2⟩
theorem sh0.fr {W : List (Nat × Nat × Nat)} {ws ws' : va_W} (h : sh0 ws) (hf : ai_fr W ws ws') (h1 : (nowr W 42 && (nowr W 43 && (nowr W 45 && (nowr W 46 && (nowr W 47 && nowr W 48))))) = true) (h2 : (nowr W 57 && (nowr W 58 && nowr W 59)) = true) : sh0 ws' := by
  obtain ⟨Lk, Nk, Xk, a, b⟩ := h
  exact ⟨Lk, Nk, Xk, a.fr hf h1, b.fr hf h2⟩
theorem shI.fr {W : List (Nat × Nat × Nat)} {ws ws' : va_W} (h : shI ws) (hf : ai_fr W ws ws') (h1 : (nowr W 42 && (nowr W 43 && (nowr W 45 && (nowr W 46 && (nowr W 47 && nowr W 48))))) = true) (h2 : shB W = true) : shI ws' := by
  unfold shB at h2
  rw [Bool.and_eq_true] at h2
  exact ⟨h.1.fr hf h1 h2.1, h.2.fr hf h2.2⟩
def baL : List (Nat × Nat) := [(26, 1), (49, 7), (0, 9), (49, 8), (34, 0), (49, 19), (0, 10), (49, 24), (1, 0), (49, 1), (25, 0), (56, 0), (25, 1), (56, 1)]
theorem baI.fr {W : List (Nat × Nat × Nat)} {ad : List Nat} {tys : ai_ty} {ws ws' : va_W} {t : Nat} {g : Nat → Int} {u q y : Int} {n : Nat} {k0 k1 : Int} (h : baI ws t g u q y n k0 k1) (hw' : ai_wd tb_TY ad tys ws') (hf : ai_fr W ws ws') (h1 : nwr W baL = true) (h2 : (nowr W 27 && nowr W 52) = true) : baI ws' t g u q y n k0 k1 := by
  obtain ⟨⟨⟨a1, a2⟩, a3, a4⟩, ⟨b1, b2⟩, ⟨c1, c2⟩, ⟨d1, d2⟩, ⟨e1, e2, e3⟩, ⟨f1, f2⟩, g1, g2⟩ := h
  rw [Bool.and_eq_true] at h2
  have w : ∀ {c i : Nat}, (c, i) ∈ baL → ai_wr W c i i = false := fun hm => nwr_at h1 hm
  exact ⟨⟨⟨a1.fr hf (w (by decide)), a2.fr hf (w (by decide))⟩, a3, a4.fr a3 hw' hf h2.1 h2.2⟩, ⟨b1.fr hf (w (by decide)), b2.fr hf (w (by decide))⟩, ⟨c1.fr hf (w (by decide)), c2.fr hf (w (by decide))⟩, ⟨d1.fr hf (w (by decide)), d2.fr hf (w (by decide))⟩, ⟨e1.fr hf (w (by decide)), e2.fr hf (w (by decide)), e3⟩, ⟨f1.fr hf (w (by decide)), f2.fr hf (w (by decide))⟩, g1.fr hf (w (by decide)), g2.fr hf (w (by decide))⟩
/-- what a list of places must leave out for all but the base to stay -/
def wrR (W : List (Nat × Nat × Nat)) : Bool := ((evw W 1 && nowr W 6) && pgw W 0) && (((evw W 13 && nowr W 18) && pgw W 27) && (((evw W 19 && nowr W 24) && pgw W 54) && ((nowr W 42 && (nowr W 43 && (nowr W 45 && (nowr W 46 && (nowr W 47 && nowr W 48))))) && shB W)))
theorem Inv.fr0 {ad : List Nat} {tys : ai_ty} {ws ws' : va_W} (h : Inv ws) (hw' : ai_wd tb_TY ad tys ws') (hf : ai_fr [] ws ws') : Inv ws' := by
  obtain ⟨t, g, u, q, y, n, k0, k1, E, a, P, hb, hp, hi0, hi1, hs⟩ := h
  have hn := hb.2.2.2.2.1.2.2
  exact ⟨t, g, u, q, y, n, k0, k1, E, a, P, hb.fr hw' hf rfl rfl, hp.fr hn hf rfl rfl, fun h => (hi0 h).fr hn hf rfl rfl, fun h => (hi1 h).fr hn hf rfl rfl, hs.fr hf rfl rfl⟩
