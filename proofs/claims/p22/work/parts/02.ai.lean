/-! AN INTERPRETER OF BOUNDS over the machine: values are names with offsets, names have bounds; cells have fixed kinds. -/
abbrev ai_v : Type := Nat × Nat × Nat × Int
abbrev ai_e : Type := Int × Int × Bool × Nat × Int
abbrev ai_k : Type := Nat × Nat × ai_v
/-- what is told of three names a, b, r: (0, ..) a less b is r and o; (1, ..) a and b and o is r, but for turns of 2^32; (2, ..) a and b and o is r; (4, ..) a is less than b and o; (5, ..) a isn't -/
abbrev ai_b : Type := Nat × Nat × Nat × Nat × Int
abbrev ai_s : Type := Nat × List (Nat × ai_v) × List ai_v × List ai_e × List ai_k × List ai_b
abbrev ai_c : Type := Nat × Nat × List (Nat × Nat × Int × Int)
/-- what a value is: 0 a cell, 1 an int, 2 a long, 3 how two longs compare, 4 the script -/
def ai_dv (ad : List Nat) (b : Nat) (r : List Int) (v : ai_v) (x : Value) : Prop :=
  (v.1 = 0 ∧ ∃ q, ad[v.2.1]? = some q ∧ x = .ref q) ∨
  (v.1 = 1 ∧ ∃ (z : Int) (i : Int32), r[v.2.1]? = some z ∧ x = .int i ∧ i.toInt = z + v.2.2.2) ∨
  (v.1 = 2 ∧ ∃ (z : Int) (i : Int64), r[v.2.1]? = some z ∧ x = .long i ∧ i.toInt = z + v.2.2.2) ∨
  (v.1 = 3 ∧ ∃ (z w : Int) (i : Int32), r[v.2.1]? = some z ∧ r[v.2.2.1]? = some w ∧ x = .int i ∧ (i < 0 ↔ z < w + v.2.2.2) ∧ (i = 0 ↔ z = w + v.2.2.2)) ∨
  (v.1 = 4 ∧ x = .ref b)
def ai_oe (r : List Int) (z : Int) (e : ai_e) : Prop := e.1 ≤ z ∧ z ≤ e.2.1 ∧ (e.2.2.1 = true → z ≠ 0) ∧ ∃ w, r[e.2.2.2.1]? = some w ∧ w + e.2.2.2.2 ≤ z
def ai_ok (r : List Int) (en : List ai_e) : Prop := r.length = en.length ∧ ∀ (k : Nat) (z : Int) (e : ai_e), r[k]? = some z → en[k]? = some e → ai_oe r z e
/-- a ghost fact: (1000 + c, p, p, v, o) the place p and o of row c, in the world w0, has v; bits; what fx_sem says, over w0's tape; (350, n, n, n, 0) the two tapes (rows 27, 52) are alike below n -/
def fx_fact (w0 : va_W) (r : List Int) (q : ai_b) : Prop :=
  (1000 ≤ q.1 → ∃ za zr : Int, r[q.2.1]? = some za ∧ r[q.2.2.2.1]? = some zr ∧ 0 ≤ za + q.2.2.2.2 ∧ ∀ t, fx_o w0 (q.1 - 1000) (za + q.2.2.2.2).toNat = some t → zr = t) ∧ (q.1 < 300 ∨ (500 ≤ q.1 ∧ q.1 < 1000) → fx_bit r q) ∧ (∀ g : Nat → Int, fx_tape w0 g → fx_sem g r q) ∧ (q.1 = 350 → ∃ (zn : Int) (g : Nat → Int), r[q.2.1]? = some zn ∧ fx_tape w0 g ∧ ∀ i, i < zn.toNat → fx_o w0 52 i = some (g i))
def ai_sb (w0 : va_W) (r : List Int) (sb : List ai_b) : Prop := ∀ q ∈ sb, ∃ za zb zr : Int, r[q.2.1]? = some za ∧ r[q.2.2.1]? = some zb ∧ r[q.2.2.2.1]? = some zr ∧ (q.1 = 0 → za - zb = zr + q.2.2.2.2) ∧ (q.1 = 1 → (za + zb + q.2.2.2.2 - zr) % 4294967296 = 0) ∧ (q.1 = 2 → za + zb + q.2.2.2.2 = zr) ∧ (q.1 = 4 → za < zb + q.2.2.2.2) ∧ (q.1 = 5 → zb + q.2.2.2.2 ≤ za) ∧ (100 ≤ q.1 → fx_fact w0 r q)
theorem ai_beq {a b : Nat} : Nat.beq a b = true ↔ a = b := ⟨Nat.eq_of_beq_eq_true, fun h => by subst h; exact Nat.beq_refl a⟩
def ai_x (r r' : List Int) : Prop := ∃ t, r' = r ++ t
theorem ai_x.rf {r : List Int} : ai_x r r := ⟨[], by simp⟩
theorem ai_x.tr {a b c : List Int} (h : ai_x a b) (k : ai_x b c) : ai_x a c := by
  obtain ⟨t, rfl⟩ := h
  obtain ⟨u, rfl⟩ := k
  exact ⟨t ++ u, by simp⟩
theorem ai_x.push {r : List Int} {z : Int} : ai_x r (r ++ [z]) := ⟨[z], rfl⟩
theorem ai_x.at {r r' : List Int} (h : ai_x r r') {k : Nat} {z : Int} (hk : r[k]? = some z) : r'[k]? = some z := by
  obtain ⟨t, rfl⟩ := h
  rw [List.getElem?_append_left (List.getElem?_eq_some_iff.mp hk).1]
  exact hk
theorem ai_dv.mono {ad : List Nat} {b : Nat} {r r' : List Int} {v : ai_v} {x : Value} (h : ai_dv ad b r v x) (e : ai_x r r') : ai_dv ad b r' v x := by
  rcases h with h | ⟨h, z, i, h1, h2⟩ | ⟨h, z, i, h1, h2⟩ | ⟨h, z, w, i, h1, h2, h3⟩ | h
  · exact Or.inl h
  · exact Or.inr (Or.inl ⟨h, z, i, e.at h1, h2⟩)
  · exact Or.inr (Or.inr (Or.inl ⟨h, z, i, e.at h1, h2⟩))
  · exact Or.inr (Or.inr (Or.inr (Or.inl ⟨h, z, w, i, e.at h1, e.at h2, h3⟩)))
  · exact Or.inr (Or.inr (Or.inr (Or.inr h)))
theorem fx_fact.mono {w0 : va_W} {r r' : List Int} {q : ai_b} (h : fx_fact w0 r q) (e : ai_x r r') : fx_fact w0 r' q := by
  obtain ⟨h1, h2, h3, h4⟩ := h
  refine ⟨fun a => ?_, fun a => ?_, fun g hg => ?_, fun a => ?_⟩
  · obtain ⟨za, zr, e1, e2, e3⟩ := h1 a
    exact ⟨za, zr, e.at e1, e.at e2, e3⟩
  · obtain ⟨za, zr, e1, e2, e3, e4, e5, e6, e7, e8, e9⟩ := h2 a
    refine ⟨za, zr, e.at e1, e.at e2, e3, e4, e5, fun h => ?_, fun h => ?_, fun h => ?_, e9⟩
    · obtain ⟨zb, x1, x2⟩ := e6 h
      exact ⟨zb, e.at x1, x2⟩
    · obtain ⟨zb, x1, x2⟩ := e7 h
      exact ⟨zb, e.at x1, x2⟩
    · obtain ⟨zb, x1, x2⟩ := e8 h
      exact ⟨zb, e.at x1, x2⟩
  · obtain ⟨k1, k2, k3, k4, k5⟩ := h3 g hg
    refine ⟨fun a b => ?_, fun a b => ?_, fun a b => ?_, fun a b => ?_, fun a => ?_⟩
    · obtain ⟨za, zn, zf, ze, zv, e1, e2, e3, e4, e5, e6⟩ := k1 a b
      exact ⟨za, zn, zf, ze, zv, e.at e1, e.at e2, e.at e3, e.at e4, e.at e5, e6⟩
    · obtain ⟨zf, ze, e1, e2, e3, e4, e5⟩ := k2 a b
      refine ⟨zf, ze, e.at e1, e.at e2, e3, e4, ?_⟩
      by_cases hq : q.1 = 310
      · rw [if_pos hq] at e5 ⊢
        obtain ⟨zw, e6, e7⟩ := e5
        exact ⟨zw, e.at e6, e7⟩
      · rw [if_neg hq] at e5 ⊢
        exact e5
    · obtain ⟨za, zn, zr, e1, e2, e3, e4⟩ := k3 a b
      exact ⟨za, zn, zr, e.at e1, e.at e2, e.at e3, e4⟩
    · have k6 := k4 a b
      unfold fx_ps at k6 ⊢
      by_cases hq : q.1 = 499
      · rw [if_pos hq] at k6 ⊢
        obtain ⟨zn, zr, zf, zc, zd, e1, e2, e3, e4, e5, e6⟩ := k6
        exact ⟨zn, zr, zf, zc, zd, e.at e1, e.at e2, e.at e3, e.at e4, e.at e5, e6⟩
      · rw [if_neg hq] at k6 ⊢
        obtain ⟨zf, ze, zv, zn, zh, yf, ye, yv, as, e1, e2, e3, e4, e5, e6, e7, e8, e9⟩ := k6
        exact ⟨zf, ze, zv, zn, zh, yf, ye, yv, as, e.at e1, e.at e2, e.at e3, e.at e4, e.at e5, e.at e6, e.at e7, e.at e8, e9⟩
    · obtain ⟨zf, ze, zv, e1, e2, e3, e4⟩ := k5 a
      exact ⟨zf, ze, zv, e.at e1, e.at e2, e.at e3, e4⟩
  · obtain ⟨zn, g, e1, e2⟩ := h4 a
    exact ⟨zn, g, e.at e1, e2⟩
theorem ai_sb.mono {w0 : va_W} {r r' : List Int} {sb : List ai_b} (h : ai_sb w0 r sb) (e : ai_x r r') : ai_sb w0 r' sb := fun q hq => by
  obtain ⟨za, zb, zr, h1, h2, h3, h4, h5, h6, h7, h8, h9⟩ := h q hq
  exact ⟨za, zb, zr, e.at h1, e.at h2, e.at h3, h4, h5, h6, h7, h8, fun k => (h9 k).mono e⟩
theorem ai_ok.get {r : List Int} {en : List ai_e} (h : ai_ok r en) {k : Nat} {z : Int} (hk : r[k]? = some z) : ∃ e, en[k]? = some e ∧ ai_oe r z e := by
  have hl : k < en.length := by rw [← h.1]; exact (List.getElem?_eq_some_iff.mp hk).1
  exact ⟨en[k], List.getElem?_eq_getElem hl, h.2 k z _ hk (List.getElem?_eq_getElem hl)⟩
theorem ai_ok.name {r : List Int} {en : List ai_e} (h : ai_ok r en) {k : Nat} {e : ai_e} (hk : en[k]? = some e) : ∃ z, r[k]? = some z ∧ ai_oe r z e := by
  have hl : k < r.length := by rw [h.1]; exact (List.getElem?_eq_some_iff.mp hk).1
  exact ⟨r[k], List.getElem?_eq_getElem hl, h.2 k _ e (List.getElem?_eq_getElem hl) hk⟩
theorem ai_oe.mono {r r' : List Int} {z : Int} {e : ai_e} (h : ai_oe r z e) (x : ai_x r r') : ai_oe r' z e := by
  obtain ⟨h1, h2, h3, w, h4, h5⟩ := h
  exact ⟨h1, h2, h3, w, x.at h4, h5⟩
theorem ai_ok.push {r : List Int} {en : List ai_e} {z : Int} {e : ai_e} (h : ai_ok r en) (hz : ai_oe (r ++ [z]) z e) : ai_ok (r ++ [z]) (en ++ [e]) := by
  refine ⟨by simp [h.1], fun k y f h1 h2 => ?_⟩
  by_cases hk : k < r.length
  · rw [List.getElem?_append_left hk] at h1
    rw [List.getElem?_append_left (by rw [← h.1]; exact hk)] at h2
    exact (h.2 k y f h1 h2).mono ai_x.push
  · rw [List.getElem?_append_right (by omega)] at h1
    rw [List.getElem?_append_right (by rw [← h.1]; omega)] at h2
    have e0 : k - r.length = 0 := by
      have := (List.getElem?_eq_some_iff.mp h1).1
      simp at this
      omega
    rw [e0] at h1
    rw [← h.1, e0] at h2
    cases h1
    cases h2
    exact hz
theorem ai_last {r : List Int} {z : Int} {n : Nat} (h : r.length = n) : (r ++ [z])[n]? = some z := by
  subst h
  simp
/-- a new name with bounds -/
def ai_nu (en : List ai_e) (lo hi : Int) : List ai_e := en ++ [(lo, hi, false, en.length, 0)]
theorem ai_ok.nu {r : List Int} {en : List ai_e} {z lo hi : Int} (h : ai_ok r en) (h1 : lo ≤ z) (h2 : z ≤ hi) : ai_ok (r ++ [z]) (ai_nu en lo hi) :=
  h.push ⟨h1, h2, fun q => (by cases q), z, ai_last h.1, by show z + 0 ≤ z; omega⟩
/-- an int's bounds, a long's -/
def ai_i (en : List ai_e) (v : ai_v) : Option (Int × Int) := if v.1 = 1 then (en[v.2.1]?).map fun e => (e.1 + v.2.2.2, e.2.1 + v.2.2.2) else none
def ai_l (en : List ai_e) (v : ai_v) : Option (Int × Int) := if v.1 = 2 then (en[v.2.1]?).map fun e => (e.1 + v.2.2.2, e.2.1 + v.2.2.2) else none
theorem ai_i_ok {ad : List Nat} {b : Nat} {r : List Int} {en : List ai_e} {v : ai_v} {x : Value} {p : Int × Int} (h : ai_ok r en) (hv : ai_dv ad b r v x) (hp : ai_i en v = some p) :
    v.1 = 1 ∧ ∃ (z : Int) (i : Int32), r[v.2.1]? = some z ∧ x = .int i ∧ i.toInt = z + v.2.2.2 ∧ p.1 ≤ i.toInt ∧ i.toInt ≤ p.2 := by
  unfold ai_i at hp
  split at hp
  · rename_i h1
    obtain ⟨e, he, rfl⟩ := Option.map_eq_some_iff.mp hp
    rcases hv with ⟨q, -⟩ | ⟨-, z, i, g1, g2, g3⟩ | ⟨q, -⟩ | ⟨q, -⟩ | ⟨q, -⟩
    · omega
    · have := h.2 _ _ _ g1 he
      refine ⟨h1, z, i, g1, g2, g3, ?_, ?_⟩
      · have := this.1
        show e.1 + v.2.2.2 ≤ _
        omega
      · have := this.2.1
        show _ ≤ e.2.1 + v.2.2.2
        omega
    all_goals omega
  · cases hp
theorem ai_l_ok {ad : List Nat} {b : Nat} {r : List Int} {en : List ai_e} {v : ai_v} {x : Value} {p : Int × Int} (h : ai_ok r en) (hv : ai_dv ad b r v x) (hp : ai_l en v = some p) :
    v.1 = 2 ∧ ∃ (z : Int) (i : Int64), r[v.2.1]? = some z ∧ x = .long i ∧ i.toInt = z + v.2.2.2 ∧ p.1 ≤ i.toInt ∧ i.toInt ≤ p.2 := by
  unfold ai_l at hp
  split at hp
  · rename_i h1
    obtain ⟨e, he, rfl⟩ := Option.map_eq_some_iff.mp hp
    rcases hv with ⟨q, -⟩ | ⟨q, -⟩ | ⟨-, z, i, g1, g2, g3⟩ | ⟨q, -⟩ | ⟨q, -⟩
    · omega
    · omega
    · have := h.2 _ _ _ g1 he
      refine ⟨h1, z, i, g1, g2, g3, ?_, ?_⟩
      · have := this.1
        show e.1 + v.2.2.2 ≤ _
        omega
      · have := this.2.1
        show _ ≤ e.2.1 + v.2.2.2
        omega
    all_goals omega
  · cases hp
/-- name 0 is 0 -/
def ai_z (en : List ai_e) : Bool := match en[0]? with
  | some e => decide (e.1 = 0) && decide (e.2.1 = 0)
  | none => false
theorem ai_z_ok {r : List Int} {en : List ai_e} (h : ai_ok r en) (hz : ai_z en = true) : r[0]? = some 0 := by
  unfold ai_z at hz
  split at hz
  · rename_i e he
    obtain ⟨z, h1, h2⟩ := h.name he
    simp only [Bool.and_eq_true, decide_eq_true_eq] at hz
    have a1 := h2.1
    have a2 := h2.2.1
    have : z = 0 := by omega
    rw [h1, this]
  · cases hz
def ai_ir (lo hi : Int) : Bool := decide (-2147483648 ≤ lo) && decide (hi ≤ 2147483647)
def ai_lr (lo hi : Int) : Bool := decide (-9223372036854775808 ≤ lo) && decide (hi ≤ 9223372036854775807)
theorem ai_irg (i : Int32) : -2147483648 ≤ i.toInt ∧ i.toInt ≤ 2147483647 := by
  have h1 := Int32.le_toInt i
  have h2 := Int32.toInt_lt i
  omega
theorem ai_lrg (i : Int64) : -9223372036854775808 ≤ i.toInt ∧ i.toInt ≤ 9223372036854775807 := by
  have h1 := Int64.le_toInt i
  have h2 := Int64.toInt_lt i
  omega
/-- an int of bounds, as a value: a constant, or a new name -/
def ai_mi (en : List ai_e) (lo hi : Int) : List ai_e × ai_v :=
  if ai_ir lo hi = true then (if lo = hi ∧ ai_z en = true then (en, (1, 0, 0, lo)) else (ai_nu en lo hi, (1, en.length, 0, 0)))
  else (ai_nu en (-2147483648) 2147483647, (1, en.length, 0, 0))
theorem ai_mi_ok {ad : List Nat} {b : Nat} {r : List Int} {en : List ai_e} {lo hi : Int} (h : ai_ok r en) (i : Int32) (hi' : ai_ir lo hi = true → lo ≤ i.toInt ∧ i.toInt ≤ hi) :
    ∃ r', ai_x r r' ∧ ai_ok r' (ai_mi en lo hi).1 ∧ ai_dv ad b r' (ai_mi en lo hi).2 (.int i) := by
  unfold ai_mi
  split
  · rename_i hr
    obtain ⟨g1, g2⟩ := hi' hr
    split
    · rename_i hc
      obtain ⟨c1, c2⟩ := hc
      exact ⟨r, ai_x.rf, h, Or.inr (Or.inl ⟨rfl, 0, i, ai_z_ok h c2, rfl, by show i.toInt = 0 + lo; omega⟩)⟩
    · exact ⟨r ++ [i.toInt], ai_x.push, h.nu g1 g2, Or.inr (Or.inl ⟨rfl, i.toInt, i, ai_last h.1, rfl, by show i.toInt = i.toInt + 0; omega⟩)⟩
  · exact ⟨r ++ [i.toInt], ai_x.push, h.nu (ai_irg i).1 (ai_irg i).2, Or.inr (Or.inl ⟨rfl, i.toInt, i, ai_last h.1, rfl, by show i.toInt = i.toInt + 0; omega⟩)⟩
def ai_ml (en : List ai_e) (lo hi : Int) : List ai_e × ai_v :=
  if ai_lr lo hi = true then (if lo = hi ∧ ai_z en = true then (en, (2, 0, 0, lo)) else (ai_nu en lo hi, (2, en.length, 0, 0)))
  else (ai_nu en (-9223372036854775808) 9223372036854775807, (2, en.length, 0, 0))
theorem ai_ml_ok {ad : List Nat} {b : Nat} {r : List Int} {en : List ai_e} {lo hi : Int} (h : ai_ok r en) (i : Int64) (hi' : ai_lr lo hi = true → lo ≤ i.toInt ∧ i.toInt ≤ hi) :
    ∃ r', ai_x r r' ∧ ai_ok r' (ai_ml en lo hi).1 ∧ ai_dv ad b r' (ai_ml en lo hi).2 (.long i) := by
  unfold ai_ml
  split
  · rename_i hr
    obtain ⟨g1, g2⟩ := hi' hr
    split
    · rename_i hc
      obtain ⟨c1, c2⟩ := hc
      exact ⟨r, ai_x.rf, h, Or.inr (Or.inr (Or.inl ⟨rfl, 0, i, ai_z_ok h c2, rfl, by show i.toInt = 0 + lo; omega⟩))⟩
    · exact ⟨r ++ [i.toInt], ai_x.push, h.nu g1 g2, Or.inr (Or.inr (Or.inl ⟨rfl, i.toInt, i, ai_last h.1, rfl, by show i.toInt = i.toInt + 0; omega⟩))⟩
  · exact ⟨r ++ [i.toInt], ai_x.push, h.nu (ai_lrg i).1 (ai_lrg i).2, Or.inr (Or.inr (Or.inl ⟨rfl, i.toInt, i, ai_last h.1, rfl, by show i.toInt = i.toInt + 0; omega⟩))⟩
