/-! the numbers' steps -/
theorem ai_addI {i j : Int32} (h1 : -2147483648 ≤ i.toInt + j.toInt) (h2 : i.toInt + j.toInt ≤ 2147483647) : (i + j).toInt = i.toInt + j.toInt := by
  rw [Int32.toInt_add, Int.bmod_eq_of_le] <;> omega
theorem ai_subI {i j : Int32} (h1 : -2147483648 ≤ i.toInt - j.toInt) (h2 : i.toInt - j.toInt ≤ 2147483647) : (i - j).toInt = i.toInt - j.toInt := by
  rw [Int32.toInt_sub, Int.bmod_eq_of_le] <;> omega
theorem ai_mulI {i j : Int32} (h1 : -2147483648 ≤ i.toInt * j.toInt) (h2 : i.toInt * j.toInt ≤ 2147483647) : (i * j).toInt = i.toInt * j.toInt := by
  rw [Int32.toInt_mul, Int.bmod_eq_of_le] <;> omega
theorem ai_addL {i j : Int64} (h1 : -9223372036854775808 ≤ i.toInt + j.toInt) (h2 : i.toInt + j.toInt ≤ 9223372036854775807) : (i + j).toInt = i.toInt + j.toInt := by
  rw [Int64.toInt_add, Int.bmod_eq_of_le] <;> omega
theorem ai_irs {lo hi : Int} (h : ai_ir lo hi = true) : -2147483648 ≤ lo ∧ hi ≤ 2147483647 := by
  unfold ai_ir at h
  simpa using h
theorem ai_lrs {lo hi : Int} (h : ai_lr lo hi = true) : -9223372036854775808 ≤ lo ∧ hi ≤ 9223372036854775807 := by
  unfold ai_lr at h
  simpa using h
abbrev ai_q : Type := List ai_e × List ai_b × ai_v
/-- a step of two ints to a value -/
def ai_O2 (F : List ai_e → List ai_b → ai_v → ai_v → Option ai_q) (side : Int32 → Prop) (f : Int32 → Int32 → Int32) : Prop :=
  ∀ (ad : List Nat) (b : Nat) (r : List Int) (en : List ai_e) (sb : List ai_b) (x y : ai_v) (vx vy : Value) (q : ai_q), ai_ok r en → ai_sb r sb → ai_dv ad b r x vx → ai_dv ad b r y vy → F en sb x y = some q →
    ∃ i j : Int32, vx = .int i ∧ vy = .int j ∧ side j ∧ ∃ r', ai_x r r' ∧ ai_ok r' q.1 ∧ ai_sb r' q.2.1 ∧ ai_dv ad b r' q.2.2 (.int (f i j))
/-- out of bounds alone -/
def ai_bop (g : Int × Int → Int × Int → Option (Int × Int)) (en : List ai_e) (sb : List ai_b) (x y : ai_v) : Option ai_q :=
  (ai_i en x).bind fun p => (ai_i en y).bind fun q => (g p q).map fun w => ((ai_mi en w.1 w.2).1, sb, (ai_mi en w.1 w.2).2)
theorem ai_bop_ok {g : Int × Int → Int × Int → Option (Int × Int)} {side : Int32 → Prop} {f : Int32 → Int32 → Int32}
    (hg : ∀ (p q w : Int × Int) (i j : Int32), p.1 ≤ i.toInt → i.toInt ≤ p.2 → q.1 ≤ j.toInt → j.toInt ≤ q.2 → g p q = some w → side j ∧ (ai_ir w.1 w.2 = true → w.1 ≤ (f i j).toInt ∧ (f i j).toInt ≤ w.2)) : ai_O2 (ai_bop g) side f := by
  intro ad b r en sb x y vx vy q h hs hx hy hF
  unfold ai_bop at hF
  obtain ⟨px, h1, hF⟩ := Option.bind_eq_some_iff.mp hF
  obtain ⟨py, h2, hF⟩ := Option.bind_eq_some_iff.mp hF
  obtain ⟨w, h3, rfl⟩ := Option.map_eq_some_iff.mp hF
  obtain ⟨-, zx, i, -, rfl, -, a1, a2⟩ := ai_i_ok h hx h1
  obtain ⟨-, zy, j, -, rfl, -, b1, b2⟩ := ai_i_ok h hy h2
  obtain ⟨s1, s2⟩ := hg px py w i j a1 a2 b1 b2 h3
  obtain ⟨r', e1, e2, e3⟩ := ai_mi_ok (ad := ad) (b := b) (lo := w.1) (hi := w.2) h (f i j) s2
  exact ⟨i, j, rfl, rfl, s1, r', e1, e2, hs.mono e1, e3⟩
/-- addition keeps names -/
def ai_add (en : List ai_e) (sb : List ai_b) (x y : ai_v) : Option ai_q :=
  (ai_i en x).bind fun p => (ai_i en y).bind fun q =>
    if q.1 = q.2 ∧ ai_ir (p.1 + q.1) (p.2 + q.2) = true then some (en, sb, (1, x.2.1, 0, x.2.2.2 + q.1))
    else if p.1 = p.2 ∧ ai_ir (p.1 + q.1) (p.2 + q.2) = true then some (en, sb, (1, y.2.1, 0, y.2.2.2 + p.1))
    else some ((ai_mi en (p.1 + q.1) (p.2 + q.2)).1, sb, (ai_mi en (p.1 + q.1) (p.2 + q.2)).2)
theorem ai_add_ok : ai_O2 ai_add (fun _ => True) (fun i j => i + j) := by
  intro ad b r en sb x y vx vy q h hs hx hy hF
  unfold ai_add at hF
  obtain ⟨px, h1, hF⟩ := Option.bind_eq_some_iff.mp hF
  obtain ⟨py, h2, hF⟩ := Option.bind_eq_some_iff.mp hF
  obtain ⟨-, zx, i, gx, rfl, kx, a1, a2⟩ := ai_i_ok h hx h1
  obtain ⟨-, zy, j, gy, rfl, ky, b1, b2⟩ := ai_i_ok h hy h2
  refine ⟨i, j, rfl, rfl, trivial, ?_⟩
  split at hF
  · rename_i hc
    obtain ⟨c1, c2⟩ := hc
    have c3 := ai_irs c2
    cases hF
    refine ⟨r, ai_x.rf, h, hs, Or.inr (Or.inl ⟨rfl, zx, _, gx, rfl, ?_⟩)⟩
    show (i + j).toInt = zx + (x.2.2.2 + py.1)
    rw [ai_addI] <;> omega
  · split at hF
    · rename_i hc
      obtain ⟨c1, c2⟩ := hc
      have c3 := ai_irs c2
      cases hF
      refine ⟨r, ai_x.rf, h, hs, Or.inr (Or.inl ⟨rfl, zy, _, gy, rfl, ?_⟩)⟩
      show (i + j).toInt = zy + (y.2.2.2 + px.1)
      rw [ai_addI] <;> omega
    · cases hF
      obtain ⟨r', e1, e2, e3⟩ := ai_mi_ok (ad := ad) (b := b) (lo := px.1 + py.1) (hi := px.2 + py.2) h (i + j) (fun hr => by
        have c3 := ai_irs hr
        rw [ai_addI] <;> omega)
      exact ⟨r', e1, e2, hs.mono e1, e3⟩
/-- subtraction: by a constant it keeps the name; else what was told of the same two names -/
def ai_sub (en : List ai_e) (sb : List ai_b) (x y : ai_v) : Option ai_q :=
  (ai_i en x).bind fun p => (ai_i en y).bind fun q =>
    if ai_ir (p.1 - q.2) (p.2 - q.1) = true then
      if q.1 = q.2 then some (en, sb, (1, x.2.1, 0, x.2.2.2 - q.1))
      else match sb.find? (fun k => decide (k.1 = x.2.1) && decide (k.2.1 = y.2.1)) with
        | some k => some (en, sb, (1, k.2.2.1, 0, k.2.2.2 + x.2.2.2 - y.2.2.2))
        | none => some (ai_nu en (p.1 - q.2) (p.2 - q.1), (x.2.1, y.2.1, en.length, y.2.2.2 - x.2.2.2) :: sb, (1, en.length, 0, 0))
    else some ((ai_mi en (-2147483648) 2147483647).1, sb, (ai_mi en (-2147483648) 2147483647).2)
theorem ai_sub_ok : ai_O2 ai_sub (fun _ => True) (fun i j => i - j) := by
  intro ad b r en sb x y vx vy q h hs hx hy hF
  unfold ai_sub at hF
  obtain ⟨px, h1, hF⟩ := Option.bind_eq_some_iff.mp hF
  obtain ⟨py, h2, hF⟩ := Option.bind_eq_some_iff.mp hF
  obtain ⟨-, zx, i, gx, rfl, kx, a1, a2⟩ := ai_i_ok h hx h1
  obtain ⟨-, zy, j, gy, rfl, ky, b1, b2⟩ := ai_i_ok h hy h2
  refine ⟨i, j, rfl, rfl, trivial, ?_⟩
  split at hF
  · rename_i hc
    have c3 := ai_irs hc
    have es : (i - j).toInt = i.toInt - j.toInt := ai_subI (by omega) (by omega)
    split at hF
    · cases hF
      refine ⟨r, ai_x.rf, h, hs, Or.inr (Or.inl ⟨rfl, zx, _, gx, rfl, ?_⟩)⟩
      show (i - j).toInt = zx + (x.2.2.2 - py.1)
      omega
    · split at hF
      · rename_i k hk
        cases hF
        have hm := List.mem_of_find?_eq_some hk
        have hp := List.find?_some hk
        simp only [Bool.and_eq_true, decide_eq_true_eq] at hp
        obtain ⟨za, zb, zr, e1, e2, e3, e4⟩ := hs k hm
        rw [hp.1, gx] at e1
        rw [hp.2, gy] at e2
        cases e1
        cases e2
        refine ⟨r, ai_x.rf, h, hs, Or.inr (Or.inl ⟨rfl, zr, _, e3, rfl, ?_⟩)⟩
        show (i - j).toInt = zr + (k.2.2.2 + x.2.2.2 - y.2.2.2)
        omega
      · cases hF
        refine ⟨r ++ [(i - j).toInt], ai_x.push, h.nu (by omega) (by omega), ?_, Or.inr (Or.inl ⟨rfl, (i - j).toInt, _, ai_last h.1, rfl, by show (i - j).toInt = (i - j).toInt + 0; omega⟩)⟩
        intro k hk
        rcases List.mem_cons.mp hk with rfl | hk
        · exact ⟨zx, zy, (i - j).toInt, ai_x.push.at gx, ai_x.push.at gy, ai_last h.1, by show zx - zy = _ + (y.2.2.2 - x.2.2.2); omega⟩
        · exact hs.mono ai_x.push k hk
  · cases hF
    obtain ⟨r', e1, e2, e3⟩ := ai_mi_ok (ad := ad) (b := b) (lo := -2147483648) (hi := 2147483647) h (i - j) (fun _ => ai_irg _)
    exact ⟨r', e1, e2, hs.mono e1, e3⟩
/-- products, and what is only known to be an int -/
def ai_mn (a b c d : Int) : Int := min (min a b) (min c d)
def ai_mx (a b c d : Int) : Int := max (max a b) (max c d)
theorem ai_prod {a b c d i j : Int} (h1 : a ≤ i) (h2 : i ≤ b) (h3 : c ≤ j) (h4 : j ≤ d) : ai_mn (a * c) (a * d) (b * c) (b * d) ≤ i * j ∧ i * j ≤ ai_mx (a * c) (a * d) (b * c) (b * d) := by
  have e1 : ∀ x : Int, (a * x ≤ i * x ∨ b * x ≤ i * x) ∧ (i * x ≤ a * x ∨ i * x ≤ b * x) := fun x => by
    rcases Int.le_total 0 x with hx | hx
    · exact ⟨Or.inl (Int.mul_le_mul_of_nonneg_right h1 hx), Or.inr (Int.mul_le_mul_of_nonneg_right h2 hx)⟩
    · exact ⟨Or.inr (Int.mul_le_mul_of_nonpos_right h2 hx), Or.inl (Int.mul_le_mul_of_nonpos_right h1 hx)⟩
  have e2 : ∀ x : Int, (x * c ≤ x * j ∨ x * d ≤ x * j) ∧ (x * j ≤ x * c ∨ x * j ≤ x * d) := fun x => by
    rcases Int.le_total 0 x with hx | hx
    · exact ⟨Or.inl (Int.mul_le_mul_of_nonneg_left h3 hx), Or.inr (Int.mul_le_mul_of_nonneg_left h4 hx)⟩
    · exact ⟨Or.inr (Int.mul_le_mul_of_nonpos_left hx h4), Or.inl (Int.mul_le_mul_of_nonpos_left hx h3)⟩
  have f1 := e1 j
  have f2 := e2 a
  have f3 := e2 b
  unfold ai_mn ai_mx
  omega
def ai_mul : List ai_e → List ai_b → ai_v → ai_v → Option ai_q := ai_bop fun p q => some (ai_mn (p.1 * q.1) (p.1 * q.2) (p.2 * q.1) (p.2 * q.2), ai_mx (p.1 * q.1) (p.1 * q.2) (p.2 * q.1) (p.2 * q.2))
theorem ai_mul_ok : ai_O2 ai_mul (fun _ => True) (fun i j => i * j) := ai_bop_ok fun p q w i j a1 a2 b1 b2 hw => by
  cases hw
  refine ⟨trivial, fun hr => ?_⟩
  have c3 := ai_irs hr
  have c4 := ai_prod a1 a2 b1 b2
  dsimp only at c3 ⊢
  rw [ai_mulI] <;> omega
def ai_top : List ai_e → List ai_b → ai_v → ai_v → Option ai_q := ai_bop fun _ _ => some (-2147483648, 2147483647)
theorem ai_top_ok (f : Int32 → Int32 → Int32) : ai_O2 ai_top (fun _ => True) f := ai_bop_ok fun p q w i j a1 a2 b1 b2 hw => by
  cases hw
  exact ⟨trivial, fun _ => ai_irg _⟩
/-- and: at most the one that isn't negative -/
theorem ai_andI (i j : Int32) (h : 0 ≤ j.toInt) : 0 ≤ (i &&& j).toInt ∧ (i &&& j).toInt ≤ j.toInt := by
  have h : 0 ≤ j.toBitVec.toInt := h
  show 0 ≤ (i.toBitVec &&& j.toBitVec).toInt ∧ (i.toBitVec &&& j.toBitVec).toInt ≤ j.toBitVec.toInt
  generalize i.toBitVec = x at h ⊢
  generalize j.toBitVec = y at h ⊢
  have hy : y.toNat < 2147483648 := by
    rw [BitVec.toInt_eq_toNat_cond] at h
    split at h <;> omega
  have hle : (x &&& y).toNat ≤ y.toNat := by
    rw [BitVec.toNat_and]
    exact Nat.and_le_right
  rw [BitVec.toInt_eq_toNat_cond, BitVec.toInt_eq_toNat_cond]
  rw [if_pos (by omega), if_pos (by omega)]
  omega
def ai_and : List ai_e → List ai_b → ai_v → ai_v → Option ai_q := ai_bop fun _ q => if 0 ≤ q.1 then some (0, q.2) else some (-2147483648, 2147483647)
theorem ai_and_ok : ai_O2 ai_and (fun _ => True) (fun i j => i &&& j) := ai_bop_ok fun p q w i j a1 a2 b1 b2 hw => by
  refine ⟨trivial, fun _ => ?_⟩
  split at hw
  · cases hw
    have := ai_andI i j (by omega)
    dsimp only
    omega
  · cases hw
    exact ai_irg _
/-- quotient and rest: the divisor's bounds leave 0 out -/
theorem ai_divI (i j : Int32) (h1 : 0 ≤ i.toInt) (h2 : 0 < j.toInt) : 0 ≤ (i / j).toInt ∧ (i / j).toInt ≤ i.toInt := by
  have e : (i / j).toInt = i.toInt.tdiv j.toInt := by
    rw [Int32.toInt_div, Int.bmod_eq_of_le]
    · have := Int.tdiv_nonneg h1 (Int.le_of_lt h2)
      omega
    · have := Int.tdiv_le_self j.toInt h1
      have := ai_irg i
      omega
  rw [e]
  exact ⟨Int.tdiv_nonneg h1 (Int.le_of_lt h2), Int.tdiv_le_self _ h1⟩
theorem ai_remI (i j : Int32) (h1 : 0 ≤ i.toInt) (h2 : 0 < j.toInt) : 0 ≤ (i - i / j * j).toInt ∧ (i - i / j * j).toInt < j.toInt := by
  rw [rem_toInt]
  have := tmod_bounds (a := i.toInt) h2
  have h3 := Int.tmod_nonneg j.toInt h1
  omega
theorem ai_ne0 {j : Int32} {a b : Int} (h1 : a ≤ j.toInt) (h2 : j.toInt ≤ b) (h : 0 < a ∨ b < 0) : ¬ j = 0 := by
  rintro rfl
  have : (0 : Int32).toInt = 0 := rfl
  omega
def ai_div : List ai_e → List ai_b → ai_v → ai_v → Option ai_q := ai_bop fun p q => if 0 < q.1 ∨ q.2 < 0 then (if 0 ≤ p.1 ∧ 0 < q.1 then some (0, p.2) else some (-2147483648, 2147483647)) else none
theorem ai_div_ok : ai_O2 ai_div (fun j => ¬ j = 0) (fun i j => i / j) := ai_bop_ok fun p q w i j a1 a2 b1 b2 hw => by
  split at hw
  · rename_i hc
    refine ⟨ai_ne0 b1 b2 hc, fun _ => ?_⟩
    split at hw
    · cases hw
      have := ai_divI i j (by omega) (by omega)
      dsimp only
      omega
    · cases hw
      exact ai_irg _
  · cases hw
def ai_rem : List ai_e → List ai_b → ai_v → ai_v → Option ai_q := ai_bop fun p q => if 0 < q.1 ∨ q.2 < 0 then (if 0 ≤ p.1 ∧ 0 < q.1 then some (0, q.2 - 1) else some (-2147483648, 2147483647)) else none
theorem ai_rem_ok : ai_O2 ai_rem (fun j => ¬ j = 0) (fun i j => i - i / j * j) := ai_bop_ok fun p q w i j a1 a2 b1 b2 hw => by
  split at hw
  · rename_i hc
    refine ⟨ai_ne0 b1 b2 hc, fun _ => ?_⟩
    split at hw
    · cases hw
      have := ai_remI i j (by omega) (by omega)
      dsimp only
      omega
    · cases hw
      exact ai_irg _
  · cases hw
/-- the smaller, the greater of two -/
def ai_min : List ai_e → List ai_b → ai_v → ai_v → Option ai_q := ai_bop fun p q => some (min p.1 q.1, min p.2 q.2)
theorem ai_min_ok : ai_O2 ai_min (fun _ => True) (fun i j => if j < i then j else i) := ai_bop_ok fun p q w i j a1 a2 b1 b2 hw => by
  cases hw
  refine ⟨trivial, fun _ => ?_⟩
  dsimp only
  by_cases h : j < i
  · rw [if_pos h]
    rw [Int32.lt_iff_toInt_lt] at h
    omega
  · rw [if_neg h]
    rw [Int32.lt_iff_toInt_lt] at h
    omega
def ai_max : List ai_e → List ai_b → ai_v → ai_v → Option ai_q := ai_bop fun p q => some (max p.1 q.1, max p.2 q.2)
theorem ai_max_ok : ai_O2 ai_max (fun _ => True) (fun i j => if i < j then j else i) := ai_bop_ok fun p q w i j a1 a2 b1 b2 hw => by
  cases hw
  refine ⟨trivial, fun _ => ?_⟩
  dsimp only
  by_cases h : i < j
  · rw [if_pos h]
    rw [Int32.lt_iff_toInt_lt] at h
    omega
  · rw [if_neg h]
    rw [Int32.lt_iff_toInt_lt] at h
    omega
