/-! the numbers' steps -/
theorem ai_addI {i j : Int32} (h1 : -2147483648 ≤ i.toInt + j.toInt) (h2 : i.toInt + j.toInt ≤ 2147483647) : (i + j).toInt = i.toInt + j.toInt := by
  rw [Int32.toInt_add, Int.bmod_eq_of_le] <;> omega
theorem ai_subI {i j : Int32} (h1 : -2147483648 ≤ i.toInt - j.toInt) (h2 : i.toInt - j.toInt ≤ 2147483647) : (i - j).toInt = i.toInt - j.toInt := by
  rw [Int32.toInt_sub, Int.bmod_eq_of_le] <;> omega
theorem ai_mulI {i j : Int32} (h1 : -2147483648 ≤ i.toInt * j.toInt) (h2 : i.toInt * j.toInt ≤ 2147483647) : (i * j).toInt = i.toInt * j.toInt := by
  rw [Int32.toInt_mul, Int.bmod_eq_of_le] <;> omega
theorem ai_addL {i j : Int64} (h1 : -9223372036854775808 ≤ i.toInt + j.toInt) (h2 : i.toInt + j.toInt ≤ 9223372036854775807) : (i + j).toInt = i.toInt + j.toInt := by
  rw [Int64.toInt_add, Int.bmod_eq_of_le] <;> omega
theorem ai_irs {lo hi : Int} (h : ai_ir lo hi = true) : -2147483648 ≤ lo ∧ hi ≤ 2147483647 := by
  unfold ai_ir at h
  simpa using h
theorem ai_lrs {lo hi : Int} (h : ai_lr lo hi = true) : -9223372036854775808 ≤ lo ∧ hi ≤ 9223372036854775807 := by
  unfold ai_lr at h
  simpa using h
abbrev ai_q : Type := List ai_e × List ai_b × ai_v
/-- a step of two ints to a value -/
def ai_O2 (F : List ai_e → List ai_b → ai_v → ai_v → Option ai_q) (side : Int32 → Prop) (f : Int32 → Int32 → Int32) : Prop :=
  ∀ (w0 : va_W) (ad : List Nat) (b : Nat) (r : List Int) (en : List ai_e) (sb : List ai_b) (x y : ai_v) (vx vy : Value) (q : ai_q), ai_ok r en → ai_sb w0 r sb → ai_dv ad b r x vx → ai_dv ad b r y vy → F en sb x y = some q →
    ∃ i j : Int32, vx = .int i ∧ vy = .int j ∧ side j ∧ ∃ r', ai_x r r' ∧ ai_ok r' q.1 ∧ ai_sb w0 r' q.2.1 ∧ ai_dv ad b r' q.2.2 (.int (f i j))
/-- out of bounds alone -/
def ai_bop (g : Int × Int → Int × Int → Option (Int × Int)) (en : List ai_e) (sb : List ai_b) (x y : ai_v) : Option ai_q :=
  (ai_i en x).bind fun p => (ai_i en y).bind fun q => (g p q).map fun w => ((ai_mi en w.1 w.2).1, sb, (ai_mi en w.1 w.2).2)
theorem ai_bop_ok {g : Int × Int → Int × Int → Option (Int × Int)} {side : Int32 → Prop} {f : Int32 → Int32 → Int32}
    (hg : ∀ (p q w : Int × Int) (i j : Int32), p.1 ≤ i.toInt → i.toInt ≤ p.2 → q.1 ≤ j.toInt → j.toInt ≤ q.2 → g p q = some w → side j ∧ (ai_ir w.1 w.2 = true → w.1 ≤ (f i j).toInt ∧ (f i j).toInt ≤ w.2)) : ai_O2 (ai_bop g) side f := by
  intro w0 ad b r en sb x y vx vy q h hs hx hy hF
  unfold ai_bop at hF
  obtain ⟨px, h1, hF⟩ := Option.bind_eq_some_iff.mp hF
  obtain ⟨py, h2, hF⟩ := Option.bind_eq_some_iff.mp hF
  obtain ⟨w, h3, rfl⟩ := Option.map_eq_some_iff.mp hF
  obtain ⟨-, zx, i, -, rfl, -, a1, a2⟩ := ai_i_ok h hx h1
  obtain ⟨-, zy, j, -, rfl, -, b1, b2⟩ := ai_i_ok h hy h2
  obtain ⟨s1, s2⟩ := hg px py w i j a1 a2 b1 b2 h3
  obtain ⟨r', e1, e2, e3⟩ := ai_mi_ok (ad := ad) (b := b) (lo := w.1) (hi := w.2) h (f i j) s2
  exact ⟨i, j, rfl, rfl, s1, r', e1, e2, hs.mono e1, e3⟩
theorem ai_modI {i j : Int32} {t : Int} (h : (i.toInt + j.toInt - t) % 4294967296 = 0) (h1 : -2147483648 ≤ t) (h2 : t ≤ 2147483647) : (i + j).toInt = t := by
  rw [Int32.toInt_add, Int.bmod_def]
  omega
/-- addition keeps names; sums that may turn over are told, and found again -/
def ai_add (en : List ai_e) (sb : List ai_b) (x y : ai_v) : Option ai_q :=
  (ai_i en x).bind fun p => (ai_i en y).bind fun q =>
    if q.1 = q.2 ∧ ai_ir (p.1 + q.1) (p.2 + q.2) = true then some (en, sb, (1, x.2.1, 0, x.2.2.2 + q.1))
    else if p.1 = p.2 ∧ ai_ir (p.1 + q.1) (p.2 + q.2) = true then some (en, sb, (1, y.2.1, 0, y.2.2.2 + p.1))
    else match sb.find? (fun k => decide (k.1 = 1) && decide (k.2.1 = x.2.1) && decide (k.2.2.1 = y.2.1) && decide (k.2.2.2.2 = x.2.2.2 + y.2.2.2) && (en[k.2.2.2.1]?).any (fun e => ai_ir e.1 e.2.1)) with
      | some k => some (en, sb, (1, k.2.2.2.1, 0, 0))
      | none => (match sb.find? (fun j => decide (j.1 = 2) && decide (j.2.1 = x.2.1) && decide (j.2.2.1 = y.2.1) && (en[j.2.2.2.1]?).any (fun e => ai_ir (e.1 + (x.2.2.2 + y.2.2.2 - j.2.2.2.2)) (e.2.1 + (x.2.2.2 + y.2.2.2 - j.2.2.2.2)))) with
      | some j => some (en, sb, (1, j.2.2.2.1, 0, x.2.2.2 + y.2.2.2 - j.2.2.2.2))
      | none => (match (sb.find? fun k => decide (k.1 = 1) && decide (k.2.1 = 0) && decide (k.2.2.2.1 = x.2.1)).bind fun k => (sb.find? fun j => decide (j.1 = 2) && decide (j.2.1 = k.2.2.1) && decide (j.2.2.1 = y.2.1) && ai_z en && (en[j.2.2.2.1]?).any (fun e => ai_ir (e.1 + (k.2.2.2.2 + x.2.2.2 + y.2.2.2 - j.2.2.2.2)) (e.2.1 + (k.2.2.2.2 + x.2.2.2 + y.2.2.2 - j.2.2.2.2)))).map fun j => (k, j) with
        | some (k, j) => some (en, sb, (1, j.2.2.2.1, 0, k.2.2.2.2 + x.2.2.2 + y.2.2.2 - j.2.2.2.2))
        | none => if ai_ir (p.1 + q.1) (p.2 + q.2) = true then some (ai_nu en (p.1 + q.1) (p.2 + q.2), (1, x.2.1, y.2.1, en.length, x.2.2.2 + y.2.2.2) :: sb, (1, en.length, 0, 0))
          else some (ai_nu en (-2147483648) 2147483647, (1, x.2.1, y.2.1, en.length, x.2.2.2 + y.2.2.2) :: sb, (1, en.length, 0, 0))))
theorem ai_any {en : List ai_e} {k : Nat} {f : ai_e → Bool} {r : List Int} {z : Int} (h : ai_ok r en) (hz : r[k]? = some z) (ha : (en[k]?).any f = true) : ∃ e, f e = true ∧ e.1 ≤ z ∧ z ≤ e.2.1 := by
  obtain ⟨e, he, h1, h2, -⟩ := h.get hz
  rw [he] at ha
  exact ⟨e, ha, h1, h2⟩
theorem ai_add_ok : ai_O2 ai_add (fun _ => True) (fun i j => i + j) := by
  intro w0 ad b r en sb x y vx vy q h hs hx hy hF
  unfold ai_add at hF
  obtain ⟨px, h1, hF⟩ := Option.bind_eq_some_iff.mp hF
  obtain ⟨py, h2, hF⟩ := Option.bind_eq_some_iff.mp hF
  obtain ⟨-, zx, i, gx, rfl, kx, a1, a2⟩ := ai_i_ok h hx h1
  obtain ⟨-, zy, j, gy, rfl, ky, b1, b2⟩ := ai_i_ok h hy h2
  refine ⟨i, j, rfl, rfl, trivial, ?_⟩
  have fresh : ∀ lo hi : Int, lo ≤ (i + j).toInt → (i + j).toInt ≤ hi → ∃ r', ai_x r r' ∧ ai_ok r' (ai_nu en lo hi) ∧ ai_sb w0 r' ((1, x.2.1, y.2.1, en.length, x.2.2.2 + y.2.2.2) :: sb) ∧ ai_dv ad b r' (1, en.length, 0, 0) (.int (i + j)) := fun lo hi l1 l2 => by
    refine ⟨r ++ [(i + j).toInt], ai_x.push, h.nu l1 l2, ?_, Or.inr (Or.inl ⟨rfl, (i + j).toInt, _, ai_last h.1, rfl, by show (i + j).toInt = (i + j).toInt + 0; omega⟩)⟩
    intro k hk
    rcases List.mem_cons.mp hk with rfl | hk
    · refine ⟨zx, zy, (i + j).toInt, ai_x.push.at gx, ai_x.push.at gy, ai_last h.1, fun q => (by cases q), fun _ => ?_, fun q => (by cases q), fun q => (by cases q), fun q => (by cases q), fun h => absurd (show (100 : Nat) ≤ 1 from h) (by decide)⟩
      show (zx + zy + (x.2.2.2 + y.2.2.2) - (i + j).toInt) % 4294967296 = 0
      rw [Int32.toInt_add, Int.bmod_def]
      omega
    · exact hs.mono ai_x.push k hk
  split at hF
  · rename_i hc
    obtain ⟨c1, c2⟩ := hc
    have c3 := ai_irs c2
    cases hF
    refine ⟨r, ai_x.rf, h, hs, Or.inr (Or.inl ⟨rfl, zx, _, gx, rfl, ?_⟩)⟩
    show (i + j).toInt = zx + (x.2.2.2 + py.1)
    rw [ai_addI] <;> omega
  · split at hF
    · rename_i hc
      obtain ⟨c1, c2⟩ := hc
      have c3 := ai_irs c2
      cases hF
      refine ⟨r, ai_x.rf, h, hs, Or.inr (Or.inl ⟨rfl, zy, _, gy, rfl, ?_⟩)⟩
      show (i + j).toInt = zy + (y.2.2.2 + px.1)
      rw [ai_addI] <;> omega
    · split at hF
      · rename_i k hk
        cases hF
        have hm := List.mem_of_find?_eq_some hk
        have hp := List.find?_some hk
        simp only [Bool.and_eq_true, decide_eq_true_eq] at hp
        obtain ⟨⟨⟨⟨p1, p2⟩, p3⟩, p4⟩, p5⟩ := hp
        obtain ⟨za, zb, zr, e1, e2, e3, -, e4, -⟩ := hs k hm
        rw [p2, gx] at e1
        rw [p3, gy] at e2
        cases e1
        cases e2
        have e5 := e4 p1
        obtain ⟨e, f1, f2, f3⟩ := ai_any h e3 p5
        have f4 := ai_irs f1
        refine ⟨r, ai_x.rf, h, hs, Or.inr (Or.inl ⟨rfl, zr, _, e3, rfl, ?_⟩)⟩
        show (i + j).toInt = zr + 0
        rw [ai_modI (t := zr)] <;> omega
      · split at hF
        · rename_i jj hj1
          cases hF
          have hp2 := List.find?_some hj1
          simp only [Bool.and_eq_true, decide_eq_true_eq] at hp2
          obtain ⟨⟨⟨q1, q2⟩, q3⟩, q5⟩ := hp2
          obtain ⟨ya, yb, yr, f1, f2, f3, -, -, f4, -⟩ := hs jj (List.mem_of_find?_eq_some hj1)
          rw [q2, gx] at f1
          cases f1
          rw [q3, gy] at f2
          cases f2
          have f5 := f4 q1
          obtain ⟨e, w1, w2, w3⟩ := ai_any h f3 q5
          have w4 := ai_irs w1
          refine ⟨r, ai_x.rf, h, hs, Or.inr (Or.inl ⟨rfl, yr, _, f3, rfl, ?_⟩)⟩
          show (i + j).toInt = yr + (x.2.2.2 + y.2.2.2 - jj.2.2.2.2)
          rw [ai_modI (t := yr + (x.2.2.2 + y.2.2.2 - jj.2.2.2.2))] <;> omega
        split at hF
        · rename_i k0 j0 hk
          obtain ⟨k, hk1, hk2⟩ := Option.bind_eq_some_iff.mp hk
          obtain ⟨jj, hj1, hj2⟩ := Option.map_eq_some_iff.mp hk2
          cases hj2
          cases hF
          have hp := List.find?_some hk1
          have hp2 := List.find?_some hj1
          simp only [Bool.and_eq_true, decide_eq_true_eq] at hp hp2
          obtain ⟨⟨p1, p2⟩, p3⟩ := hp
          obtain ⟨⟨⟨⟨q1, q2⟩, q3⟩, q4⟩, q5⟩ := hp2
          obtain ⟨za, zb, zr, e1, e2, e3, -, e4, -⟩ := hs k0 (List.mem_of_find?_eq_some hk1)
          obtain ⟨ya, yb, yr, f1, f2, f3, -, -, f4, -⟩ := hs j0 (List.mem_of_find?_eq_some hj1)
          rw [p2, ai_z_ok h q4] at e1
          cases e1
          rw [p3, gx] at e3
          cases e3
          rw [q2, e2] at f1
          cases f1
          rw [q3, gy] at f2
          cases f2
          have e5 := e4 p1
          have f5 := f4 q1
          obtain ⟨e, w1, w2, w3⟩ := ai_any h f3 q5
          have w4 := ai_irs w1
          refine ⟨r, ai_x.rf, h, hs, Or.inr (Or.inl ⟨rfl, yr, _, f3, rfl, ?_⟩)⟩
          show (i + j).toInt = yr + (k0.2.2.2.2 + x.2.2.2 + y.2.2.2 - j0.2.2.2.2)
          rw [ai_modI (t := yr + (k0.2.2.2.2 + x.2.2.2 + y.2.2.2 - j0.2.2.2.2))] <;> omega
        · split at hF
          · rename_i hr
            have c3 := ai_irs hr
            cases hF
            exact fresh _ _ (by rw [ai_addI] <;> omega) (by rw [ai_addI] <;> omega)
          · cases hF
            exact fresh _ _ (ai_irg _).1 (ai_irg _).2
/-- a sum of longs is told -/
def ai_lad (en : List ai_e) (sb : List ai_b) (x y : ai_v) : Option ai_q :=
  (ai_l en x).bind fun p => (ai_l en y).bind fun q =>
    if ai_lr (p.1 + q.1) (p.2 + q.2) = true then some (ai_nu en (p.1 + q.1) (p.2 + q.2), (2, x.2.1, y.2.1, en.length, x.2.2.2 + y.2.2.2) :: sb, (2, en.length, 0, 0))
    else some (ai_nu en (-9223372036854775808) 9223372036854775807, sb, (2, en.length, 0, 0))
theorem ai_lad_ok (w0 : va_W) (ad : List Nat) (b : Nat) (r : List Int) (en : List ai_e) (sb : List ai_b) (x y : ai_v) (vx vy : Value) (q : ai_q) (h : ai_ok r en) (hs : ai_sb w0 r sb) (hx : ai_dv ad b r x vx) (hy : ai_dv ad b r y vy) (hF : ai_lad en sb x y = some q) :
    ∃ i j : Int64, vx = .long i ∧ vy = .long j ∧ ∃ r', ai_x r r' ∧ ai_ok r' q.1 ∧ ai_sb w0 r' q.2.1 ∧ ai_dv ad b r' q.2.2 (.long (i + j)) := by
  unfold ai_lad at hF
  obtain ⟨px, h1, hF⟩ := Option.bind_eq_some_iff.mp hF
  obtain ⟨py, h2, hF⟩ := Option.bind_eq_some_iff.mp hF
  obtain ⟨-, zx, i, gx, rfl, kx, a1, a2⟩ := ai_l_ok h hx h1
  obtain ⟨-, zy, j, gy, rfl, ky, b1, b2⟩ := ai_l_ok h hy h2
  refine ⟨i, j, rfl, rfl, ?_⟩
  split at hF
  · rename_i hr
    have c3 := ai_lrs hr
    have es : (i + j).toInt = i.toInt + j.toInt := ai_addL (by omega) (by omega)
    cases hF
    refine ⟨r ++ [(i + j).toInt], ai_x.push, h.nu (by omega) (by omega), ?_, Or.inr (Or.inr (Or.inl ⟨rfl, (i + j).toInt, _, ai_last h.1, rfl, by show (i + j).toInt = (i + j).toInt + 0; omega⟩))⟩
    intro k hk
    rcases List.mem_cons.mp hk with rfl | hk
    · exact ⟨zx, zy, (i + j).toInt, ai_x.push.at gx, ai_x.push.at gy, ai_last h.1, fun q => (by cases q), fun q => (by cases q), fun _ => (by show zx + zy + (x.2.2.2 + y.2.2.2) = (i + j).toInt; omega), fun q => (by cases q), fun q => (by cases q), fun h => absurd (show (100 : Nat) ≤ 2 from h) (by decide)⟩
    · exact hs.mono ai_x.push k hk
  · cases hF
    exact ⟨r ++ [(i + j).toInt], ai_x.push, h.nu (ai_lrg _).1 (ai_lrg _).2, hs.mono ai_x.push, Or.inr (Or.inr (Or.inl ⟨rfl, (i + j).toInt, _, ai_last h.1, rfl, by show (i + j).toInt = (i + j).toInt + 0; omega⟩))⟩
/-- subtraction: by a constant it keeps the name; else what was told of the same two names -/
def ai_sub (en : List ai_e) (sb : List ai_b) (x y : ai_v) : Option ai_q :=
  (ai_i en x).bind fun p => (ai_i en y).bind fun q =>
    if ai_ir (p.1 - q.2) (p.2 - q.1) = true then
      if q.1 = q.2 then some (en, sb, (1, x.2.1, 0, x.2.2.2 - q.1))
      else match sb.find? (fun k => decide (k.1 = 0) && decide (k.2.1 = x.2.1) && decide (k.2.2.1 = y.2.1)) with
        | some k => some (en, sb, (1, k.2.2.2.1, 0, k.2.2.2.2 + x.2.2.2 - y.2.2.2))
        | none => some (ai_nu en (p.1 - q.2) (p.2 - q.1), (0, x.2.1, y.2.1, en.length, y.2.2.2 - x.2.2.2) :: sb, (1, en.length, 0, 0))
    else some ((ai_mi en (-2147483648) 2147483647).1, sb, (ai_mi en (-2147483648) 2147483647).2)
theorem ai_sub_ok : ai_O2 ai_sub (fun _ => True) (fun i j => i - j) := by
  intro w0 ad b r en sb x y vx vy q h hs hx hy hF
  unfold ai_sub at hF
  obtain ⟨px, h1, hF⟩ := Option.bind_eq_some_iff.mp hF
  obtain ⟨py, h2, hF⟩ := Option.bind_eq_some_iff.mp hF
  obtain ⟨-, zx, i, gx, rfl, kx, a1, a2⟩ := ai_i_ok h hx h1
  obtain ⟨-, zy, j, gy, rfl, ky, b1, b2⟩ := ai_i_ok h hy h2
  refine ⟨i, j, rfl, rfl, trivial, ?_⟩
  split at hF
  · rename_i hc
    have c3 := ai_irs hc
    have es : (i - j).toInt = i.toInt - j.toInt := ai_subI (by omega) (by omega)
    split at hF
    · cases hF
      refine ⟨r, ai_x.rf, h, hs, Or.inr (Or.inl ⟨rfl, zx, _, gx, rfl, ?_⟩)⟩
      show (i - j).toInt = zx + (x.2.2.2 - py.1)
      omega
    · split at hF
      · rename_i k hk
        cases hF
        have hm := List.mem_of_find?_eq_some hk
        have hp := List.find?_some hk
        simp only [Bool.and_eq_true, decide_eq_true_eq] at hp
        obtain ⟨za, zb, zr, e1, e2, e3, e4, -⟩ := hs k hm
        rw [hp.1.2, gx] at e1
        rw [hp.2, gy] at e2
        cases e1
        cases e2
        have e5 := e4 hp.1.1
        refine ⟨r, ai_x.rf, h, hs, Or.inr (Or.inl ⟨rfl, zr, _, e3, rfl, ?_⟩)⟩
        show (i - j).toInt = zr + (k.2.2.2.2 + x.2.2.2 - y.2.2.2)
        omega
      · cases hF
        refine ⟨r ++ [(i - j).toInt], ai_x.push, h.nu (by omega) (by omega), ?_, Or.inr (Or.inl ⟨rfl, (i - j).toInt, _, ai_last h.1, rfl, by show (i - j).toInt = (i - j).toInt + 0; omega⟩)⟩
        intro k hk
        rcases List.mem_cons.mp hk with rfl | hk
        · exact ⟨zx, zy, (i - j).toInt, ai_x.push.at gx, ai_x.push.at gy, ai_last h.1, fun _ => (by show zx - zy = (i - j).toInt + (y.2.2.2 - x.2.2.2); omega), fun q => (by cases q), fun q => (by cases q), fun q => (by cases q), fun q => (by cases q), fun h => absurd (show (100 : Nat) ≤ 0 from h) (by decide)⟩
        · exact hs.mono ai_x.push k hk
  · cases hF
    obtain ⟨r', e1, e2, e3⟩ := ai_mi_ok (ad := ad) (b := b) (lo := -2147483648) (hi := 2147483647) h (i - j) (fun _ => ai_irg _)
    exact ⟨r', e1, e2, hs.mono e1, e3⟩
/-- products, and what is only known to be an int -/
def ai_mn (a b c d : Int) : Int := min (min a b) (min c d)
def ai_mx (a b c d : Int) : Int := max (max a b) (max c d)
theorem ai_prod {a b c d i j : Int} (h1 : a ≤ i) (h2 : i ≤ b) (h3 : c ≤ j) (h4 : j ≤ d) : ai_mn (a * c) (a * d) (b * c) (b * d) ≤ i * j ∧ i * j ≤ ai_mx (a * c) (a * d) (b * c) (b * d) := by
  have e1 : ∀ x : Int, (a * x ≤ i * x ∨ b * x ≤ i * x) ∧ (i * x ≤ a * x ∨ i * x ≤ b * x) := fun x => by
    rcases Int.le_total 0 x with hx | hx
    · exact ⟨Or.inl (Int.mul_le_mul_of_nonneg_right h1 hx), Or.inr (Int.mul_le_mul_of_nonneg_right h2 hx)⟩
    · exact ⟨Or.inr (Int.mul_le_mul_of_nonpos_right h2 hx), Or.inl (Int.mul_le_mul_of_nonpos_right h1 hx)⟩
  have e2 : ∀ x : Int, (x * c ≤ x * j ∨ x * d ≤ x * j) ∧ (x * j ≤ x * c ∨ x * j ≤ x * d) := fun x => by
    rcases Int.le_total 0 x with hx | hx
    · exact ⟨Or.inl (Int.mul_le_mul_of_nonneg_left h3 hx), Or.inr (Int.mul_le_mul_of_nonneg_left h4 hx)⟩
    · exact ⟨Or.inr (Int.mul_le_mul_of_nonpos_left hx h4), Or.inl (Int.mul_le_mul_of_nonpos_left hx h3)⟩
  have f1 := e1 j
  have f2 := e2 a
  have f3 := e2 b
  unfold ai_mn ai_mx
  omega
def ai_mul : List ai_e → List ai_b → ai_v → ai_v → Option ai_q := ai_bop fun p q => some (ai_mn (p.1 * q.1) (p.1 * q.2) (p.2 * q.1) (p.2 * q.2), ai_mx (p.1 * q.1) (p.1 * q.2) (p.2 * q.1) (p.2 * q.2))
theorem ai_mul_ok : ai_O2 ai_mul (fun _ => True) (fun i j => i * j) := ai_bop_ok fun p q w i j a1 a2 b1 b2 hw => by
  cases hw
  refine ⟨trivial, fun hr => ?_⟩
  have c3 := ai_irs hr
  have c4 := ai_prod a1 a2 b1 b2
  dsimp only at c3 ⊢
  rw [ai_mulI] <;> omega
def ai_top : List ai_e → List ai_b → ai_v → ai_v → Option ai_q := ai_bop fun _ _ => some (-2147483648, 2147483647)
theorem ai_top_ok (f : Int32 → Int32 → Int32) : ai_O2 ai_top (fun _ => True) f := ai_bop_ok fun p q w i j a1 a2 b1 b2 hw => by
  cases hw
  exact ⟨trivial, fun _ => ai_irg _⟩
/-- and: at most the one that isn't negative -/
theorem ai_andI (i j : Int32) (h : 0 ≤ j.toInt) : 0 ≤ (i &&& j).toInt ∧ (i &&& j).toInt ≤ j.toInt := by
  have h : 0 ≤ j.toBitVec.toInt := h
  show 0 ≤ (i.toBitVec &&& j.toBitVec).toInt ∧ (i.toBitVec &&& j.toBitVec).toInt ≤ j.toBitVec.toInt
  generalize i.toBitVec = x at h ⊢
  generalize j.toBitVec = y at h ⊢
  have hy : y.toNat < 2147483648 := by
    rw [BitVec.toInt_eq_toNat_cond] at h
    split at h <;> omega
  have hle : (x &&& y).toNat ≤ y.toNat := by
    rw [BitVec.toNat_and]
    exact Nat.and_le_right
  rw [BitVec.toInt_eq_toNat_cond, BitVec.toInt_eq_toNat_cond]
  rw [if_pos (by omega), if_pos (by omega)]
  omega
def ai_and : List ai_e → List ai_b → ai_v → ai_v → Option ai_q := ai_bop fun _ q => if 0 ≤ q.1 then some (0, q.2) else some (-2147483648, 2147483647)
theorem ai_and_ok : ai_O2 ai_and (fun _ => True) (fun i j => i &&& j) := ai_bop_ok fun p q w i j a1 a2 b1 b2 hw => by
  refine ⟨trivial, fun _ => ?_⟩
  split at hw
  · cases hw
    have := ai_andI i j (by omega)
    dsimp only
    omega
  · cases hw
    exact ai_irg _
/-- quotient and rest: the divisor's bounds leave 0 out -/
theorem ai_divI (i j : Int32) (h1 : 0 ≤ i.toInt) (h2 : 0 < j.toInt) : 0 ≤ (i / j).toInt ∧ (i / j).toInt ≤ i.toInt := by
  have e : (i / j).toInt = i.toInt.tdiv j.toInt := by
    rw [Int32.toInt_div, Int.bmod_eq_of_le]
    · have := Int.tdiv_nonneg h1 (Int.le_of_lt h2)
      omega
    · have := Int.tdiv_le_self j.toInt h1
      have := ai_irg i
      omega
  rw [e]
  exact ⟨Int.tdiv_nonneg h1 (Int.le_of_lt h2), Int.tdiv_le_self _ h1⟩
theorem ai_remI (i j : Int32) (h1 : 0 ≤ i.toInt) (h2 : 0 < j.toInt) : 0 ≤ (i - i / j * j).toInt ∧ (i - i / j * j).toInt < j.toInt := by
  rw [rem_toInt]
  have := tmod_bounds (a := i.toInt) h2
  have h3 := Int.tmod_nonneg j.toInt h1
  omega
theorem ai_ne0 {j : Int32} {a b : Int} (h1 : a ≤ j.toInt) (h2 : j.toInt ≤ b) (h : 0 < a ∨ b < 0) : ¬ j = 0 := by
  rintro rfl
  have : (0 : Int32).toInt = 0 := rfl
  omega
def ai_divO : List ai_e → List ai_b → ai_v → ai_v → Option ai_q := ai_bop fun p q => if 0 < q.1 ∨ q.2 < 0 then (if 0 ≤ p.1 ∧ 0 < q.1 then some (0, p.2) else some (-2147483648, 2147483647)) else none
theorem ai_divO_ok : ai_O2 ai_divO (fun j => ¬ j = 0) (fun i j => i / j) := ai_bop_ok fun p q w i j a1 a2 b1 b2 hw => by
  split at hw
  · rename_i hc
    refine ⟨ai_ne0 b1 b2 hc, fun _ => ?_⟩
    split at hw
    · cases hw
      have := ai_divI i j (by omega) (by omega)
      dsimp only
      omega
    · cases hw
      exact ai_irg _
  · cases hw
/-- a fact of min (141), max (142), a quotient by a constant k (150 + k) -/
theorem fx_mmd {w0 : va_W} {r : List Int} {c a b v : Nat} {o za zb zr : Int} (hc : c = 141 ∨ c = 142 ∨ (150 ≤ c ∧ c < 200)) (ha : r[a]? = some za) (hb : r[b]? = some zb) (hv : r[v]? = some zr) (h1 : c = 141 → zr = min za (zb + o)) (h2 : c = 142 → zr = max za (zb + o)) (h3 : 150 ≤ c → zr = (za + o) / ((c - 150 : Nat) : Int)) {sb : List ai_b} (hs : ai_sb w0 r sb) : ai_sb w0 r ((c, a, b, v, o) :: sb) := by
  intro q hq
  rcases List.mem_cons.mp hq with rfl | hq
  · exact ⟨za, zb, zr, ha, hb, hv, fun h => absurd (show c = 0 from h) (by omega), fun h => absurd (show c = 1 from h) (by omega), fun h => absurd (show c = 2 from h) (by omega), fun h => absurd (show c = 4 from h) (by omega), fun h => absurd (show c = 5 from h) (by omega), fun _ => ⟨fun h => absurd (show 1000 ≤ c from h) (by omega), fun _ => ⟨za, zr, ha, hv, fun h => absurd (show c < 132 from h) (by omega), fun h => absurd (show 200 ≤ c from h) (by omega), fun h => absurd (show 500 ≤ c from h) (by omega), fun h => absurd (show c = 140 from h) (by omega), fun h => ⟨zb, hb, h1 h⟩, fun h => ⟨zb, hb, h2 h⟩, fun h _ => h3 h⟩, fun _ _ => ⟨fun h => absurd (show 300 ≤ c from h) (by omega), fun h => absurd (show 310 ≤ c from h) (by omega), fun h => absurd (show 320 ≤ c from h) (by omega), fun h => absurd (show 400 ≤ c from h) (by omega), fun h => absurd (show c = 330 from h) (by omega)⟩, fun h => absurd (show c = 350 from h) (by omega)⟩⟩
  · exact hs q hq
theorem ai_divE (i j : Int32) (h1 : 0 ≤ i.toInt) (h2 : 0 < j.toInt) : (i / j).toInt = i.toInt / j.toInt := by
  have e : (i / j).toInt = i.toInt.tdiv j.toInt := by
    rw [Int32.toInt_div, Int.bmod_eq_of_le]
    · have := Int.tdiv_nonneg h1 (Int.le_of_lt h2)
      omega
    · have := Int.tdiv_le_self j.toInt h1
      have := ai_irg i
      omega
  rw [e, Int.tdiv_eq_ediv_of_nonneg h1]
/-- a quotient by a constant is told -/
def ai_div (en : List ai_e) (sb : List ai_b) (x y : ai_v) : Option ai_q :=
  (ai_i en x).bind fun p => (ai_i en y).bind fun q =>
    if q.1 = q.2 ∧ 0 < q.1 ∧ q.1 < 50 ∧ 0 ≤ p.1 then (if p.1 = p.2 ∧ ai_z en = true then some (en, sb, (1, 0, 0, p.1 / q.1)) else some (ai_nu en (p.1 / q.1) (p.2 / q.1), (150 + q.1.toNat, x.2.1, x.2.1, en.length, x.2.2.2) :: sb, (1, en.length, 0, 0)))
    else ai_divO en sb x y
theorem ai_div_ok : ai_O2 ai_div (fun j => ¬ j = 0) (fun i j => i / j) := by
  intro w0 ad b r en sb x y vx vy q h hs hx hy hF
  unfold ai_div at hF
  obtain ⟨px, h1, hF⟩ := Option.bind_eq_some_iff.mp hF
  obtain ⟨py, h2, hF⟩ := Option.bind_eq_some_iff.mp hF
  split at hF
  · rename_i hc
    obtain ⟨c1, c2, c3, c4⟩ := hc
    obtain ⟨-, zx, i, gx, rfl, kx, a1, a2⟩ := ai_i_ok h hx h1
    obtain ⟨-, zy, j, gy, rfl, ky, b1, b2⟩ := ai_i_ok h hy h2
    have ej : j.toInt = py.1 := by omega
    have ed : (i / j).toInt = i.toInt / py.1 := by rw [← ej]; exact ai_divE i j (by omega) (by omega)
    have hj : ¬ j = 0 := ai_ne0 b1 b2 (Or.inl c2)
    split at hF
    · rename_i hz
      injection hF with hF
      subst hF
      refine ⟨i, j, rfl, rfl, hj, r, ai_x.rf, h, hs, Or.inr (Or.inl ⟨rfl, 0, _, ai_z_ok h hz.2, rfl, ?_⟩)⟩
      show (i / j).toInt = 0 + px.1 / py.1
      rw [ed, show i.toInt = px.1 by omega]
      omega
    · injection hF with hF
      subst hF
      have l1 : px.1 / py.1 ≤ (i / j).toInt := by rw [ed]; exact Int.ediv_le_ediv c2 a1
      have l2 : (i / j).toInt ≤ px.2 / py.1 := by rw [ed]; exact Int.ediv_le_ediv c2 a2
      refine ⟨i, j, rfl, rfl, hj, r ++ [(i / j).toInt], ai_x.push, h.nu l1 l2, fx_mmd (Or.inr (Or.inr ⟨by omega, by omega⟩)) (ai_x.push.at gx) (ai_x.push.at gx) (ai_last h.1) (fun h => absurd h (by omega)) (fun h => absurd h (by omega)) (fun _ => ?_) (hs.mono ai_x.push), Or.inr (Or.inl ⟨rfl, _, _, ai_last h.1, rfl, by show (i / j).toInt = (i / j).toInt + 0; omega⟩)⟩
      rw [ed, kx, show ((150 + py.1.toNat - 150 : Nat) : Int) = py.1 by omega]
  · exact ai_divO_ok w0 ad b r en sb x y vx vy q h hs hx hy hF
def ai_rem : List ai_e → List ai_b → ai_v → ai_v → Option ai_q := ai_bop fun p q => if 0 < q.1 ∨ q.2 < 0 then (if 0 ≤ p.1 ∧ 0 < q.1 then some (0, q.2 - 1) else some (-2147483648, 2147483647)) else none
theorem ai_rem_ok : ai_O2 ai_rem (fun j => ¬ j = 0) (fun i j => i - i / j * j) := ai_bop_ok fun p q w i j a1 a2 b1 b2 hw => by
  split at hw
  · rename_i hc
    refine ⟨ai_ne0 b1 b2 hc, fun _ => ?_⟩
    split at hw
    · cases hw
      have := ai_remI i j (by omega) (by omega)
      dsimp only
      omega
    · cases hw
      exact ai_irg _
  · cases hw
/-- the smaller, the greater of two: one of them where the bounds decide; else a new name, and it is told -/
theorem ai_minE (i j : Int32) : (if j < i then j else i).toInt = min i.toInt j.toInt := by
  by_cases h : j < i
  · rw [if_pos h]
    rw [Int32.lt_iff_toInt_lt] at h
    omega
  · rw [if_neg h]
    rw [Int32.lt_iff_toInt_lt] at h
    omega
theorem ai_maxE (i j : Int32) : (if i < j then j else i).toInt = max i.toInt j.toInt := by
  by_cases h : i < j
  · rw [if_pos h]
    rw [Int32.lt_iff_toInt_lt] at h
    omega
  · rw [if_neg h]
    rw [Int32.lt_iff_toInt_lt] at h
    omega
def ai_min (en : List ai_e) (sb : List ai_b) (x y : ai_v) : Option ai_q :=
  (ai_i en x).bind fun p => (ai_i en y).bind fun q =>
    if p.2 ≤ q.1 then some (en, sb, x) else if q.2 ≤ p.1 then some (en, sb, y)
    else some (ai_nu en (min p.1 q.1 - x.2.2.2) (min p.2 q.2 - x.2.2.2), (141, x.2.1, y.2.1, en.length, y.2.2.2 - x.2.2.2) :: sb, (1, en.length, 0, x.2.2.2))
theorem ai_min_ok : ai_O2 ai_min (fun _ => True) (fun i j => if j < i then j else i) := by
  intro w0 ad b r en sb x y vx vy q h hs hx hy hF
  unfold ai_min at hF
  obtain ⟨px, h1, hF⟩ := Option.bind_eq_some_iff.mp hF
  obtain ⟨py, h2, hF⟩ := Option.bind_eq_some_iff.mp hF
  obtain ⟨-, zx, i, gx, rfl, kx, a1, a2⟩ := ai_i_ok h hx h1
  obtain ⟨-, zy, j, gy, rfl, ky, b1, b2⟩ := ai_i_ok h hy h2
  have em := ai_minE i j
  split at hF
  · injection hF with hF
    subst hF
    have e : (if j < i then j else i) = i := Int32.toInt_inj.mp (by rw [em]; omega)
    refine ⟨i, j, rfl, rfl, trivial, r, ai_x.rf, h, hs, ?_⟩
    show ai_dv ad b r x (.int (if j < i then j else i))
    rw [e]
    exact hx
  · split at hF
    · injection hF with hF
      subst hF
      have e : (if j < i then j else i) = j := Int32.toInt_inj.mp (by rw [em]; omega)
      refine ⟨i, j, rfl, rfl, trivial, r, ai_x.rf, h, hs, ?_⟩
      show ai_dv ad b r y (.int (if j < i then j else i))
      rw [e]
      exact hy
    · injection hF with hF
      subst hF
      refine ⟨i, j, rfl, rfl, trivial, r ++ [(if j < i then j else i).toInt - x.2.2.2], ai_x.push, h.nu (by rw [em]; omega) (by rw [em]; omega), fx_mmd (Or.inl rfl) (ai_x.push.at gx) (ai_x.push.at gy) (ai_last h.1) (fun _ => by rw [em]; omega) (fun h => absurd h (by decide)) (fun h => absurd h (by decide)) (hs.mono ai_x.push), Or.inr (Or.inl ⟨rfl, _, _, ai_last h.1, rfl, ?_⟩)⟩
      show (if j < i then j else i).toInt = (if j < i then j else i).toInt - x.2.2.2 + x.2.2.2
      omega
def ai_max (en : List ai_e) (sb : List ai_b) (x y : ai_v) : Option ai_q :=
  (ai_i en x).bind fun p => (ai_i en y).bind fun q =>
    if q.2 ≤ p.1 then some (en, sb, x) else if p.2 ≤ q.1 then some (en, sb, y)
    else some (ai_nu en (max p.1 q.1 - x.2.2.2) (max p.2 q.2 - x.2.2.2), (142, x.2.1, y.2.1, en.length, y.2.2.2 - x.2.2.2) :: sb, (1, en.length, 0, x.2.2.2))
theorem ai_max_ok : ai_O2 ai_max (fun _ => True) (fun i j => if i < j then j else i) := by
  intro w0 ad b r en sb x y vx vy q h hs hx hy hF
  unfold ai_max at hF
  obtain ⟨px, h1, hF⟩ := Option.bind_eq_some_iff.mp hF
  obtain ⟨py, h2, hF⟩ := Option.bind_eq_some_iff.mp hF
  obtain ⟨-, zx, i, gx, rfl, kx, a1, a2⟩ := ai_i_ok h hx h1
  obtain ⟨-, zy, j, gy, rfl, ky, b1, b2⟩ := ai_i_ok h hy h2
  have em := ai_maxE i j
  split at hF
  · injection hF with hF
    subst hF
    have e : (if i < j then j else i) = i := Int32.toInt_inj.mp (by rw [em]; omega)
    refine ⟨i, j, rfl, rfl, trivial, r, ai_x.rf, h, hs, ?_⟩
    show ai_dv ad b r x (.int (if i < j then j else i))
    rw [e]
    exact hx
  · split at hF
    · injection hF with hF
      subst hF
      have e : (if i < j then j else i) = j := Int32.toInt_inj.mp (by rw [em]; omega)
      refine ⟨i, j, rfl, rfl, trivial, r, ai_x.rf, h, hs, ?_⟩
      show ai_dv ad b r y (.int (if i < j then j else i))
      rw [e]
      exact hy
    · injection hF with hF
      subst hF
      refine ⟨i, j, rfl, rfl, trivial, r ++ [(if i < j then j else i).toInt - x.2.2.2], ai_x.push, h.nu (by rw [em]; omega) (by rw [em]; omega), fx_mmd (Or.inr (Or.inl rfl)) (ai_x.push.at gx) (ai_x.push.at gy) (ai_last h.1) (fun h => absurd h (by decide)) (fun _ => by rw [em]; omega) (fun h => absurd h (by decide)) (hs.mono ai_x.push), Or.inr (Or.inl ⟨rfl, _, _, ai_last h.1, rfl, ?_⟩)⟩
      show (if i < j then j else i).toInt = (if i < j then j else i).toInt - x.2.2.2 + x.2.2.2
      omega
/-- a product by a constant is told -/
def ai_mulc (en : List ai_e) (sb : List ai_b) (x : ai_v) (p : Int × Int) (k : Int) : ai_q := (ai_nu en (p.1 * k) (p.2 * k), (500 + k.toNat, x.2.1, x.2.1, en.length, x.2.2.2) :: sb, (1, en.length, 0, 0))
def ai_mulF (en : List ai_e) (sb : List ai_b) (x y : ai_v) : Option ai_q :=
  (ai_i en x).bind fun p => (ai_i en y).bind fun q =>
    if q.1 = q.2 ∧ p.1 < p.2 ∧ 0 ≤ q.1 ∧ q.1 < 500 ∧ ai_ir (p.1 * q.1) (p.2 * q.1) = true then some (ai_mulc en sb x p q.1)
    else if p.1 = p.2 ∧ q.1 < q.2 ∧ 0 ≤ p.1 ∧ p.1 < 500 ∧ ai_ir (q.1 * p.1) (q.2 * p.1) = true then some (ai_mulc en sb y q p.1)
    else ai_mul en sb x y
theorem ai_mulc_ok {w0 : va_W} {ad : List Nat} {b : Nat} {r : List Int} {en : List ai_e} {sb : List ai_b} {x : ai_v} {p : Int × Int} {k z : Int} {i u : Int32} (h : ai_ok r en) (hs : ai_sb w0 r sb) (gx : r[x.2.1]? = some z) (kx : i.toInt = z + x.2.2.2) (a1 : p.1 ≤ i.toInt) (a2 : i.toInt ≤ p.2) (k0 : 0 ≤ k) (k1 : k < 500) (hu : u.toInt = i.toInt * k) : ∃ r', ai_x r r' ∧ ai_ok r' (ai_mulc en sb x p k).1 ∧ ai_sb w0 r' (ai_mulc en sb x p k).2.1 ∧ ai_dv ad b r' (ai_mulc en sb x p k).2.2 (.int u) := by
  have m1 : p.1 * k ≤ u.toInt := by rw [hu]; exact Int.mul_le_mul_of_nonneg_right a1 k0
  have m2 : u.toInt ≤ p.2 * k := by rw [hu]; exact Int.mul_le_mul_of_nonneg_right a2 k0
  refine ⟨r ++ [u.toInt], ai_x.push, h.nu m1 m2, ?_, Or.inr (Or.inl ⟨rfl, u.toInt, _, ai_last h.1, rfl, by show u.toInt = u.toInt + 0; omega⟩)⟩
  intro q hq
  rcases List.mem_cons.mp hq with rfl | hq
  · refine ⟨z, z, u.toInt, ai_x.push.at gx, ai_x.push.at gx, ai_last h.1, fun h => absurd (show 500 + k.toNat = 0 from h) (by omega), fun h => absurd (show 500 + k.toNat = 1 from h) (by omega), fun h => absurd (show 500 + k.toNat = 2 from h) (by omega), fun h => absurd (show 500 + k.toNat = 4 from h) (by omega), fun h => absurd (show 500 + k.toNat = 5 from h) (by omega), fun _ => ⟨fun h => absurd (show 1000 ≤ 500 + k.toNat from h) (by omega), fun _ => ⟨z, u.toInt, ai_x.push.at gx, ai_last h.1, fun h => absurd (show 500 + k.toNat < 132 from h) (by omega), fun _ h => absurd (show 500 + k.toNat < 232 from h) (by omega), fun _ => ?_, fun h => absurd (show 500 + k.toNat = 140 from h) (by omega), fun h => absurd (show 500 + k.toNat = 141 from h) (by omega), fun h => absurd (show 500 + k.toNat = 142 from h) (by omega), fun _ h => absurd (show 500 + k.toNat < 200 from h) (by omega)⟩, fun _ _ => ⟨fun _ h => absurd (show 500 + k.toNat < 305 from h) (by omega), fun _ h => absurd (show 500 + k.toNat < 318 from h) (by omega), fun _ h => absurd (show 500 + k.toNat < 323 from h) (by omega), fun _ h => absurd (show 500 + k.toNat < 500 from h) (by omega), fun h => absurd (show 500 + k.toNat = 330 from h) (by omega)⟩, fun h => absurd (show 500 + k.toNat = 350 from h) (by omega)⟩⟩
    show u.toInt = ((500 + k.toNat - 500 : Nat) : Int) * (z + x.2.2.2)
    rw [hu, ← kx, show ((500 + k.toNat - 500 : Nat) : Int) = k by omega, Int.mul_comm]
  · exact hs.mono ai_x.push q hq
theorem ai_mulF_ok : ai_O2 ai_mulF (fun _ => True) (fun i j => i * j) := by
  intro w0 ad b r en sb x y vx vy q h hs hx hy hF
  unfold ai_mulF at hF
  obtain ⟨px, h1, hF⟩ := Option.bind_eq_some_iff.mp hF
  obtain ⟨py, h2, hF⟩ := Option.bind_eq_some_iff.mp hF
  split at hF
  · rename_i hc
    obtain ⟨c1, -, c2, c3, c4⟩ := hc
    obtain ⟨-, zx, i, gx, rfl, kx, a1, a2⟩ := ai_i_ok h hx h1
    obtain ⟨-, zy, j, gy, rfl, ky, b1, b2⟩ := ai_i_ok h hy h2
    have c5 := ai_irs c4
    have ej : j.toInt = py.1 := by omega
    have m1 : px.1 * py.1 ≤ i.toInt * py.1 := Int.mul_le_mul_of_nonneg_right a1 c2
    have m2 : i.toInt * py.1 ≤ px.2 * py.1 := Int.mul_le_mul_of_nonneg_right a2 c2
    injection hF with hF
    subst hF
    exact ⟨i, j, rfl, rfl, trivial, ai_mulc_ok h hs gx kx a1 a2 c2 c3 (by rw [ai_mulI (by rw [ej]; omega) (by rw [ej]; omega), ej])⟩
  · split at hF
    · rename_i hc
      obtain ⟨c1, -, c2, c3, c4⟩ := hc
      obtain ⟨-, zx, i, gx, rfl, kx, a1, a2⟩ := ai_i_ok h hx h1
      obtain ⟨-, zy, j, gy, rfl, ky, b1, b2⟩ := ai_i_ok h hy h2
      have c5 := ai_irs c4
      have ei : i.toInt = px.1 := by omega
      have m1 : py.1 * px.1 ≤ j.toInt * px.1 := Int.mul_le_mul_of_nonneg_right b1 c2
      have m2 : j.toInt * px.1 ≤ py.2 * px.1 := Int.mul_le_mul_of_nonneg_right b2 c2
      injection hF with hF
      subst hF
      exact ⟨i, j, rfl, rfl, trivial, ai_mulc_ok h hs gy ky b1 b2 c2 c3 (by rw [ai_mulI (by rw [ei, Int.mul_comm]; omega) (by rw [ei, Int.mul_comm]; omega), ei, Int.mul_comm])⟩
    · exact ai_mul_ok w0 ad b r en sb x y vx vy q h hs hx hy hF
/-! bits of numbers below 128 -/
theorem bi_or1 : ∀ (o : Fin 128) (w : Fin 7), (Int32.ofNat o.val ||| Int32.ofNat (2 ^ w.val)).toInt = if o.val / 2 ^ w.val % 2 = 1 then (o.val : Int) else (o.val : Int) + ((2 ^ w.val : Nat) : Int) := by decide +kernel
theorem bi_or2 : ∀ (o : Fin 128) (c : Fin 16), ((o.val / 16 * 16 : Nat) : Int) ≤ (Int32.ofNat o.val ||| Int32.ofNat c.val).toInt ∧ (Int32.ofNat o.val ||| Int32.ofNat c.val).toInt ≤ ((o.val / 16 * 16 : Nat) : Int) + 15 := by decide +kernel
theorem bi_shr : ∀ (o : Fin 128) (w : Fin 7), (Int32.ofNat o.val >>> (Int32.ofNat w.val &&& 31)).toInt = ((o.val / 2 ^ w.val : Nat) : Int) := by decide +kernel
theorem bi_shl : ∀ (w : Fin 7), ((1 : Int32) <<< (Int32.ofNat w.val &&& 31)).toInt = ((2 ^ w.val : Nat) : Int) := by decide +kernel
theorem bi_and : ∀ (o : Fin 128), (Int32.ofNat o.val &&& 1).toInt = ((o.val % 2 : Nat) : Int) := by decide +kernel
theorem bi_of {i : Int32} {n : Nat} (h : i.toInt = (n : Int)) (hn : n < 2147483648) : i = Int32.ofNat n := Int32.toInt_inj.mp (by
  have e : (Int32.ofNat n).toInt = (n : Int) := nI_toInt (by omega)
  rw [h, e])
def bi_w (c : Int) : Nat := if c = 16 then 4 else if c = 32 then 5 else 6
def ai_orF (en : List ai_e) (sb : List ai_b) (x y : ai_v) : Option ai_q :=
  (ai_i en x).bind fun p => (ai_i en y).bind fun q =>
    if 0 ≤ p.1 ∧ p.2 ≤ 127 ∧ q.1 = q.2 ∧ (q.1 = 16 ∨ q.1 = 32 ∨ q.1 = 64) ∧ p.1 / q.1 = p.2 / q.1 then
      (if p.1 / q.1 % 2 = 1 then some (en, sb, (1, x.2.1, 0, x.2.2.2)) else some (en, sb, (1, x.2.1, 0, x.2.2.2 + q.1)))
    else if 0 ≤ p.1 ∧ p.2 ≤ 127 ∧ 0 ≤ q.1 ∧ q.2 ≤ 15 ∧ p.1 / 16 = p.2 / 16 then some ((ai_mi en (p.1 / 16 * 16) (p.1 / 16 * 16 + 15)).1, sb, (ai_mi en (p.1 / 16 * 16) (p.1 / 16 * 16 + 15)).2)
    else ai_top en sb x y
theorem bi_dv {c : Int} (hc : c = 16 ∨ c = 32 ∨ c = 64) {a b : Int} {z : Int} (h : a / c = b / c) (h1 : a ≤ z) (h2 : z ≤ b) : z / c = a / c := by
  rcases hc with rfl | rfl | rfl <;> omega
theorem ai_orF_ok : ai_O2 ai_orF (fun _ => True) (fun i j => i ||| j) := by
  intro w0 ad b r en sb x y vx vy q h hs hx hy hF
  unfold ai_orF at hF
  obtain ⟨px, h1, hF⟩ := Option.bind_eq_some_iff.mp hF
  obtain ⟨py, h2, hF⟩ := Option.bind_eq_some_iff.mp hF
  split at hF
  · rename_i hc
    obtain ⟨c1, c2, c3, c4, c5⟩ := hc
    obtain ⟨-, zx, i, gx, rfl, kx, a1, a2⟩ := ai_i_ok h hx h1
    obtain ⟨-, zy, j, gy, rfl, ky, b1, b2⟩ := ai_i_ok h hy h2
    have ej : j.toInt = py.1 := by omega
    have hz := bi_dv c4 c5 a1 a2
    obtain ⟨o, ho⟩ : ∃ o : Nat, i.toInt = (o : Int) := ⟨i.toInt.toNat, by omega⟩
    have key : (i ||| j).toInt = if i.toInt / py.1 % 2 = 1 then i.toInt else i.toInt + py.1 := by
      rw [bi_of ho (by omega), ← ej]
      rcases c4 with c4 | c4 | c4
      · have := bi_or1 ⟨o, by omega⟩ 4
        rw [bi_of (i := j) (n := 16) (by rw [ej, c4]; rfl) (by decide)]
        have e1 : (Int32.ofNat o).toInt = (o : Int) := nI_toInt (by omega)
        have e2 : (Int32.ofNat 16).toInt = 16 := rfl
        rw [e1, e2]
        have this : (Int32.ofNat o ||| Int32.ofNat 16).toInt = if o / 16 % 2 = 1 then (o : Int) else (o : Int) + 16 := this
        rw [this]
        by_cases hb : o / 16 % 2 = 1
        · rw [if_pos hb, if_pos (by omega)]
        · rw [if_neg hb, if_neg (by omega)]
      · have := bi_or1 ⟨o, by omega⟩ 5
        rw [bi_of (i := j) (n := 32) (by rw [ej, c4]; rfl) (by decide)]
        have e1 : (Int32.ofNat o).toInt = (o : Int) := nI_toInt (by omega)
        have e2 : (Int32.ofNat 32).toInt = 32 := rfl
        rw [e1, e2]
        have this : (Int32.ofNat o ||| Int32.ofNat 32).toInt = if o / 32 % 2 = 1 then (o : Int) else (o : Int) + 32 := this
        rw [this]
        by_cases hb : o / 32 % 2 = 1
        · rw [if_pos hb, if_pos (by omega)]
        · rw [if_neg hb, if_neg (by omega)]
      · have := bi_or1 ⟨o, by omega⟩ 6
        rw [bi_of (i := j) (n := 64) (by rw [ej, c4]; rfl) (by decide)]
        have e1 : (Int32.ofNat o).toInt = (o : Int) := nI_toInt (by omega)
        have e2 : (Int32.ofNat 64).toInt = 64 := rfl
        rw [e1, e2]
        have this : (Int32.ofNat o ||| Int32.ofNat 64).toInt = if o / 64 % 2 = 1 then (o : Int) else (o : Int) + 64 := this
        rw [this]
        by_cases hb : o / 64 % 2 = 1
        · rw [if_pos hb, if_pos (by omega)]
        · rw [if_neg hb, if_neg (by omega)]
    rw [hz] at key
    split at hF
    · rename_i hb
      rw [if_pos hb] at key
      injection hF with hF
      subst hF
      exact ⟨i, j, rfl, rfl, trivial, r, ai_x.rf, h, hs, Or.inr (Or.inl ⟨rfl, zx, _, gx, rfl, by show (i ||| j).toInt = zx + x.2.2.2; omega⟩)⟩
    · rename_i hb
      rw [if_neg hb] at key
      injection hF with hF
      subst hF
      exact ⟨i, j, rfl, rfl, trivial, r, ai_x.rf, h, hs, Or.inr (Or.inl ⟨rfl, zx, _, gx, rfl, by show (i ||| j).toInt = zx + (x.2.2.2 + py.1); omega⟩)⟩
  · split at hF
    · rename_i hc
      obtain ⟨c1, c2, c3, c4, c5⟩ := hc
      obtain ⟨-, zx, i, gx, rfl, kx, a1, a2⟩ := ai_i_ok h hx h1
      obtain ⟨-, zy, j, gy, rfl, ky, b1, b2⟩ := ai_i_ok h hy h2
      obtain ⟨o, ho⟩ : ∃ o : Nat, i.toInt = (o : Int) := ⟨i.toInt.toNat, by omega⟩
      obtain ⟨u, hu⟩ : ∃ u : Nat, j.toInt = (u : Int) := ⟨j.toInt.toNat, by omega⟩
      have k2 := bi_or2 ⟨o, by omega⟩ ⟨u, by omega⟩
      have k3 : ((o / 16 * 16 : Nat) : Int) ≤ (i ||| j).toInt ∧ (i ||| j).toInt ≤ ((o / 16 * 16 : Nat) : Int) + 15 := by
        rw [bi_of ho (by omega), bi_of hu (by omega)]
        exact k2
      injection hF with hF
      subst hF
      obtain ⟨r', e1, e2, e3⟩ := ai_mi_ok (ad := ad) (b := b) (lo := px.1 / 16 * 16) (hi := px.1 / 16 * 16 + 15) h (i ||| j) (fun _ => by omega)
      exact ⟨i, j, rfl, rfl, trivial, r', e1, e2, hs.mono e1, e3⟩
    · exact ai_top_ok (fun i j => i ||| j) w0 ad b r en sb x y vx vy q h hs hx hy hF
def ai_shrF : List ai_e → List ai_b → ai_v → ai_v → Option ai_q := ai_bop fun p q => if 0 ≤ p.1 ∧ p.2 ≤ 127 ∧ q.1 = q.2 ∧ 0 ≤ q.1 ∧ q.1 ≤ 6 then some (((p.1.toNat / 2 ^ q.1.toNat : Nat) : Int), ((p.2.toNat / 2 ^ q.1.toNat : Nat) : Int)) else some (-2147483648, 2147483647)
theorem ai_shrF_ok : ai_O2 ai_shrF (fun _ => True) (fun i j => i >>> (j &&& 31)) := ai_bop_ok fun p q w i j a1 a2 b1 b2 hw => by
  refine ⟨trivial, fun _ => ?_⟩
  split at hw
  · rename_i hc
    obtain ⟨c1, c2, c3, c4, c5⟩ := hc
    cases hw
    obtain ⟨o, ho⟩ : ∃ o : Nat, i.toInt = (o : Int) := ⟨i.toInt.toNat, by omega⟩
    obtain ⟨u, hu⟩ : ∃ u : Nat, q.1 = (u : Int) := ⟨q.1.toNat, by omega⟩
    have k2 : (Int32.ofNat o >>> (Int32.ofNat u &&& 31)).toInt = ((o / 2 ^ u : Nat) : Int) := bi_shr ⟨o, by omega⟩ ⟨u, by omega⟩
    have k3 : (i >>> (j &&& 31)).toInt = ((o / 2 ^ u : Nat) : Int) := by rw [bi_of ho (by omega), bi_of (i := j) (n := u) (by omega) (by omega), k2]
    have m1 : p.1.toNat / 2 ^ u ≤ o / 2 ^ u := Nat.div_le_div_right (by omega)
    have m2 : o / 2 ^ u ≤ p.2.toNat / 2 ^ u := Nat.div_le_div_right (by omega)
    dsimp only
    rw [k3, show q.1.toNat = u by omega]
    exact ⟨Int.ofNat_le.mpr m1, Int.ofNat_le.mpr m2⟩
  · cases hw
    exact ai_irg _
def ai_shlF : List ai_e → List ai_b → ai_v → ai_v → Option ai_q := ai_bop fun p q => if p.1 = 1 ∧ p.2 = 1 ∧ 0 ≤ q.1 ∧ q.2 ≤ 6 then some (((2 ^ q.1.toNat : Nat) : Int), ((2 ^ q.2.toNat : Nat) : Int)) else some (-2147483648, 2147483647)
theorem ai_shlF_ok : ai_O2 ai_shlF (fun _ => True) (fun i j => i <<< (j &&& 31)) := ai_bop_ok fun p q w i j a1 a2 b1 b2 hw => by
  refine ⟨trivial, fun _ => ?_⟩
  split at hw
  · rename_i hc
    obtain ⟨c1, c2, c3, c4⟩ := hc
    cases hw
    obtain ⟨u, hu⟩ : ∃ u : Nat, j.toInt = (u : Int) := ⟨j.toInt.toNat, by omega⟩
    have k2 : ((1 : Int32) <<< (Int32.ofNat u &&& 31)).toInt = ((2 ^ u : Nat) : Int) := bi_shl ⟨u, by omega⟩
    have hi : i = 1 := Int32.toInt_inj.mp (by show i.toInt = 1; omega)
    have k3 : (i <<< (j &&& 31)).toInt = ((2 ^ u : Nat) : Int) := by rw [hi, bi_of hu (by omega), k2]
    have m1 : 2 ^ q.1.toNat ≤ 2 ^ u := Nat.pow_le_pow_right (by decide) (by omega)
    have m2 : 2 ^ u ≤ 2 ^ q.2.toNat := Nat.pow_le_pow_right (by decide) (by omega)
    dsimp only
    rw [k3]
    exact ⟨Int.ofNat_le.mpr m1, Int.ofNat_le.mpr m2⟩
  · cases hw
    exact ai_irg _
def ai_andF : List ai_e → List ai_b → ai_v → ai_v → Option ai_q := ai_bop fun p q => if p.1 = p.2 ∧ 0 ≤ p.1 ∧ p.1 ≤ 127 ∧ q.1 = 1 ∧ q.2 = 1 then some (p.1 % 2, p.1 % 2) else if 0 ≤ q.1 then some (0, q.2) else some (-2147483648, 2147483647)
theorem ai_andF_ok : ai_O2 ai_andF (fun _ => True) (fun i j => i &&& j) := ai_bop_ok fun p q w i j a1 a2 b1 b2 hw => by
  refine ⟨trivial, fun _ => ?_⟩
  split at hw
  · rename_i hc
    obtain ⟨c1, c2, c3, c4, c5⟩ := hc
    cases hw
    obtain ⟨o, ho⟩ : ∃ o : Nat, i.toInt = (o : Int) := ⟨i.toInt.toNat, by omega⟩
    have hj : j = 1 := Int32.toInt_inj.mp (by show j.toInt = 1; omega)
    have k2 : (Int32.ofNat o &&& 1).toInt = ((o % 2 : Nat) : Int) := bi_and ⟨o, by omega⟩
    have k3 : (i &&& j).toInt = ((o % 2 : Nat) : Int) := by rw [hj, bi_of ho (by omega), k2]
    dsimp only
    omega
  · split at hw
    · cases hw
      have := ai_andI i j (by omega)
      dsimp only
      omega
    · cases hw
      exact ai_irg _
