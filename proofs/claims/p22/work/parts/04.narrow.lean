/-! branches narrow the names' bounds -/
def ai_cl (en : List ai_e) (a : Nat) (lo hi : Int) : Option (List ai_e) := match en[a]? with
  | some e => if max e.1 lo ≤ min e.2.1 hi then some (en.set a (max e.1 lo, min e.2.1 hi, e.2.2)) else none
  | none => some en
theorem ai_ok.set {r : List Int} {en : List ai_e} {a : Nat} {z : Int} {e : ai_e} (h : ai_ok r en) (hz : r[a]? = some z) (he : ai_oe r z e) : ai_ok r (en.set a e) := by
  refine ⟨by simp [h.1], fun k y f h1 h2 => ?_⟩
  by_cases hk : a = k
  · subst hk
    rw [h1] at hz
    cases hz
    have hl : a < en.length := by rw [← h.1]; exact (List.getElem?_eq_some_iff.mp h1).1
    rw [List.getElem?_set_self hl] at h2
    cases h2
    exact he
  · rw [List.getElem?_set_ne hk] at h2
    exact h.2 k y f h1 h2
theorem ai_cl_ok {r : List Int} {en : List ai_e} {a : Nat} {z lo hi : Int} (h : ai_ok r en) (hz : r[a]? = some z) (h1 : lo ≤ z) (h2 : z ≤ hi) : ∃ en', ai_cl en a lo hi = some en' ∧ ai_ok r en' := by
  obtain ⟨e, he, g1, g2, g3⟩ := h.get hz
  unfold ai_cl
  rw [he]
  dsimp only
  rw [if_pos (by omega)]
  refine ⟨_, rfl, h.set hz ⟨?_, ?_, g3⟩⟩
  · show max e.1 lo ≤ z
    omega
  · show z ≤ min e.2.1 hi
    omega
def ai_nz (en : List ai_e) (a : Nat) : List ai_e := match en[a]? with
  | some e => en.set a (e.1, e.2.1, true, e.2.2.2)
  | none => en
theorem ai_nz_ok {r : List Int} {en : List ai_e} {a : Nat} {z : Int} (h : ai_ok r en) (hz : r[a]? = some z) (h1 : z ≠ 0) : ai_ok r (ai_nz en a) := by
  obtain ⟨e, he, g1, g2, g3, g4⟩ := h.get hz
  unfold ai_nz
  rw [he]
  exact h.set hz ⟨g1, g2, fun _ => h1, g4⟩
/-- 0 =, 1 not =, 2 <, 3 not <, 4 >, else not >: of a name and another with an offset -/
def ai_rel (op : Nat) (x y : Int) : Prop := match op with
  | 0 => x = y
  | 1 => x ≠ y
  | 2 => x < y
  | 3 => y ≤ x
  | 4 => y < x
  | _ => x ≤ y
/-- a name isn't c -/
def ai_nc (en : List ai_e) (a : Nat) (e : ai_e) (c : Int) : Option (List ai_e) :=
  if e.1 = c then ai_cl en a (c + 1) e.2.1 else if e.2.1 = c then ai_cl en a e.1 (c - 1) else if c = 0 then some (ai_nz en a) else some en
theorem ai_nc_ok {r : List Int} {en : List ai_e} {a : Nat} {z c : Int} {e : ai_e} (h : ai_ok r en) (hz : r[a]? = some z) (he : ai_oe r z e) (hc : z ≠ c) : ∃ en', ai_nc en a e c = some en' ∧ ai_ok r en' := by
  obtain ⟨g1, g2, -⟩ := he
  unfold ai_nc
  split
  · exact ai_cl_ok h hz (by omega) g2
  · split
    · exact ai_cl_ok h hz g1 (by omega)
    · split
      · rename_i h0
        subst h0
        exact ⟨_, rfl, ai_nz_ok h hz hc⟩
      · exact ⟨_, rfl, h⟩
def ai_c2 (en : List ai_e) (a b : Nat) (l1 h1 l2 h2 : Int) : Option (List ai_e) := (ai_cl en a l1 h1).bind fun en1 => ai_cl en1 b l2 h2
theorem ai_c2_ok {r : List Int} {en : List ai_e} {a b : Nat} {za zb l1 h1 l2 h2 : Int} (h : ai_ok r en) (ha : r[a]? = some za) (hb : r[b]? = some zb) (g1 : l1 ≤ za) (g2 : za ≤ h1) (g3 : l2 ≤ zb) (g4 : zb ≤ h2) : ∃ en', ai_c2 en a b l1 h1 l2 h2 = some en' ∧ ai_ok r en' := by
  obtain ⟨e1, q1, k1⟩ := ai_cl_ok h ha g1 g2
  obtain ⟨e2, q2, k2⟩ := ai_cl_ok k1 hb g3 g4
  exact ⟨e2, by unfold ai_c2; rw [q1]; exact q2, k2⟩
def ai_rf (en : List ai_e) (op a b : Nat) (o : Int) : Option (List ai_e) := match en[a]?, en[b]? with
  | some ea, some eb =>
    if a = b then (match op with
      | 0 => if o = 0 then some en else none
      | 1 => if o = 0 then none else some en
      | 2 => if 0 < o then some en else none
      | 3 => if o ≤ 0 then some en else none
      | 4 => if o < 0 then some en else none
      | _ => if 0 ≤ o then some en else none)
    else (match op with
      | 0 => ai_c2 en a b (eb.1 + o) (eb.2.1 + o) (ea.1 - o) (ea.2.1 - o)
      | 1 => if eb.1 = eb.2.1 then ai_nc en a ea (eb.1 + o) else if ea.1 = ea.2.1 then ai_nc en b eb (ea.1 - o) else some en
      | 2 => ai_c2 en a b ea.1 (eb.2.1 + o - 1) (ea.1 + 1 - o) eb.2.1
      | 3 => ai_c2 en a b (eb.1 + o) ea.2.1 eb.1 (ea.2.1 - o)
      | 4 => ai_c2 en a b (eb.1 + o + 1) ea.2.1 eb.1 (ea.2.1 - o - 1)
      | _ => ai_c2 en a b ea.1 (eb.2.1 + o) (ea.1 - o) eb.2.1)
  | _, _ => some en
theorem ai_rf_ok {r : List Int} {en : List ai_e} {op a b : Nat} {o za zb : Int} (h : ai_ok r en) (ha : r[a]? = some za) (hb : r[b]? = some zb) (hr : ai_rel op za (zb + o)) : ∃ en', ai_rf en op a b o = some en' ∧ ai_ok r en' := by
  obtain ⟨ea, qa, oa⟩ := h.get ha
  obtain ⟨eb, qb, ob⟩ := h.get hb
  have a1 := oa.1
  have a2 := oa.2.1
  have b1 := ob.1
  have b2 := ob.2.1
  unfold ai_rf
  rw [qa, qb]
  dsimp only
  by_cases hab : a = b
  · rw [if_pos hab]
    subst hab
    rw [ha] at hb
    cases hb
    rcases op with _ | _ | _ | _ | _ | op
    · exact ⟨en, if_pos (by have hr : za = za + o := hr; omega), h⟩
    · exact ⟨en, if_neg (by have hr : za ≠ za + o := hr; omega), h⟩
    · exact ⟨en, if_pos (by have hr : za < za + o := hr; omega), h⟩
    · exact ⟨en, if_pos (by have hr : za + o ≤ za := hr; omega), h⟩
    · exact ⟨en, if_pos (by have hr : za + o < za := hr; omega), h⟩
    · exact ⟨en, if_pos (by have hr : za ≤ za + o := hr; omega), h⟩
  · rw [if_neg hab]
    rcases op with _ | _ | _ | _ | _ | op
    · have hr : za = zb + o := hr
      exact ai_c2_ok h ha hb (by omega) (by omega) (by omega) (by omega)
    · have hr : za ≠ zb + o := hr
      show ∃ en', (if eb.1 = eb.2.1 then ai_nc en a ea (eb.1 + o) else if ea.1 = ea.2.1 then ai_nc en b eb (ea.1 - o) else some en) = some en' ∧ ai_ok r en'
      split
      · exact ai_nc_ok h ha oa (by omega)
      · split
        · exact ai_nc_ok h hb ob (by omega)
        · exact ⟨en, rfl, h⟩
    · have hr : za < zb + o := hr
      exact ai_c2_ok h ha hb (by omega) (by omega) (by omega) (by omega)
    · have hr : zb + o ≤ za := hr
      exact ai_c2_ok h ha hb (by omega) (by omega) (by omega) (by omega)
    · have hr : zb + o < za := hr
      exact ai_c2_ok h ha hb (by omega) (by omega) (by omega) (by omega)
    · have hr : za ≤ zb + o := hr
      exact ai_c2_ok h ha hb (by omega) (by omega) (by omega) (by omega)
/-! longs -/
def ai_P2 (F : List ai_e → ai_v → ai_v → Option (List ai_e × ai_v)) (side : Int64 → Prop) (f : Int64 → Int64 → Int64) : Prop :=
  ∀ (ad : List Nat) (b : Nat) (r : List Int) (en : List ai_e) (x y : ai_v) (vx vy : Value) (q : List ai_e × ai_v), ai_ok r en → ai_dv ad b r x vx → ai_dv ad b r y vy → F en x y = some q →
    ∃ i j : Int64, vx = .long i ∧ vy = .long j ∧ side j ∧ ∃ r', ai_x r r' ∧ ai_ok r' q.1 ∧ ai_dv ad b r' q.2 (.long (f i j))
def ai_lop (nz : Bool) (g : Int × Int → Int × Int → Int × Int) (en : List ai_e) (x y : ai_v) : Option (List ai_e × ai_v) :=
  (ai_l en x).bind fun p => (ai_l en y).bind fun q =>
    if nz = false ∨ 0 < q.1 ∨ q.2 < 0 ∨ (y.2.2.2 = 0 ∧ (en[y.2.1]?).any (fun e => e.2.2.1) = true) then some (ai_ml en (g p q).1 (g p q).2) else none
theorem ai_lop_ok {nz : Bool} {g : Int × Int → Int × Int → Int × Int} {f : Int64 → Int64 → Int64}
    (hg : ∀ (p q : Int × Int) (i j : Int64), p.1 ≤ i.toInt → i.toInt ≤ p.2 → q.1 ≤ j.toInt → j.toInt ≤ q.2 → ai_lr (g p q).1 (g p q).2 = true → (g p q).1 ≤ (f i j).toInt ∧ (f i j).toInt ≤ (g p q).2) : ai_P2 (ai_lop nz g) (fun j => nz = true → ¬ j = 0) f := by
  intro ad b r en x y vx vy q h hx hy hF
  unfold ai_lop at hF
  obtain ⟨px, h1, hF⟩ := Option.bind_eq_some_iff.mp hF
  obtain ⟨py, h2, hF⟩ := Option.bind_eq_some_iff.mp hF
  obtain ⟨-, zx, i, -, rfl, -, a1, a2⟩ := ai_l_ok h hx h1
  obtain ⟨-, zy, j, gy, rfl, ky, b1, b2⟩ := ai_l_ok h hy h2
  split at hF
  · rename_i hc
    cases hF
    obtain ⟨r', e1, e2, e3⟩ := ai_ml_ok (ad := ad) (b := b) (lo := (g px py).1) (hi := (g px py).2) h (f i j) (hg px py i j a1 a2 b1 b2)
    refine ⟨i, j, rfl, rfl, fun hn => ?_, r', e1, e2, e3⟩
    rintro rfl
    have e0 : (0 : Int64).toInt = 0 := rfl
    rcases hc with hc | hc | hc | ⟨c1, c2⟩
    · rw [hn] at hc
      cases hc
    · omega
    · omega
    · obtain ⟨e, he, -, -, g3, -⟩ := h.get gy
      rw [he] at c2
      have := g3 c2
      omega
  · cases hF
def ai_ladd : List ai_e → ai_v → ai_v → Option (List ai_e × ai_v) := ai_lop false fun p q => (p.1 + q.1, p.2 + q.2)
theorem ai_ladd_ok : ai_P2 ai_ladd (fun j => false = true → ¬ j = 0) (fun i j => i + j) := ai_lop_ok fun p q i j a1 a2 b1 b2 hr => by
  have := ai_lrs hr
  dsimp only at this ⊢
  rw [ai_addL] <;> omega
def ai_ltop (nz : Bool) : List ai_e → ai_v → ai_v → Option (List ai_e × ai_v) := ai_lop nz fun _ _ => (-9223372036854775808, 9223372036854775807)
theorem ai_ltop_ok (nz : Bool) (f : Int64 → Int64 → Int64) : ai_P2 (ai_ltop nz) (fun j => nz = true → ¬ j = 0) f := ai_lop_ok fun p q i j a1 a2 b1 b2 hr => ai_lrg _
theorem ai_mulL {i j : Int64} (h1 : -9223372036854775808 ≤ i.toInt * j.toInt) (h2 : i.toInt * j.toInt ≤ 9223372036854775807) : (i * j).toInt = i.toInt * j.toInt := by
  rw [Int64.toInt_mul, Int.bmod_eq_of_le] <;> omega
def ai_lmul : List ai_e → ai_v → ai_v → Option (List ai_e × ai_v) := ai_lop false fun p q => (ai_mn (p.1 * q.1) (p.1 * q.2) (p.2 * q.1) (p.2 * q.2), ai_mx (p.1 * q.1) (p.1 * q.2) (p.2 * q.1) (p.2 * q.2))
theorem ai_lmul_ok : ai_P2 ai_lmul (fun j => false = true → ¬ j = 0) (fun i j => i * j) := ai_lop_ok fun p q i j a1 a2 b1 b2 hr => by
  have c3 := ai_lrs hr
  have c4 := ai_prod a1 a2 b1 b2
  dsimp only at c3 ⊢
  rw [ai_mulL] <;> omega
