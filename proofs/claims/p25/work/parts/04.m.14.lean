section
/-! branches narrow the names' bounds -/
def ai_cl (en : List ai_e) (a : Nat) (lo hi : Int) : Option (List ai_e) := match en[a]? with
  | some e => if max e.1 lo ≤ min e.2.1 hi then some (en.set a (max e.1 lo, min e.2.1 hi, e.2.2)) else none
  | none => some en
theorem ai_ok.set {r : List Int} {en : List ai_e} {a : Nat} {z : Int} {e : ai_e} (h : ai_ok r en) (hz : r[a]? = some z) (he : ai_oe r z e) : ai_ok r (en.set a e) := by
  refine ⟨by simp [h.1], fun k y f h1 h2 => ?_⟩
  by_cases hk : a = k
  · subst hk
    rw [h1] at hz
    cases hz
    have hl : a < en.length := by rw [← h.1]; exact (List.getElem?_eq_some_iff.mp h1).1
    rw [List.getElem?_set_self hl] at h2
    cases h2
    exact he
  · rw [List.getElem?_set_ne hk] at h2
    exact h.2 k y f h1 h2
theorem ai_cl_ok {r : List Int} {en : List ai_e} {a : Nat} {z lo hi : Int} (h : ai_ok r en) (hz : r[a]? = some z) (h1 : lo ≤ z) (h2 : z ≤ hi) : ∃ en', ai_cl en a lo hi = some en' ∧ ai_ok r en' := by
  obtain ⟨e, he, g1, g2, g3⟩ := h.get hz
  unfold ai_cl
  rw [he]
  dsimp only
  rw [if_pos (by omega)]
  refine ⟨_, rfl, h.set hz ⟨?_, ?_, g3⟩⟩
  · show max e.1 lo ≤ z
    omega
  · show z ≤ min e.2.1 hi
    omega
def ai_nz (en : List ai_e) (a : Nat) : List ai_e := match en[a]? with
  | some e => en.set a (e.1, e.2.1, true, e.2.2.2)
  | none => en
theorem ai_nz_ok {r : List Int} {en : List ai_e} {a : Nat} {z : Int} (h : ai_ok r en) (hz : r[a]? = some z) (h1 : z ≠ 0) : ai_ok r (ai_nz en a) := by
  obtain ⟨e, he, g1, g2, g3, g4⟩ := h.get hz
  unfold ai_nz
  rw [he]
  exact h.set hz ⟨g1, g2, fun _ => h1, g4⟩
/-- 0 =, 1 not =, 2 <, 3 not <, 4 >, else not >: of a name and another with an offset -/
def ai_rel (op : Nat) (x y : Int) : Prop := match op with
  | 0 => x = y
  | 1 => x ≠ y
  | 2 => x < y
  | 3 => y ≤ x
  | 4 => y < x
  | _ => x ≤ y
/-- a name isn't c -/
def ai_nc (en : List ai_e) (a : Nat) (e : ai_e) (c : Int) : Option (List ai_e) :=
  if e.1 = c then ai_cl en a (c + 1) e.2.1 else if e.2.1 = c then ai_cl en a e.1 (c - 1) else if c = 0 then some (ai_nz en a) else some en
theorem ai_nc_ok {r : List Int} {en : List ai_e} {a : Nat} {z c : Int} {e : ai_e} (h : ai_ok r en) (hz : r[a]? = some z) (he : ai_oe r z e) (hc : z ≠ c) : ∃ en', ai_nc en a e c = some en' ∧ ai_ok r en' := by
  obtain ⟨g1, g2, -⟩ := he
  unfold ai_nc
  split
  · exact ai_cl_ok h hz (by omega) g2
  · split
    · exact ai_cl_ok h hz g1 (by omega)
    · split
      · rename_i h0
        subst h0
        exact ⟨_, rfl, ai_nz_ok h hz hc⟩
      · exact ⟨_, rfl, h⟩
def ai_c2 (en : List ai_e) (a b : Nat) (l1 h1 l2 h2 : Int) : Option (List ai_e) := (ai_cl en a l1 h1).bind fun en1 => ai_cl en1 b l2 h2
theorem ai_c2_ok {r : List Int} {en : List ai_e} {a b : Nat} {za zb l1 h1 l2 h2 : Int} (h : ai_ok r en) (ha : r[a]? = some za) (hb : r[b]? = some zb) (g1 : l1 ≤ za) (g2 : za ≤ h1) (g3 : l2 ≤ zb) (g4 : zb ≤ h2) : ∃ en', ai_c2 en a b l1 h1 l2 h2 = some en' ∧ ai_ok r en' := by
  obtain ⟨e1, q1, k1⟩ := ai_cl_ok h ha g1 g2
  obtain ⟨e2, q2, k2⟩ := ai_cl_ok k1 hb g3 g4
  exact ⟨e2, by unfold ai_c2; rw [q1]; exact q2, k2⟩
def ai_rf (en : List ai_e) (op a b : Nat) (o : Int) : Option (List ai_e) := match en[a]?, en[b]? with
  | some ea, some eb =>
    if a = b then (match op with
      | 0 => if o = 0 then some en else none
      | 1 => if o = 0 then none else some en
      | 2 => if 0 < o then some en else none
      | 3 => if o ≤ 0 then some en else none
      | 4 => if o < 0 then some en else none
      | _ => if 0 ≤ o then some en else none)
    else (match op with
      | 0 => ai_c2 en a b (eb.1 + o) (eb.2.1 + o) (ea.1 - o) (ea.2.1 - o)
      | 1 => if eb.1 = eb.2.1 then ai_nc en a ea (eb.1 + o) else if ea.1 = ea.2.1 then ai_nc en b eb (ea.1 - o) else some en
      | 2 => ai_c2 en a b ea.1 (eb.2.1 + o - 1) (ea.1 + 1 - o) eb.2.1
      | 3 => ai_c2 en a b (eb.1 + o) ea.2.1 eb.1 (ea.2.1 - o)
      | 4 => ai_c2 en a b (eb.1 + o + 1) ea.2.1 eb.1 (ea.2.1 - o - 1)
      | _ => ai_c2 en a b ea.1 (eb.2.1 + o) (ea.1 - o) eb.2.1)
  | _, _ => some en
theorem ai_rf_ok {r : List Int} {en : List ai_e} {op a b : Nat} {o za zb : Int} (h : ai_ok r en) (ha : r[a]? = some za) (hb : r[b]? = some zb) (hr : ai_rel op za (zb + o)) : ∃ en', ai_rf en op a b o = some en' ∧ ai_ok r en' := by
  obtain ⟨ea, qa, oa⟩ := h.get ha
  obtain ⟨eb, qb, ob⟩ := h.get hb
  have a1 := oa.1
  have a2 := oa.2.1
  have b1 := ob.1
  have b2 := ob.2.1
  unfold ai_rf
  rw [qa, qb]
  dsimp only
  by_cases hab : a = b
  · rw [if_pos hab]
    subst hab
    rw [ha] at hb
    cases hb
    rcases op with _ | _ | _ | _ | _ | op
    · exact ⟨en, if_pos (by have hr : za = za + o := hr; omega), h⟩
    · exact ⟨en, if_neg (by have hr : za ≠ za + o := hr; omega), h⟩
    · exact ⟨en, if_pos (by have hr : za < za + o := hr; omega), h⟩
    · exact ⟨en, if_pos (by have hr : za + o ≤ za := hr; omega), h⟩
    · exact ⟨en, if_pos (by have hr : za + o < za := hr; omega), h⟩
    · exact ⟨en, if_pos (by have hr : za ≤ za + o := hr; omega), h⟩
  · rw [if_neg hab]
    rcases op with _ | _ | _ | _ | _ | op
    · have hr : za = zb + o := hr
      exact ai_c2_ok h ha hb (by omega) (by omega) (by omega) (by omega)
    · have hr : za ≠ zb + o := hr
      show ∃ en', (if eb.1 = eb.2.1 then ai_nc en a ea (eb.1 + o) else if ea.1 = ea.2.1 then ai_nc en b eb (ea.1 - o) else some en) = some en' ∧ ai_ok r en'
      split
      · exact ai_nc_ok h ha oa (by omega)
      · split
        · exact ai_nc_ok h hb ob (by omega)
        · exact ⟨en, rfl, h⟩
    · have hr : za < zb + o := hr
      exact ai_c2_ok h ha hb (by omega) (by omega) (by omega) (by omega)
    · have hr : zb + o ≤ za := hr
      exact ai_c2_ok h ha hb (by omega) (by omega) (by omega) (by omega)
    · have hr : zb + o < za := hr
      exact ai_c2_ok h ha hb (by omega) (by omega) (by omega) (by omega)
    · have hr : za ≤ zb + o := hr
      exact ai_c2_ok h ha hb (by omega) (by omega) (by omega) (by omega)
/-! longs -/
def ai_P2 (F : List ai_e → ai_v → ai_v → Option (List ai_e × ai_v)) (side : Int64 → Prop) (f : Int64 → Int64 → Int64) : Prop :=
  ∀ (ad : List Nat) (b : Nat) (r : List Int) (en : List ai_e) (x y : ai_v) (vx vy : Value) (q : List ai_e × ai_v), ai_ok r en → ai_dv ad b r x vx → ai_dv ad b r y vy → F en x y = some q →
    ∃ i j : Int64, vx = .long i ∧ vy = .long j ∧ side j ∧ ∃ r', ai_x r r' ∧ ai_ok r' q.1 ∧ ai_dv ad b r' q.2 (.long (f i j))
def ai_lop (nz : Bool) (g : Int × Int → Int × Int → Int × Int) (en : List ai_e) (x y : ai_v) : Option (List ai_e × ai_v) :=
  (ai_l en x).bind fun p => (ai_l en y).bind fun q =>
    if nz = false ∨ 0 < q.1 ∨ q.2 < 0 ∨ (y.2.2.2 = 0 ∧ (en[y.2.1]?).any (fun e => e.2.2.1) = true) then some (ai_ml en (g p q).1 (g p q).2) else none
theorem ai_lop_ok {nz : Bool} {g : Int × Int → Int × Int → Int × Int} {f : Int64 → Int64 → Int64}
    (hg : ∀ (p q : Int × Int) (i j : Int64), p.1 ≤ i.toInt → i.toInt ≤ p.2 → q.1 ≤ j.toInt → j.toInt ≤ q.2 → ai_lr (g p q).1 (g p q).2 = true → (g p q).1 ≤ (f i j).toInt ∧ (f i j).toInt ≤ (g p q).2) : ai_P2 (ai_lop nz g) (fun j => nz = true → ¬ j = 0) f := by
  intro ad b r en x y vx vy q h hx hy hF
  unfold ai_lop at hF
  obtain ⟨px, h1, hF⟩ := Option.bind_eq_some_iff.mp hF
  obtain ⟨py, h2, hF⟩ := Option.bind_eq_some_iff.mp hF
  obtain ⟨-, zx, i, -, rfl, -, a1, a2⟩ := ai_l_ok h hx h1
  obtain ⟨-, zy, j, gy, rfl, ky, b1, b2⟩ := ai_l_ok h hy h2
  split at hF
  · rename_i hc
    cases hF
    obtain ⟨r', e1, e2, e3⟩ := ai_ml_ok (ad := ad) (b := b) (lo := (g px py).1) (hi := (g px py).2) h (f i j) (hg px py i j a1 a2 b1 b2)
    refine ⟨i, j, rfl, rfl, fun hn => ?_, r', e1, e2, e3⟩
    rintro rfl
    have e0 : (0 : Int64).toInt = 0 := rfl
    rcases hc with hc | hc | hc | ⟨c1, c2⟩
    · rw [hn] at hc
      cases hc
    · omega
    · omega
    · obtain ⟨e, he, -, -, g3, -⟩ := h.get gy
      rw [he] at c2
      have := g3 c2
      omega
  · cases hF
def ai_ladd : List ai_e → ai_v → ai_v → Option (List ai_e × ai_v) := ai_lop false fun p q => (p.1 + q.1, p.2 + q.2)
theorem ai_ladd_ok : ai_P2 ai_ladd (fun j => false = true → ¬ j = 0) (fun i j => i + j) := ai_lop_ok fun p q i j a1 a2 b1 b2 hr => by
  have := ai_lrs hr
  dsimp only at this ⊢
  rw [ai_addL] <;> omega
def ai_ltop (nz : Bool) : List ai_e → ai_v → ai_v → Option (List ai_e × ai_v) := ai_lop nz fun _ _ => (-9223372036854775808, 9223372036854775807)
theorem ai_ltop_ok (nz : Bool) (f : Int64 → Int64 → Int64) : ai_P2 (ai_ltop nz) (fun j => nz = true → ¬ j = 0) f := ai_lop_ok fun p q i j a1 a2 b1 b2 hr => ai_lrg _
theorem ai_mulL {i j : Int64} (h1 : -9223372036854775808 ≤ i.toInt * j.toInt) (h2 : i.toInt * j.toInt ≤ 9223372036854775807) : (i * j).toInt = i.toInt * j.toInt := by
  rw [Int64.toInt_mul, Int.bmod_eq_of_le] <;> omega
def ai_lmul : List ai_e → ai_v → ai_v → Option (List ai_e × ai_v) := ai_lop false fun p q => (ai_mn (p.1 * q.1) (p.1 * q.2) (p.2 * q.1) (p.2 * q.2), ai_mx (p.1 * q.1) (p.1 * q.2) (p.2 * q.1) (p.2 * q.2))
theorem ai_lmul_ok : ai_P2 ai_lmul (fun j => false = true → ¬ j = 0) (fun i j => i * j) := ai_lop_ok fun p q i j a1 a2 b1 b2 hr => by
  have c3 := ai_lrs hr
  have c4 := ai_prod a1 a2 b1 b2
  dsimp only at c3 ⊢
  rw [ai_mulL] <;> omega
end
section
/-! the cells, each of a fixed kind: (0, its class, its fields), (1, its length, its elements' bounds, as often as wanted) of ints, (2, ..) of booleans, (3, length, -) of longs, (4, length, rows) -/
abbrev ai_f : Type := Nat × Nat × Int × Int
abbrev ai_ty : Type := List (ClassId × FieldType)
def ai_fd (ad : List Nat) (f : ai_f) (x : Value) : Prop :=
  (f.1 = 0 ∧ ∃ q, ad[f.2.1]? = some q ∧ x = .ref q) ∨ (f.1 = 1 ∧ ∃ i : Int32, x = .int i ∧ f.2.2.1 ≤ i.toInt ∧ i.toInt ≤ f.2.2.2) ∨ (f.1 = 2 ∧ ∃ i : Int64, x = .long i)
def ai_hasT (tys : ai_ty) (cA : ClassId) (ty : FieldType) : Prop := ∃ k : Nat, tys[k]? = some (cA, ty)
def ai_pt (pat : List ai_f) (i : Nat) : Option ai_f := pat[i % pat.length]?
def ai_ety (n : Nat) : FieldType := if n = 1 then .int else .boolean
def ai_ce (ad : List Nat) (tys : ai_ty) (t : ai_c) (e : va_E) : Prop :=
  (t.1 = 0 ∧ ∃ fs : List Value, e = .inr (t.2.1, fs) ∧ fs.length = t.2.2.length ∧ ∀ (i : Nat) (f : ai_f), t.2.2[i]? = some f → ∃ x, fs[i]? = some x ∧ ai_fd ad f x) ∨
  ((t.1 = 1 ∨ t.1 = 2) ∧ ∃ (cA : ClassId) (f : Nat → Int32), e = .inl (cA, t.2.1, .inl f) ∧ ai_hasT tys cA (ai_ety t.1) ∧ ∀ (i : Nat) (q : ai_f), i < t.2.1 → ai_pt t.2.2 i = some q → q.2.2.1 ≤ (f i).toInt ∧ (f i).toInt ≤ q.2.2.2) ∨
  (t.1 = 3 ∧ ∃ (cA : ClassId) (f : Nat → Int64), e = .inl (cA, t.2.1, .inr (.inl f)) ∧ ai_hasT tys cA .long) ∨
  (t.1 = 4 ∧ ∃ (cA : ClassId) (f : Nat → Option Nat), e = .inl (cA, t.2.1, .inr (.inr (.inr (.inr f)))) ∧ ai_hasT tys cA (.array .int) ∧ ∀ (i : Nat) (q : ai_f), t.2.2[i]? = some q → ∃ a, ad[q.2.1]? = some a ∧ f i = some a)
def ai_wd (TY : List ai_c) (ad : List Nat) (tys : ai_ty) (ws : va_W) : Prop :=
  ws.length = TY.length ∧ ad.length = TY.length ∧ (∀ (k : Nat) (q : Nat × va_E), ws[k]? = some q → ad[k]? = some q.1) ∧ ∀ (k : Nat) (t : ai_c) (q : Nat × va_E), TY[k]? = some t → ws[k]? = some q → ai_ce ad tys t q.2
theorem ai_wd.get {TY : List ai_c} {ad : List Nat} {tys : ai_ty} {ws : va_W} (h : ai_wd TY ad tys ws) {c : Nat} {t : ai_c} (ht : TY[c]? = some t) : ∃ (a : Nat) (e : va_E), ws[c]? = some (a, e) ∧ ad[c]? = some a ∧ ai_ce ad tys t e := by
  have hl : c < ws.length := by rw [h.1]; exact (List.getElem?_eq_some_iff.mp ht).1
  have h1 := List.getElem?_eq_getElem hl
  exact ⟨ws[c].1, ws[c].2, h1, h.2.2.1 _ _ h1, h.2.2.2 _ _ _ ht h1⟩
theorem ai_wd.set {TY : List ai_c} {ad : List Nat} {tys : ai_ty} {ws : va_W} (h : ai_wd TY ad tys ws) {c a : Nat} {t : ai_c} {e e' : va_E} (ht : TY[c]? = some t) (hc : ws[c]? = some (a, e)) (he : ai_ce ad tys t e') : ai_wd TY ad tys (ws.set c (a, e')) := by
  have hl : c < ws.length := (List.getElem?_eq_some_iff.mp hc).1
  refine ⟨by simp [h.1], h.2.1, fun k q hq => ?_, fun k t' q hk hq => ?_⟩
  · by_cases hk : c = k
    · subst hk
      rw [List.getElem?_set_self hl] at hq
      cases hq
      exact h.2.2.1 c (a, e) hc
    · rw [List.getElem?_set_ne hk] at hq
      exact h.2.2.1 k q hq
  · by_cases hck : c = k
    · subst hck
      rw [List.getElem?_set_self hl] at hq
      cases hq
      rw [ht] at hk
      cases hk
      exact he
    · rw [List.getElem?_set_ne hck] at hq
      exact h.2.2.2 k t' q hk hq
/-- what stands at a place of a cell -/
def ai_sl (ws : va_W) (c i : Nat) (x : Value) : Prop := ∃ (a : Nat) (e : va_E), ws[c]? = some (a, e) ∧ ((∃ (ci : Nat) (fs : List Value), e = .inr (ci, fs) ∧ fs[i]? = some x) ∨ (∃ (cA : ClassId) (n : Nat) (f : Nat → Int32), e = .inl (cA, n, .inl f) ∧ i < n ∧ x = .int (f i)) ∨ ∃ (cA : ClassId) (n : Nat) (f : Nat → Int64), e = .inl (cA, n, .inr (.inl f)) ∧ i < n ∧ x = .long (f i))
theorem fx_o_sl {w : va_W} {c i : Nat} {t : Int} (h : fx_o w c i = some t) : ∃ j : Int32, ai_sl w c i (.int j) ∧ j.toInt = t := by
  unfold fx_o at h
  split at h
  · rename_i a cA n f hw
    split at h
    · rename_i hi
      injection h with h
      exact ⟨f i, ⟨a, _, hw, Or.inr (Or.inl ⟨cA, n, f, rfl, hi, rfl⟩)⟩, h⟩
    · cases h
  · cases h
theorem fx_sl_o {w : va_W} {c i : Nat} {j : Int32} (h : ∃ (a : Nat) (cA : ClassId) (n : Nat) (f : Nat → Int32), w[c]? = some (a, .inl (cA, n, .inl f)) ∧ i < n ∧ f i = j) : fx_o w c i = some j.toInt := by
  obtain ⟨a, cA, n, f, h1, h2, h3⟩ := h
  unfold fx_o
  rw [h1]
  show (if i < n then some (f i).toInt else none) = _
  rw [if_pos h2, h3]
theorem ai_sl.fun {ws : va_W} {c i : Nat} {x y : Value} (h : ai_sl ws c i x) (k : ai_sl ws c i y) : x = y := by
  obtain ⟨a, e, h1, h2⟩ := h
  obtain ⟨a', e', k1, k2⟩ := k
  rw [h1] at k1
  cases k1
  rcases h2 with ⟨ci, fs, rfl, h2⟩ | ⟨cA, n, f, rfl, h2, h3⟩ | ⟨cA, n, f, rfl, h2, h3⟩
  · rcases k2 with ⟨ci', fs', q, k2⟩ | ⟨_, _, _, q, _⟩ | ⟨_, _, _, q, _⟩
    · cases q
      rw [h2] at k2
      cases k2
      rfl
    · cases q
    · cases q
  · rcases k2 with ⟨_, _, q, _⟩ | ⟨_, _, _, q, k2, k3⟩ | ⟨_, _, _, q, _⟩
    · cases q
    · cases q
      rw [h3, k3]
    · cases q
  · rcases k2 with ⟨_, _, q, _⟩ | ⟨_, _, _, q, _⟩ | ⟨_, _, _, q, k2, k3⟩
    · cases q
    · cases q
    · cases q
      rw [h3, k3]
theorem ai_sl.setF {ws : va_W} {c i a ci : Nat} {fs : List Value} {v : Value} (hc : ws[c]? = some (a, .inr (ci, fs))) {c' i' : Nat} {x : Value} (h : ai_sl ws c' i' x) (hne : c' = c → i' ≠ i) : ai_sl (ws.set c (a, .inr (ci, fs.set i v))) c' i' x := by
  have hl : c < ws.length := (List.getElem?_eq_some_iff.mp hc).1
  obtain ⟨a', e', h1, h2⟩ := h
  by_cases hk : c' = c
  · subst hk
    rw [hc] at h1
    cases h1
    rcases h2 with ⟨_, _, q, h2⟩ | ⟨_, _, _, q, _⟩ | ⟨_, _, _, q, _⟩
    · cases q
      refine ⟨a, _, List.getElem?_set_self hl, Or.inl ⟨ci, _, rfl, ?_⟩⟩
      rw [List.getElem?_set_ne (Ne.symm (hne rfl))]
      exact h2
    · cases q
    · cases q
  · exact ⟨a', e', by rw [List.getElem?_set_ne (fun q => hk q.symm)]; exact h1, h2⟩
theorem ai_sl.setA {ws : va_W} {c j a n : Nat} {cA : ClassId} {f g : Nat → Int32} (hc : ws[c]? = some (a, .inl (cA, n, .inl f))) {c' i' : Nat} {x : Value} (h : ai_sl ws c' i' x) (hne : c' = c → i' < n → g i' = f i') : ai_sl (ws.set c (a, .inl (cA, n, .inl g))) c' i' x := by
  have hl : c < ws.length := (List.getElem?_eq_some_iff.mp hc).1
  obtain ⟨a', e', h1, h2⟩ := h
  by_cases hk : c' = c
  · subst hk
    rw [hc] at h1
    cases h1
    rcases h2 with ⟨_, _, q, h2⟩ | ⟨_, _, _, q, h2, h3⟩ | ⟨_, _, _, q, h2, h3⟩
    · cases q
    · cases q
      exact ⟨a, _, List.getElem?_set_self hl, Or.inr (Or.inl ⟨cA, n, g, rfl, h2, by rw [hne rfl h2]; exact h3⟩)⟩
    · cases q
  · exact ⟨a', e', by rw [List.getElem?_set_ne (fun q => hk q.symm)]; exact h1, h2⟩
theorem ai_sl.setL {ws : va_W} {c a n : Nat} {cA : ClassId} {f g : Nat → Int64} (hc : ws[c]? = some (a, .inl (cA, n, .inr (.inl f)))) {c' i' : Nat} {x : Value} (h : ai_sl ws c' i' x) (hne : c' = c → i' < n → g i' = f i') : ai_sl (ws.set c (a, .inl (cA, n, .inr (.inl g)))) c' i' x := by
  have hl : c < ws.length := (List.getElem?_eq_some_iff.mp hc).1
  obtain ⟨a', e', h1, h2⟩ := h
  by_cases hk : c' = c
  · subst hk
    rw [hc] at h1
    cases h1
    rcases h2 with ⟨_, _, q, h2⟩ | ⟨_, _, _, q, h2, h3⟩ | ⟨_, _, _, q, h2, h3⟩
    · cases q
    · cases q
    · cases q
      exact ⟨a, _, List.getElem?_set_self hl, Or.inr (Or.inr ⟨cA, n, g, rfl, h2, by rw [hne rfl h2]; exact h3⟩)⟩
  · exact ⟨a', e', by rw [List.getElem?_set_ne (fun q => hk q.symm)]; exact h1, h2⟩
def ai_kn (ad : List Nat) (b : Nat) (r : List Int) (ws : va_W) (kn : List ai_k) : Prop := ∀ q ∈ kn, ∃ x, ai_sl ws q.1 q.2.1 x ∧ ai_dv ad b r q.2.2 x
theorem ai_kn.mono {ad : List Nat} {b : Nat} {r r' : List Int} {ws : va_W} {kn : List ai_k} (h : ai_kn ad b r ws kn) (e : ai_x r r') : ai_kn ad b r' ws kn := fun q hq => by
  obtain ⟨x, h1, h2⟩ := h q hq
  exact ⟨x, h1, h2.mono e⟩
/-- the places that may be written; nothing else changes -/
def ai_wr (WR : List (Nat × Nat × Nat)) (c lo hi : Nat) : Bool := WR.any fun q => (decide (q.1 = c) || decide (q.1 = 1000)) && decide (q.2.1 ≤ lo) && decide (hi < q.2.2)
def ai_fr (WR : List (Nat × Nat × Nat)) (w0 ws : va_W) : Prop := ∀ (c i : Nat) (x : Value), ai_wr WR c i i = false → ai_sl w0 c i x → ai_sl ws c i x
theorem ai_wr_in {WR : List (Nat × Nat × Nat)} {c lo hi i : Nat} (h : ai_wr WR c lo hi = true) (h1 : lo ≤ i) (h2 : i ≤ hi) : ai_wr WR c i i = true := by
  unfold ai_wr at *
  obtain ⟨q, hq, h⟩ := List.any_eq_true.mp h
  simp only [Bool.and_eq_true, Bool.or_eq_true, decide_eq_true_eq] at h
  exact List.any_eq_true.mpr ⟨q, hq, by simp only [Bool.and_eq_true, Bool.or_eq_true, decide_eq_true_eq]; omega⟩
/-- what is known of a place -/
def ai_lk (kn : List ai_k) (c i : Nat) : Option ai_v := (kn.find? fun q => Nat.beq q.2.1 i && Nat.beq q.1 c).map fun q => q.2.2
theorem ai_lk_ok {ad : List Nat} {b : Nat} {r : List Int} {ws : va_W} {kn : List ai_k} (h : ai_kn ad b r ws kn) {c i : Nat} {v : ai_v} (hv : ai_lk kn c i = some v) : ∃ x, ai_sl ws c i x ∧ ai_dv ad b r v x := by
  unfold ai_lk at hv
  obtain ⟨q, hq, rfl⟩ := Option.map_eq_some_iff.mp hv
  have hm := List.mem_of_find?_eq_some hq
  have hp := List.find?_some hq
  simp only [Bool.and_eq_true, ai_beq] at hp
  obtain ⟨x, h1, h2⟩ := h q hm
  rw [hp.2, hp.1] at h1
  exact ⟨x, h1, h2⟩
/-- a field read -/
def ai_rd (TY : List ai_c) (en : List ai_e) (kn : List ai_k) (ci c i : Nat) : Option (List ai_e × List ai_k × ai_v) :=
  (TY[c]?).bind fun t => if t.1 = 0 ∧ t.2.1 = ci then (t.2.2[i]?).bind fun f =>
    if f.1 = 0 then some (en, kn, (0, f.2.1, 0, 0))
    else if f.1 = 1 then (match ai_lk kn c i with
      | some v => some (en, kn, v)
      | none => some (ai_nu en f.2.2.1 f.2.2.2, (c, i, (1, en.length, 0, 0)) :: kn, (1, en.length, 0, 0)))
    else some (ai_nu en (-9223372036854775808) 9223372036854775807, kn, (2, en.length, 0, 0)) else none
theorem ai_rd_ok {TY : List ai_c} {ad : List Nat} {b : Nat} {tys : ai_ty} {r : List Int} {ws : va_W} {en : List ai_e} {kn : List ai_k} {ci c i : Nat} {q : List ai_e × List ai_k × ai_v} (h : ai_ok r en) (hw : ai_wd TY ad tys ws) (hk : ai_kn ad b r ws kn) (hq : ai_rd TY en kn ci c i = some q) :
    ∃ (a : Nat) (fs : List Value) (x : Value), ws[c]? = some (a, .inr (ci, fs)) ∧ ad[c]? = some a ∧ fs[i]? = some x ∧ ∃ r', ai_x r r' ∧ ai_ok r' q.1 ∧ ai_kn ad b r' ws q.2.1 ∧ ai_dv ad b r' q.2.2 x := by
  unfold ai_rd at hq
  obtain ⟨t, ht, hq⟩ := Option.bind_eq_some_iff.mp hq
  split at hq
  · rename_i hc
    obtain ⟨f, hf, hq⟩ := Option.bind_eq_some_iff.mp hq
    obtain ⟨a, e, w1, w2, w3⟩ := hw.get ht
    rcases w3 with ⟨-, fs, rfl, g1, g2⟩ | ⟨q1, -⟩ | ⟨q1, -⟩ | ⟨q1, -⟩
    · obtain ⟨x, k1, k2⟩ := g2 i f hf
      rw [hc.2] at w1
      refine ⟨a, fs, x, w1, w2, k1, ?_⟩
      have hsl : ai_sl ws c i x := ⟨a, _, w1, Or.inl ⟨ci, fs, rfl, k1⟩⟩
      split at hq
      · rename_i f0
        cases hq
        rcases k2 with ⟨-, k2⟩ | ⟨q1, -⟩ | ⟨q1, -⟩
        · exact ⟨r, ai_x.rf, h, hk, Or.inl ⟨rfl, k2⟩⟩
        · omega
        · omega
      · split at hq
        · rename_i f0 f1
          rcases k2 with ⟨q1, -⟩ | ⟨-, j, rfl, j1, j2⟩ | ⟨q1, -⟩
          · omega
          · split at hq
            · rename_i v hv
              cases hq
              obtain ⟨y, y1, y2⟩ := ai_lk_ok hk hv
              rw [hsl.fun y1]
              exact ⟨r, ai_x.rf, h, hk, y2⟩
            · cases hq
              have hd : ai_dv ad b (r ++ [j.toInt]) (1, en.length, 0, 0) (.int j) := Or.inr (Or.inl ⟨rfl, j.toInt, j, ai_last h.1, rfl, by show j.toInt = j.toInt + 0; omega⟩)
              refine ⟨r ++ [j.toInt], ai_x.push, h.nu j1 j2, ?_, hd⟩
              intro k hkm
              rcases List.mem_cons.mp hkm with rfl | hkm
              · exact ⟨_, hsl, hd⟩
              · exact hk.mono ai_x.push k hkm
          · omega
        · rename_i f0 f1
          rcases k2 with ⟨q1, -⟩ | ⟨q1, -⟩ | ⟨-, j, rfl⟩
          · omega
          · omega
          · cases hq
            exact ⟨r ++ [j.toInt], ai_x.push, h.nu (ai_lrg j).1 (ai_lrg j).2, hk.mono ai_x.push, Or.inr (Or.inr (Or.inl ⟨rfl, j.toInt, j, ai_last h.1, rfl, by show j.toInt = j.toInt + 0; omega⟩))⟩
    · omega
    · omega
    · omega
  · cases hq
def ai_dr (kn : List ai_k) (c lo hi : Nat) : List ai_k := kn.filter fun q => !(Nat.beq q.1 c && (Nat.ble lo q.2.1 && Nat.ble q.2.1 hi))
theorem ai_dr_in {kn : List ai_k} {c lo hi : Nat} {q : ai_k} (h : q ∈ ai_dr kn c lo hi) : q ∈ kn ∧ (q.1 = c → q.2.1 < lo ∨ hi < q.2.1) := by
  unfold ai_dr at h
  obtain ⟨h1, h2⟩ := List.mem_filter.mp h
  refine ⟨h1, fun hc => ?_⟩
  have h2 : ¬ (Nat.beq q.1 c && (Nat.ble lo q.2.1 && Nat.ble q.2.1 hi)) = true := fun h => by rw [h] at h2; cases h2
  rw [Bool.and_eq_true, Bool.and_eq_true, ai_beq, Nat.ble_eq, Nat.ble_eq] at h2
  omega
/-- a field written: an int within its bounds, or a long -/
def ai_wf (TY : List ai_c) (WR : List (Nat × Nat × Nat)) (en : List ai_e) (kn : List ai_k) (ci c i : Nat) (v : ai_v) : Option (List ai_k) :=
  (TY[c]?).bind fun t => if t.1 = 0 ∧ t.2.1 = ci ∧ ai_wr WR c i i = true then (t.2.2[i]?).bind fun f =>
    if f.1 = 1 then (ai_i en v).bind fun p => if f.2.2.1 ≤ p.1 ∧ p.2 ≤ f.2.2.2 then some ((c, i, v) :: ai_dr kn c i i) else none
    else if f.1 = 2 ∧ v.1 = 2 then some (ai_dr kn c i i) else none else none
theorem ai_wf_ok {TY : List ai_c} {WR : List (Nat × Nat × Nat)} {ad : List Nat} {b : Nat} {tys : ai_ty} {r : List Int} {w0 ws : va_W} {en : List ai_e} {kn kn' : List ai_k} {ci c i : Nat} {v : ai_v} {x : Value} (h : ai_ok r en) (hw : ai_wd TY ad tys ws) (hk : ai_kn ad b r ws kn) (hfr : ai_fr WR w0 ws) (hv : ai_dv ad b r v x) (hq : ai_wf TY WR en kn ci c i v = some kn') :
    ∃ (a : Nat) (fs : List Value), ws[c]? = some (a, .inr (ci, fs)) ∧ ad[c]? = some a ∧ i < fs.length ∧ ((∃ j : Int32, x = .int j) ∨ ∃ j : Int64, x = .long j) ∧ ai_wd TY ad tys (ws.set c (a, .inr (ci, fs.set i x))) ∧ ai_kn ad b r (ws.set c (a, .inr (ci, fs.set i x))) kn' ∧ ai_fr WR w0 (ws.set c (a, .inr (ci, fs.set i x))) ∧ ((TY[c]?).bind fun t => t.2.2[i]?).map (fun f => f.1) = some (match x with | .int _ => 1 | _ => 2) := by
  unfold ai_wf at hq
  obtain ⟨t, ht, hq⟩ := Option.bind_eq_some_iff.mp hq
  split at hq
  · rename_i hc
    obtain ⟨f, hf, hq⟩ := Option.bind_eq_some_iff.mp hq
    obtain ⟨a, e, w1, w2, w3⟩ := hw.get ht
    rcases w3 with ⟨t0, fs, rfl, g1, g2⟩ | ⟨q1, -⟩ | ⟨q1, -⟩ | ⟨q1, -⟩
    · have hi : i < fs.length := by rw [g1]; exact (List.getElem?_eq_some_iff.mp hf).1
      have w1' : ws[c]? = some (a, .inr (ci, fs)) := by rw [← hc.2.1]; exact w1
      have hl : c < ws.length := (List.getElem?_eq_some_iff.mp w1).1
      have key : ∀ (y : Value), ai_fd ad f y → ai_wd TY ad tys (ws.set c (a, .inr (ci, fs.set i y))) := fun y hy => by
        refine hw.set ht w1' (Or.inl ⟨t0, fs.set i y, by rw [hc.2.1], by simp [g1], fun j g hj => ?_⟩)
        by_cases hij : i = j
        · subst hij
          rw [hf] at hj
          cases hj
          exact ⟨y, List.getElem?_set_self hi, hy⟩
        · rw [List.getElem?_set_ne hij]
          exact g2 j g hj
      have key2 : ∀ (y : Value), ai_fr WR w0 (ws.set c (a, .inr (ci, fs.set i y))) := fun y c' i' z hz h0 => by
        refine (hfr c' i' z hz h0).setF w1' (fun hcc hii => ?_)
        subst hcc
        subst hii
        rw [hc.2.2] at hz
        cases hz
      have key3 : ∀ (y : Value), ai_kn ad b r (ws.set c (a, .inr (ci, fs.set i y))) (ai_dr kn c i i) := fun y q hq => by
        obtain ⟨m1, m2⟩ := ai_dr_in hq
        obtain ⟨z, z1, z2⟩ := hk q m1
        exact ⟨z, z1.setF w1' (fun hcc => by have := m2 hcc; omega), z2⟩
      split at hq
      · rename_i f1
        obtain ⟨p, hp, hq⟩ := Option.bind_eq_some_iff.mp hq
        split at hq
        · rename_i hb
          cases hq
          obtain ⟨-, zz, j, k1, rfl, k3, k4, k5⟩ := ai_i_ok h hv hp
          refine ⟨a, fs, w1', w2, hi, Or.inl ⟨j, rfl⟩, key _ (Or.inr (Or.inl ⟨f1, j, rfl, by omega, by omega⟩)), ?_, key2 _, by rw [ht]; simp [hf, f1]⟩
          intro q hq
          rcases List.mem_cons.mp hq with rfl | hq
          · exact ⟨.int j, ⟨a, _, List.getElem?_set_self hl, Or.inl ⟨ci, _, rfl, List.getElem?_set_self hi⟩⟩, hv⟩
          · exact key3 _ q hq
        · cases hq
      · split at hq
        · rename_i f1 f2
          cases hq
          rcases hv with ⟨q1, -⟩ | ⟨q1, -⟩ | ⟨-, z, j, j1, rfl, j3⟩ | ⟨q1, -⟩ | ⟨q1, -⟩
          · omega
          · omega
          · exact ⟨a, fs, w1', w2, hi, Or.inr ⟨j, rfl⟩, key _ (Or.inr (Or.inr ⟨f2.1, j, rfl⟩)), key3 _, key2 _, by rw [ht]; simp [hf, f2.1]⟩
          · omega
          · omega
        · cases hq
    · omega
    · omega
    · omega
  · cases hq
end
section
/-! arrays -/
/-- the hull of the bounds of the elements lo .. lo + k -/
def ai_hl (pat : List ai_f) (lo : Nat) : Nat → Option (Int × Int)
  | 0 => (ai_pt pat lo).map fun q => (q.2.2.1, q.2.2.2)
  | k + 1 => (ai_hl pat lo k).bind fun w => (ai_pt pat (lo + (k + 1))).map fun q => (min w.1 q.2.2.1, max w.2 q.2.2.2)
theorem ai_hl_ok {pat : List ai_f} {lo : Nat} : ∀ {k : Nat} {w : Int × Int}, ai_hl pat lo k = some w → ∀ j, lo ≤ j → j ≤ lo + k → ∃ q, ai_pt pat j = some q ∧ w.1 ≤ q.2.2.1 ∧ q.2.2.2 ≤ w.2
  | 0, w, h, j, h1, h2 => by
    have e : j = lo := by omega
    subst e
    obtain ⟨q, hq, rfl⟩ := Option.map_eq_some_iff.mp (show (ai_pt pat j).map _ = some w from h)
    exact ⟨q, hq, Int.le_refl _, Int.le_refl _⟩
  | k + 1, w, h, j, h1, h2 => by
    obtain ⟨v, hv, h⟩ := Option.bind_eq_some_iff.mp (show (ai_hl pat lo k).bind _ = some w from h)
    obtain ⟨q, hq, rfl⟩ := Option.map_eq_some_iff.mp h
    by_cases hj : j = lo + (k + 1)
    · subst hj
      exact ⟨q, hq, by dsimp only; omega, by dsimp only; omega⟩
    · obtain ⟨q', h3, h4, h5⟩ := ai_hl_ok hv j h1 (by omega)
      exact ⟨q', h3, by dsimp only; omega, by dsimp only; omega⟩
/-- all the elements lo .. lo + k take what lies within p -/
def ai_ft (pat : List ai_f) (p : Int × Int) (lo : Nat) : Nat → Bool
  | 0 => (ai_pt pat lo).all fun q => decide (q.2.2.1 ≤ p.1) && decide (p.2 ≤ q.2.2.2)
  | k + 1 => ((ai_pt pat (lo + (k + 1))).all fun q => decide (q.2.2.1 ≤ p.1) && decide (p.2 ≤ q.2.2.2)) && ai_ft pat p lo k
theorem ai_ft_ok {pat : List ai_f} {p : Int × Int} {lo : Nat} : ∀ {k : Nat}, ai_ft pat p lo k = true → ∀ (j : Nat) (q : ai_f), lo ≤ j → j ≤ lo + k → ai_pt pat j = some q → q.2.2.1 ≤ p.1 ∧ p.2 ≤ q.2.2.2
  | 0, h, j, q, h1, h2, h3 => by
    have e : j = lo := by omega
    subst e
    have h : ((ai_pt pat j).all fun q => decide (q.2.2.1 ≤ p.1) && decide (p.2 ≤ q.2.2.2)) = true := h
    rw [h3] at h
    simpa using h
  | k + 1, h, j, q, h1, h2, h3 => by
    have h : (((ai_pt pat (lo + (k + 1))).all fun q => decide (q.2.2.1 ≤ p.1) && decide (p.2 ≤ q.2.2.2)) && ai_ft pat p lo k) = true := h
    rw [Bool.and_eq_true] at h
    by_cases hj : j = lo + (k + 1)
    · subst hj
      have h := h.1
      rw [h3] at h
      simpa using h
    · exact ai_ft_ok h.2 j q h1 (by omega) h3
def ai_hull (pat : List ai_f) (lo k : Nat) : Option (Int × Int) := if pat.length = 1 then ai_hl pat 0 0 else ai_hl pat lo k
theorem ai_hull_ok {pat : List ai_f} {lo k : Nat} {w : Int × Int} (h : ai_hull pat lo k = some w) (j : Nat) (h1 : lo ≤ j) (h2 : j ≤ lo + k) : ∃ q, ai_pt pat j = some q ∧ w.1 ≤ q.2.2.1 ∧ q.2.2.2 ≤ w.2 := by
  unfold ai_hull at h
  split at h
  · rename_i hl
    obtain ⟨q, a1, a2, a3⟩ := ai_hl_ok h 0 (by omega) (by omega)
    have e0 : ai_pt pat 0 = ai_pt pat j := by
      unfold ai_pt
      rw [hl, Nat.mod_one, Nat.mod_one]
    exact ⟨q, e0.symm.trans a1, a2, a3⟩
  · exact ai_hl_ok h j h1 h2
def ai_fit (pat : List ai_f) (p : Int × Int) (lo k : Nat) : Bool := if pat.length = 1 then ai_ft pat p 0 0 else ai_ft pat p lo k
theorem ai_fit_ok {pat : List ai_f} {p : Int × Int} {lo k : Nat} (h : ai_fit pat p lo k = true) (j : Nat) (q : ai_f) (h1 : lo ≤ j) (h2 : j ≤ lo + k) (h3 : ai_pt pat j = some q) : q.2.2.1 ≤ p.1 ∧ p.2 ≤ q.2.2.2 := by
  unfold ai_fit at h
  split at h
  · rename_i hl
    have e0 : ai_pt pat 0 = ai_pt pat j := by
      unfold ai_pt
      rw [hl, Nat.mod_one, Nat.mod_one]
    exact ai_ft_ok h 0 q (by omega) (by omega) (e0.trans h3)
  · exact ai_ft_ok h j q h1 h2 h3
theorem ai_idx {i : Int32} {lo hi : Int} {n : Nat} (h1 : lo ≤ i.toInt) (h2 : i.toInt ≤ hi) (h3 : 0 ≤ lo) (h4 : hi < n) : vp_in i n ∧ lo.toNat ≤ i.toNatClampNeg ∧ i.toNatClampNeg ≤ lo.toNat + (hi.toNat - lo.toNat) ∧ i.toNatClampNeg < n := by
  have h : vp_in i n := vp_in_iff.mpr ⟨by omega, by omega⟩
  have e : (i.toNatClampNeg : Int) = i.toInt := by
    show ((i.toInt.toNat : Nat) : Int) = i.toInt
    omega
  exact ⟨h, by omega, by omega, by omega⟩
/-- an element read -/
def ai_ra (TY : List ai_c) (en : List ai_e) (kn : List ai_k) (tg c : Nat) (iv : ai_v) : Option (List ai_e × List ai_k × ai_v) :=
  (TY[c]?).bind fun t => (ai_i en iv).bind fun p => if t.1 = tg ∧ 0 ≤ p.1 ∧ p.2 < t.2.1 then
    (if p.1 = p.2 then (match ai_lk kn c p.1.toNat with
      | some v => some (en, kn, v)
      | none => (ai_hull t.2.2 p.1.toNat 0).map fun w => (ai_nu en w.1 w.2, (c, p.1.toNat, (1, en.length, 0, 0)) :: kn, (1, en.length, 0, 0)))
    else (ai_hull t.2.2 p.1.toNat (p.2.toNat - p.1.toNat)).map fun w => (ai_nu en w.1 w.2, kn, (1, en.length, 0, 0))) else none
theorem ai_ra_ok {TY : List ai_c} {ad : List Nat} {b : Nat} {tys : ai_ty} {r : List Int} {ws : va_W} {en : List ai_e} {kn : List ai_k} {tg c : Nat} {iv : ai_v} {vi : Value} {q : List ai_e × List ai_k × ai_v} (htg : tg = 1 ∨ tg = 2) (h : ai_ok r en) (hw : ai_wd TY ad tys ws) (hk : ai_kn ad b r ws kn) (hv : ai_dv ad b r iv vi) (hq : ai_ra TY en kn tg c iv = some q) :
    ∃ (a : Nat) (cA : ClassId) (n : Nat) (f : Nat → Int32) (i : Int32), vi = .int i ∧ ws[c]? = some (a, .inl (cA, n, .inl f)) ∧ ad[c]? = some a ∧ ai_hasT tys cA (ai_ety tg) ∧ vp_in i n ∧ ∃ r', ai_x r r' ∧ ai_ok r' q.1 ∧ ai_kn ad b r' ws q.2.1 ∧ ai_dv ad b r' q.2.2 (.int (f i.toNatClampNeg)) := by
  unfold ai_ra at hq
  obtain ⟨t, ht, hq⟩ := Option.bind_eq_some_iff.mp hq
  obtain ⟨p, hp, hq⟩ := Option.bind_eq_some_iff.mp hq
  obtain ⟨-, z, i, -, rfl, -, i1, i2⟩ := ai_i_ok h hv hp
  split at hq
  · rename_i hc
    obtain ⟨c1, c2, c3⟩ := hc
    obtain ⟨a, e, w1, w2, w3⟩ := hw.get ht
    rcases w3 with ⟨q1, -⟩ | ⟨-, cA, f, rfl, g1, g2⟩ | ⟨q1, -⟩ | ⟨q1, -⟩
    · omega
    · obtain ⟨x1, x2, x3, x4⟩ := ai_idx i1 i2 c2 c3
      rw [c1] at g1
      refine ⟨a, cA, t.2.1, f, i, rfl, w1, w2, g1, x1, ?_⟩
      have hsl : ai_sl ws c i.toNatClampNeg (.int (f i.toNatClampNeg)) := ⟨a, _, w1, Or.inr (Or.inl ⟨cA, t.2.1, f, rfl, x4, rfl⟩)⟩
      have hd : ai_dv ad b (r ++ [(f i.toNatClampNeg).toInt]) (1, en.length, 0, 0) (.int (f i.toNatClampNeg)) := Or.inr (Or.inl ⟨rfl, _, _, ai_last h.1, rfl, by show (f i.toNatClampNeg).toInt = (f i.toNatClampNeg).toInt + 0; omega⟩)
      split at hq
      · rename_i hpp
        have hi : i.toNatClampNeg = p.1.toNat := by omega
        split at hq
        · rename_i v hv'
          cases hq
          obtain ⟨y, y1, y2⟩ := ai_lk_ok hk hv'
          rw [← hi] at y1
          rw [hsl.fun y1]
          exact ⟨r, ai_x.rf, h, hk, y2⟩
        · obtain ⟨w, hw', rfl⟩ := Option.map_eq_some_iff.mp hq
          obtain ⟨qq, k1, k2, k3⟩ := ai_hull_ok hw' i.toNatClampNeg (by omega) (by omega)
          have := g2 _ _ x4 k1
          refine ⟨r ++ [(f i.toNatClampNeg).toInt], ai_x.push, h.nu (by omega) (by omega), ?_, hd⟩
          intro k hkm
          rcases List.mem_cons.mp hkm with rfl | hkm
          · exact ⟨_, by rw [← hi]; exact hsl, hd⟩
          · exact hk.mono ai_x.push k hkm
      · obtain ⟨w, hw', rfl⟩ := Option.map_eq_some_iff.mp hq
        obtain ⟨qq, k1, k2, k3⟩ := ai_hull_ok hw' i.toNatClampNeg (by omega) (by omega)
        have := g2 _ _ x4 k1
        exact ⟨r ++ [(f i.toNatClampNeg).toInt], ai_x.push, h.nu (by omega) (by omega), hk.mono ai_x.push, hd⟩
    · omega
    · omega
  · cases hq
/-- an element written -/
def ai_wa (TY : List ai_c) (WR : List (Nat × Nat × Nat)) (en : List ai_e) (kn : List ai_k) (tg c : Nat) (iv v : ai_v) : Option (List ai_k) :=
  (TY[c]?).bind fun t => (ai_i en iv).bind fun p => (ai_i en v).bind fun w =>
    if t.1 = tg ∧ 0 ≤ p.1 ∧ p.2 < t.2.1 ∧ ai_wr WR c p.1.toNat p.2.toNat = true ∧ ai_fit t.2.2 w p.1.toNat (p.2.toNat - p.1.toNat) = true ∧ (tg = 1 ∨ (0 ≤ w.1 ∧ w.2 ≤ 1)) then
      some (if p.1 = p.2 then (c, p.1.toNat, v) :: ai_dr kn c p.1.toNat p.2.toNat else ai_dr kn c p.1.toNat p.2.toNat) else none
theorem ai_upd_ne {f : Nat → Int32} {k j : Nat} {x : Int32} (h : j ≠ k) : upd f k x j = f j := pk_un h
theorem ai_wa_ok {TY : List ai_c} {WR : List (Nat × Nat × Nat)} {ad : List Nat} {b : Nat} {tys : ai_ty} {r : List Int} {w0 ws : va_W} {en : List ai_e} {kn kn' : List ai_k} {tg c : Nat} {iv v : ai_v} {vi x : Value} (htg : tg = 1 ∨ tg = 2) (h : ai_ok r en) (hw : ai_wd TY ad tys ws) (hk : ai_kn ad b r ws kn) (hfr : ai_fr WR w0 ws) (hi : ai_dv ad b r iv vi) (hv : ai_dv ad b r v x) (hq : ai_wa TY WR en kn tg c iv v = some kn') :
    ∃ (a : Nat) (cA : ClassId) (n : Nat) (f : Nat → Int32) (i j : Int32), vi = .int i ∧ x = .int j ∧ ws[c]? = some (a, .inl (cA, n, .inl f)) ∧ ad[c]? = some a ∧ ai_hasT tys cA (ai_ety tg) ∧ vp_in i n ∧ (tg = 1 ∨ (0 ≤ j.toInt ∧ j.toInt ≤ 1)) ∧
      ai_wd TY ad tys (ws.set c (a, .inl (cA, n, .inl (upd f i.toNatClampNeg j)))) ∧ ai_kn ad b r (ws.set c (a, .inl (cA, n, .inl (upd f i.toNatClampNeg j)))) kn' ∧ ai_fr WR w0 (ws.set c (a, .inl (cA, n, .inl (upd f i.toNatClampNeg j)))) := by
  unfold ai_wa at hq
  obtain ⟨t, ht, hq⟩ := Option.bind_eq_some_iff.mp hq
  obtain ⟨p, hp, hq⟩ := Option.bind_eq_some_iff.mp hq
  obtain ⟨w, hw', hq⟩ := Option.bind_eq_some_iff.mp hq
  obtain ⟨-, z, i, -, rfl, -, i1, i2⟩ := ai_i_ok h hi hp
  obtain ⟨-, z2, j, -, rfl, -, j1, j2⟩ := ai_i_ok h hv hw'
  split at hq
  · rename_i hc
    obtain ⟨c1, c2, c3, c4, c5, c6⟩ := hc
    obtain ⟨a, e, w1, w2, w3⟩ := hw.get ht
    rcases w3 with ⟨q1, -⟩ | ⟨t0, cA, f, rfl, g1, g2⟩ | ⟨q1, -⟩ | ⟨q1, -⟩
    · omega
    · obtain ⟨x1, x2, x3, x4⟩ := ai_idx i1 i2 c2 c3
      have hl : c < ws.length := (List.getElem?_eq_some_iff.mp w1).1
      have hd : ai_kn ad b r (ws.set c (a, .inl (cA, t.2.1, .inl (upd f i.toNatClampNeg j)))) (ai_dr kn c p.1.toNat p.2.toNat) := fun q hq => by
        obtain ⟨m1, m2⟩ := ai_dr_in hq
        obtain ⟨y, y1, y2⟩ := hk q m1
        exact ⟨y, y1.setA (j := 0) w1 (fun hcc _ => ai_upd_ne (by have := m2 hcc; omega)), y2⟩
      refine ⟨a, cA, t.2.1, f, i, j, rfl, rfl, w1, w2, by rw [← c1]; exact g1, x1, ?_, ?_, ?_, ?_⟩
      · rcases c6 with c6 | c6
        · exact Or.inl c6
        · exact Or.inr ⟨by omega, by omega⟩
      · refine hw.set ht w1 (Or.inr (Or.inl ⟨t0, cA, _, rfl, g1, fun k q hk1 hk2 => ?_⟩))
        by_cases hki : k = i.toNatClampNeg
        · subst hki
          have := ai_fit_ok c5 _ q (by omega) (by omega) hk2
          rw [pk_us]
          omega
        · rw [ai_upd_ne hki]
          exact g2 k q hk1 hk2
      · cases hq
        split
        · rename_i hpp
          intro q hq
          rcases List.mem_cons.mp hq with rfl | hq
          · refine ⟨.int j, ⟨a, _, List.getElem?_set_self hl, Or.inr (Or.inl ⟨cA, _, _, rfl, by show p.1.toNat < _; omega, ?_⟩)⟩, hv⟩
            show _ = Value.int (upd f _ _ p.1.toNat)
            rw [show p.1.toNat = i.toNatClampNeg by omega, pk_us]
          · exact hd q hq
        · exact hd
      · intro c' i' y hy h0
        refine (hfr c' i' y hy h0).setA (j := 0) w1 (fun hcc _ => ai_upd_ne (fun hii => ?_))
        subst hcc
        subst hii
        rw [ai_wr_in c4 (by omega) (by omega)] at hy
        cases hy
    · omega
    · omega
  · cases hq
end
section
/-! the state of a walk, and what it stands for -/
def ai_sk (ad : List Nat) (b : Nat) (r : List Int) : List ai_v → List Value → Prop
  | [], [] => True
  | v :: vs, x :: xs => ai_dv ad b r v x ∧ ai_sk ad b r vs xs
  | _, _ => False
def ai_lo (ad : List Nat) (b : Nat) (r : List Int) : List (Nat × ai_v) → List (Nat × Value) → Prop
  | [], [] => True
  | q :: qs, y :: ys => q.1 = y.1 ∧ ai_dv ad b r q.2 y.2 ∧ ai_lo ad b r qs ys
  | _, _ => False
theorem ai_sk.mono {ad : List Nat} {b : Nat} {r r' : List Int} (e : ai_x r r') : ∀ {vs : List ai_v} {xs : List Value}, ai_sk ad b r vs xs → ai_sk ad b r' vs xs
  | [], [], _ => trivial
  | _ :: _, _ :: _, h => ⟨h.1.mono e, ai_sk.mono e h.2⟩
  | [], _ :: _, h => h.elim
  | _ :: _, [], h => h.elim
theorem ai_lo.mono {ad : List Nat} {b : Nat} {r r' : List Int} (e : ai_x r r') : ∀ {vs : List (Nat × ai_v)} {xs : List (Nat × Value)}, ai_lo ad b r vs xs → ai_lo ad b r' vs xs
  | [], [], _ => trivial
  | _ :: _, _ :: _, h => ⟨h.1, h.2.1.mono e, ai_lo.mono e h.2.2⟩
  | [], _ :: _, h => h.elim
  | _ :: _, [], h => h.elim
theorem ai_sk.cons {ad : List Nat} {b : Nat} {r : List Int} {v : ai_v} {vs : List ai_v} {xs : List Value} (h : ai_sk ad b r (v :: vs) xs) : ∃ (x : Value) (ys : List Value), xs = x :: ys ∧ ai_dv ad b r v x ∧ ai_sk ad b r vs ys := by
  cases xs with
  | nil => exact h.elim
  | cons x ys => exact ⟨x, ys, rfl, h.1, h.2⟩
theorem ai_sk.nil {ad : List Nat} {b : Nat} {r : List Int} {xs : List Value} (h : ai_sk ad b r [] xs) : xs = [] := by
  cases xs with
  | nil => rfl
  | cons x ys => exact h.elim
theorem ai_dv.cat {ad : List Nat} {b : Nat} {r : List Int} {v : ai_v} {x : Value} (h : ai_dv ad b r v x) : x.category = if v.1 = 2 then 2 else 1 := by
  rcases h with ⟨h, q, -, rfl⟩ | ⟨h, z, i, -, rfl, -⟩ | ⟨h, z, i, -, rfl, -⟩ | ⟨h, z, w, i, -, -, rfl, -⟩ | ⟨h, rfl⟩ <;> rw [h] <;> rfl
def ai_get (lo : List (Nat × ai_v)) (i : Nat) : Option ai_v := (lo.find? fun q => Nat.beq q.1 i).map fun q => q.2
theorem ai_get_ok {ad : List Nat} {b : Nat} {r : List Int} {i : Nat} {v : ai_v} : ∀ {lo : List (Nat × ai_v)} {lv : List (Nat × Value)}, ai_lo ad b r lo lv → ai_get lo i = some v → ∃ (k : Nat) (x : Value), lv[k]? = some (i, x) ∧ ai_dv ad b r v x
  | [], [], _, hg => by cases hg
  | [], _ :: _, h, _ => h.elim
  | _ :: _, [], h, _ => h.elim
  | q :: qs, y :: ys, h, hg => by
    obtain ⟨h1, h2, h3⟩ := h
    unfold ai_get at hg
    rw [List.find?_cons] at hg
    by_cases hq : q.1 = i
    · rw [ai_beq.mpr hq] at hg
      cases hg
      exact ⟨0, y.2, by rw [← hq, h1]; rfl, h2⟩
    · rw [show Nat.beq q.1 i = false from Bool.eq_false_iff.mpr fun h => hq (ai_beq.mp h)] at hg
      obtain ⟨k, x, k1, k2⟩ := ai_get_ok h3 hg
      exact ⟨k + 1, x, k1, k2⟩
theorem ai_lo.filter {ad : List Nat} {b : Nat} {r : List Int} {f : Nat × ai_v → Bool} {g : Nat × Value → Bool} (hfg : ∀ (q : Nat × ai_v) (y : Nat × Value), q.1 = y.1 → ai_dv ad b r q.2 y.2 → f q = g y) : ∀ {lo : List (Nat × ai_v)} {lv : List (Nat × Value)}, ai_lo ad b r lo lv → ai_lo ad b r (lo.filter f) (lv.filter g)
  | [], [], _ => trivial
  | [], _ :: _, h => h.elim
  | _ :: _, [], h => h.elim
  | q :: qs, y :: ys, h => by
    obtain ⟨h1, h2, h3⟩ := h
    rw [List.filter_cons, List.filter_cons, hfg q y h1 h2]
    by_cases hg : g y = true
    · rw [if_pos hg, if_pos hg]
      exact ⟨h1, h2, ai_lo.filter hfg h3⟩
    · rw [if_neg hg, if_neg hg]
      exact ai_lo.filter hfg h3
/-- a store of one word, of two -/
def ai_st1 (lo : List (Nat × ai_v)) (i : Nat) (v : ai_v) : List (Nat × ai_v) := (i, v) :: lo.filter fun q => !(q.1 == i) && !(q.1 + 1 == i && q.2.1 == 2)
def ai_st2 (lo : List (Nat × ai_v)) (i : Nat) (v : ai_v) : List (Nat × ai_v) := (i, v) :: lo.filter fun q => !(q.1 == i) && (!(q.1 == i + 1) && !(q.1 + 1 == i && q.2.1 == 2))
theorem ai_cat2 {ad : List Nat} {b : Nat} {r : List Int} {v : ai_v} {x : Value} (h : ai_dv ad b r v x) : (v.1 == 2) = (x.category == 2) := by
  rw [h.cat]
  by_cases hv : v.1 = 2
  · rw [hv]; rfl
  · rw [if_neg hv]
    simp [hv]
theorem ai_st1_ok {ad : List Nat} {b : Nat} {r : List Int} {lo : List (Nat × ai_v)} {lv : List (Nat × Value)} {i : Nat} {v : ai_v} {x : Value} (h : ai_lo ad b r lo lv) (hv : ai_dv ad b r v x) : ai_lo ad b r (ai_st1 lo i v) ((i, x) :: lv.filter (fun q => !(q.1 == i) && !(q.1 + 1 == i && q.2.category == 2))) :=
  ⟨rfl, hv, ai_lo.filter (fun q y h1 h2 => by rw [h1, ai_cat2 h2]) h⟩
theorem ai_st2_ok {ad : List Nat} {b : Nat} {r : List Int} {lo : List (Nat × ai_v)} {lv : List (Nat × Value)} {i : Nat} {v : ai_v} {x : Value} (h : ai_lo ad b r lo lv) (hv : ai_dv ad b r v x) : ai_lo ad b r (ai_st2 lo i v) ((i, x) :: lv.filter (fun q => !(q.1 == i) && (!(q.1 == i + 1) && !(q.1 + 1 == i && q.2.category == 2)))) :=
  ⟨rfl, hv, ai_lo.filter (fun q y h1 h2 => by rw [h1, ai_cat2 h2]) h⟩
/-- what a loop's head forgets: (kind, place, place, least, greatest, not 0, not below what it was), the locals and ranges of places that it drops, the measure, whether it grows -/
abbrev ai_a : Type := List (Nat × Nat × Nat × Int × Int × Bool × Bool) × List Nat × List (Nat × Nat × Nat) × Nat × Bool
/-- a method: its name, code, number of locals, answer's type, whether it reads the script, its instructions; its class's links: fields read, fields written, ints, longs, methods -/
abbrev ai_t : Type := List (Nat × Instr × Nat) × List (Nat × Nat × Nat) × List (Nat × Nat × Nat × Nat) × List (Nat × Int) × List (Nat × Int) × List (Nat × Nat × Nat × Nat × Nat) × List (Nat × ai_a)
abbrev ai_m : Type := MethodName × ByteArray × Nat × Option FieldType × Bool × ai_t
def ai_GT : List Cond := lw_tbl.filter goodWord
def ai_NW : List Cond := lw_tbl.filter fun w => match w with
  | .methodLinkNest _ _ _ _ => true
  | _ => false
def ai_JL : List Nat := [5, 5, 3, 3, 5, 6, 4]
def ai_JB : List (List Int32) := [[112, 108, 97, 105, 110], [115, 110, 97, 107, 101], [115, 101, 97], [97, 103, 101], [103, 117, 101, 115, 116], [108, 97, 117, 103, 104, 115], [112, 108, 97, 110]]
def ai_JX : List (Nat × String) := [(149, "plain"), (151, "snake"), (153, "sea"), (155, "age"), (157, "guest"), (159, "laughs"), (160, "plan")]
/-- the words' letters, and what the machine's own strings want -/
def ai_jt (adK adV : Nat → Nat) (A : Nat → Prop) (U : State) : Prop := vk_S 7 ai_JL ai_JB adK adV A U U.heap ∧ (∀ (i : Nat) (x : Nat × String), ai_JX[i]? = some x → vk_R RX2 x.1 x.2 (adK i) U) ∧ va_Z "java/lang/String" "COMPACT_STRINGS" "Z" (.int 1) A U U.heap ∧ va_Zq "jdk/internal/util/Preconditions" "SIOOBE_FORMATTER" "Ljava/util/function/BiFunction;" A U U.heap
theorem ai_jt.moved {adK adV : Nat → Nat} {A : Nat → Prop} {s U : State} {locs : List Loc} (hW : s.WarmedH U.vm) (hS : va_S A s.heap U.heap locs) (h : ai_jt adK adV A s) : ai_jt adK adV A U :=
  ⟨(h.1.kept hS.2.1).moved hW.alike, fun i x hx => (h.2.1 i x hx).warm hW, (h.2.2.1.kept hS.2.1).moved hW.alike, (h.2.2.2.kept hS.2.1).moved hW.alike⟩
theorem ai_jt.same {adK adV : Nat → Nat} {A : Nat → Prop} {s U : State} (hv : U.vm = s.vm) (hh : U.heap = s.heap) (h : ai_jt adK adV A s) : ai_jt adK adV A U := by
  have hal : s.vm.Alike U.vm := by rw [hv]; exact Vm.Alike.refl s.vm
  refine ⟨?_, fun i x hx => (h.2.1 i x hx).same hv, ?_, ?_⟩
  · rw [hh]; exact h.1.moved hal
  · rw [hh]; exact h.2.2.1.moved hal
  · rw [hh]; exact h.2.2.2.moved hal
def ai_nj (A : Nat → Prop) (U : State) : Prop := (∀ w ∈ ai_NW, va_Nw w U) ∧ ∃ adK adV : Nat → Nat, ai_jt adK adV A U
def ai_cx (M : ai_m) (d : Nat) (p : Program) (R : Room) (s : State) (m : MethodId) (args : Array Value) (c : Code) (D : va_G) (tys : ai_ty) (A : Nat → Prop) (b L : Nat) (xs : Nat → Int32) (cells slots : Nat) : Prop :=
  p.tables.exec = Jvm.exec ∧ c.code = M.2.1 ∧ c.maxLocals = M.2.2.1 ∧ s.vm.findClass M.1.cls = some m.cls ∧ (∀ w ∈ ai_GT, w.before args s = true) ∧ ai_nj A s ∧ va_K D vwCl tys s ∧ (∀ q, s.heap.size ≤ q → A q) ∧
  (d ≤ R.frames ∧ 36 * d ≤ R.locals ∧ cells ≤ R.cells ∧ slots ≤ R.slots) ∧ (M.2.2.2.2.1 = true → va_X b L xs s s.heap ∧ b < s.heap.size ∧ ¬ A b)
/-- the script's five ints at i (name 1) are the names 3 to 7 -/
def ai_sx (L : Nat) (sx : Nat → Int32) (r : List Int) : Prop := ∀ z : Int, r[1]? = some z → (0 ≤ z ∧ z + 4 < L) ∧ ∀ o : Nat, o ≤ 4 → r[3 + o]? = some (sx (z.toNat + o)).toInt
def ai_gm (TY : List ai_c) (WR : List (Nat × Nat × Nat)) (w0 : va_W) (ad : List Nat) (b L : Nat) (sx : Nat → Int32) (tys : ai_ty) (sc : Bool) (r : List Int) (st : ai_s) (lv : List (Nat × Value)) (sk : List Value) (ws : va_W) : Prop :=
  ai_ok r st.2.2.2.1 ∧ ai_sb w0 r st.2.2.2.2.2 ∧ ai_lo ad b r st.2.1 lv ∧ ai_sk ad b r st.2.2.1 sk ∧ ai_wd TY ad tys ws ∧ ai_kn ad b r ws st.2.2.2.2.1 ∧ ai_fr WR w0 ws ∧ (sc = true → ai_sx L sx r)
def ai_G (TY : List ai_c) (WR : List (Nat × Nat × Nat)) (w0 : va_W) (ad : List Nat) (M : ai_m) (p : Program) (l : Launch) (e : Env) (R : Room) (s : State) (m : MethodId) (args : Array Value) (below : List Frame) (meth : Method) (c : Code) (D : va_G) (tys : ai_ty) (A : Nat → Prop) (b L : Nat) (sx : Nat → Int32) (cells slots : Nat) (Q : State → Prop) (r0 : List Int) (st : ai_s) : Prop :=
  ∀ (r : List Int) (lv : List (Nat × Value)) (sk : List Value) (ws : va_W) (H : Heap) (locs : List Loc) (ls : Array Slot), ai_x r0 r → ai_gm TY WR w0 ad b L sx tys M.2.2.2.2.1 r st lv sk ws → va_P D vwCl ws H → va_D A ws → va_S A s.heap H locs → lv_has ls M.2.2.1 lv →
    W p l e R s m args below meth c H locs cells slots Q (F0 m st.1 ls sk)
section AIJ
variable {TY : List ai_c} {WR : List (Nat × Nat × Nat)} {w0 : va_W} {ad : List Nat} {M : ai_m} {d : Nat} {p : Program} {l : Launch} {e : Env} {R : Room} {s : State} {m : MethodId} {args : Array Value} {below : List Frame} {meth : Method} {c : Code} {D : va_G} {tys : ai_ty} {A : Nat → Prop} {b L : Nat} {sx : Nat → Int32} {cells slots : Nat} {Q : State → Prop} {r0 : List Int} {pc pc' : Nat} {lo : List (Nat × ai_v)} {sk : List ai_v} {en en' : List ai_e} {kn kn' : List ai_k} {sb sb' : List ai_b} {x y v : ai_v}
theorem ai_G.up {r1 : List Int} {st : ai_s} (h : ai_G TY WR w0 ad M p l e R s m args below meth c D tys A b L sx cells slots Q r0 st) (e1 : ai_x r0 r1) : ai_G TY WR w0 ad M p l e R s m args below meth c D tys A b L sx cells slots Q r1 st := fun r lv k ws H locs ls hx => h r lv k ws H locs ls (e1.tr hx)
theorem ai_sc1 {sc : Bool} {r r' : List Int} {L : Nat} {sx : Nat → Int32} (e1 : ai_x r r') (hl : 1 < r.length) (h : sc = true → ai_sx L sx r) : sc = true → ai_sx L sx r' := by
  intro hs z hz
  have hz' : r[1]? = some z := by
    obtain ⟨t, rfl⟩ := e1
    rw [List.getElem?_append_left hl] at hz
    exact hz
  obtain ⟨h1, h2⟩ := h hs z hz'
  exact ⟨h1, fun o ho => e1.at (h2 o ho)⟩
/-- two ints give one -/
theorem ai_J2 {F : List ai_e → List ai_b → ai_v → ai_v → Option ai_q} {side : Int32 → Prop} {f : Int32 → Int32 → Int32} {q : ai_q} (hO : ai_O2 F side f) (hn : 1 < en.length) (hq : F en sb x y = some q)
    (row : ∀ (H : Heap) (locs : List Loc) (ls : Array Slot) (rest : List Value) (i j : Int32), ls.size = M.2.2.1 → side j → W p l e R s m args below meth c H locs cells slots Q (F0 m pc' ls (.int (f i j) :: rest)) → W p l e R s m args below meth c H locs cells slots Q (F0 m pc ls (.int j :: .int i :: rest)))
    (k : ai_G TY WR w0 ad M p l e R s m args below meth c D tys A b L sx cells slots Q r0 (pc', lo, q.2.2 :: sk, q.1, kn, q.2.1)) : ai_G TY WR w0 ad M p l e R s m args below meth c D tys A b L sx cells slots Q r0 (pc, lo, y :: x :: sk, en, kn, sb) := by
  intro r lv skc ws H locs ls hx g hP hD hS hl
  obtain ⟨g1, g2, g3, g4, g5, g6, g7, g8⟩ := g
  obtain ⟨vy, s1, rfl, dy, k4⟩ := g4.cons
  obtain ⟨vx, s2, rfl, dx, k5⟩ := k4.cons
  obtain ⟨i, j, rfl, rfl, hs, r', e1, e2, e3, e4⟩ := hO w0 ad b r en sb x y vx vy q g1 g2 dx dy hq
  exact row H locs ls s2 i j hl.1 hs (k r' lv _ ws H locs ls (hx.tr e1) ⟨e2, e3, g3.mono e1, ⟨e4, k5.mono e1⟩, g5, g6.mono e1, g7, ai_sc1 e1 (by rw [g1.1]; exact hn) g8⟩ hP hD hS hl)
theorem ai_J2l {F : List ai_e → ai_v → ai_v → Option (List ai_e × ai_v)} {side : Int64 → Prop} {f : Int64 → Int64 → Int64} {q : List ai_e × ai_v} (hO : ai_P2 F side f) (hn : 1 < en.length) (hq : F en x y = some q)
    (row : ∀ (H : Heap) (locs : List Loc) (ls : Array Slot) (rest : List Value) (i j : Int64), side j → W p l e R s m args below meth c H locs cells slots Q (F0 m pc' ls (.long (f i j) :: rest)) → W p l e R s m args below meth c H locs cells slots Q (F0 m pc ls (.long j :: .long i :: rest)))
    (k : ai_G TY WR w0 ad M p l e R s m args below meth c D tys A b L sx cells slots Q r0 (pc', lo, q.2 :: sk, q.1, kn, sb)) : ai_G TY WR w0 ad M p l e R s m args below meth c D tys A b L sx cells slots Q r0 (pc, lo, y :: x :: sk, en, kn, sb) := by
  intro r lv skc ws H locs ls hx g hP hD hS hl
  obtain ⟨g1, g2, g3, g4, g5, g6, g7, g8⟩ := g
  obtain ⟨vy, s1, rfl, dy, k4⟩ := g4.cons
  obtain ⟨vx, s2, rfl, dx, k5⟩ := k4.cons
  obtain ⟨i, j, rfl, rfl, hs, r', e1, e2, e4⟩ := hO ad b r en x y vx vy q g1 dx dy hq
  exact row H locs ls s2 i j hs (k r' lv _ ws H locs ls (hx.tr e1) ⟨e2, g2.mono e1, g3.mono e1, ⟨e4, k5.mono e1⟩, g5, g6.mono e1, g7, ai_sc1 e1 (by rw [g1.1]; exact hn) g8⟩ hP hD hS hl)
/-- a constant -/
theorem ai_Jc {n : Int} {v : Int32} (hv : v.toInt = n) (hz : ai_z en = true)
    (row : ∀ (H : Heap) (locs : List Loc) (ls : Array Slot) (rest : List Value), W p l e R s m args below meth c H locs cells slots Q (F0 m pc' ls (.int v :: rest)) → W p l e R s m args below meth c H locs cells slots Q (F0 m pc ls rest))
    (k : ai_G TY WR w0 ad M p l e R s m args below meth c D tys A b L sx cells slots Q r0 (pc', lo, (1, 0, 0, n) :: sk, en, kn, sb)) : ai_G TY WR w0 ad M p l e R s m args below meth c D tys A b L sx cells slots Q r0 (pc, lo, sk, en, kn, sb) := by
  intro r lv skc ws H locs ls hx g hP hD hS hl
  obtain ⟨g1, g2, g3, g4, g5, g6, g7, g8⟩ := g
  exact row H locs ls skc (k r lv _ ws H locs ls hx ⟨g1, g2, g3, ⟨Or.inr (Or.inl ⟨rfl, 0, v, ai_z_ok g1 hz, rfl, by show v.toInt = 0 + n; omega⟩), g4⟩, g5, g6, g7, g8⟩ hP hD hS hl)
theorem ai_Jcl {n : Int} {v : Int64} (hv : v.toInt = n) (hz : ai_z en = true)
    (row : ∀ (H : Heap) (locs : List Loc) (ls : Array Slot) (rest : List Value), W p l e R s m args below meth c H locs cells slots Q (F0 m pc' ls (.long v :: rest)) → W p l e R s m args below meth c H locs cells slots Q (F0 m pc ls rest))
    (k : ai_G TY WR w0 ad M p l e R s m args below meth c D tys A b L sx cells slots Q r0 (pc', lo, (2, 0, 0, n) :: sk, en, kn, sb)) : ai_G TY WR w0 ad M p l e R s m args below meth c D tys A b L sx cells slots Q r0 (pc, lo, sk, en, kn, sb) := by
  intro r lv skc ws H locs ls hx g hP hD hS hl
  obtain ⟨g1, g2, g3, g4, g5, g6, g7, g8⟩ := g
  exact row H locs ls skc (k r lv _ ws H locs ls hx ⟨g1, g2, g3, ⟨Or.inr (Or.inr (Or.inl ⟨rfl, 0, v, ai_z_ok g1 hz, rfl, by show v.toInt = 0 + n; omega⟩)), g4⟩, g5, g6, g7, g8⟩ hP hD hS hl)
/-- a local's value comes on the stack -/
theorem ai_Jld {i : Nat} (hg : ai_get lo i = some v)
    (row : ∀ (H : Heap) (locs : List Loc) (ls : Array Slot) (rest : List Value) (w : Value) (r : List Int), ls[i]? = some (.val w) → ai_dv ad b r v w → W p l e R s m args below meth c H locs cells slots Q (F0 m pc' ls (w :: rest)) → W p l e R s m args below meth c H locs cells slots Q (F0 m pc ls rest))
    (k : ai_G TY WR w0 ad M p l e R s m args below meth c D tys A b L sx cells slots Q r0 (pc', lo, v :: sk, en, kn, sb)) : ai_G TY WR w0 ad M p l e R s m args below meth c D tys A b L sx cells slots Q r0 (pc, lo, sk, en, kn, sb) := by
  intro r lv skc ws H locs ls hx g hP hD hS hl
  obtain ⟨g1, g2, g3, g4, g5, g6, g7, g8⟩ := g
  obtain ⟨n, w, h1, h2⟩ := ai_get_ok g3 hg
  exact row H locs ls skc w r (lv_at hl n h1) h2 (k r lv _ ws H locs ls hx ⟨g1, g2, g3, ⟨h2, g4⟩, g5, g6, g7, g8⟩ hP hD hS hl)
/-- .. and goes into a local -/
theorem ai_Jst1 {i : Nat} (row : ∀ (H : Heap) (locs : List Loc) (ls : Array Slot) (lv : List (Nat × Value)) (rest : List Value) (w : Value) (r : List Int), lv_has ls M.2.2.1 lv → ai_dv ad b r v w →
      (∀ ls' : Array Slot, lv_has ls' M.2.2.1 ((i, w) :: lv.filter (fun q => !(q.1 == i) && !(q.1 + 1 == i && q.2.category == 2))) → W p l e R s m args below meth c H locs cells slots Q (F0 m pc' ls' rest)) → W p l e R s m args below meth c H locs cells slots Q (F0 m pc ls (w :: rest)))
    (k : ai_G TY WR w0 ad M p l e R s m args below meth c D tys A b L sx cells slots Q r0 (pc', ai_st1 lo i v, sk, en, kn, sb)) : ai_G TY WR w0 ad M p l e R s m args below meth c D tys A b L sx cells slots Q r0 (pc, lo, v :: sk, en, kn, sb) := by
  intro r lv skc ws H locs ls hx g hP hD hS hl
  obtain ⟨g1, g2, g3, g4, g5, g6, g7, g8⟩ := g
  obtain ⟨w, s1, rfl, dw, k5⟩ := g4.cons
  exact row H locs ls lv s1 w r hl dw (fun ls' hl' => k r _ s1 ws H locs ls' hx ⟨g1, g2, ai_st1_ok g3 dw, k5, g5, g6, g7, g8⟩ hP hD hS hl')
theorem ai_Jst2 {i : Nat} (row : ∀ (H : Heap) (locs : List Loc) (ls : Array Slot) (lv : List (Nat × Value)) (rest : List Value) (w : Value) (r : List Int), lv_has ls M.2.2.1 lv → ai_dv ad b r v w →
      (∀ ls' : Array Slot, lv_has ls' M.2.2.1 ((i, w) :: lv.filter (fun q => !(q.1 == i) && (!(q.1 == i + 1) && !(q.1 + 1 == i && q.2.category == 2)))) → W p l e R s m args below meth c H locs cells slots Q (F0 m pc' ls' rest)) → W p l e R s m args below meth c H locs cells slots Q (F0 m pc ls (w :: rest)))
    (k : ai_G TY WR w0 ad M p l e R s m args below meth c D tys A b L sx cells slots Q r0 (pc', ai_st2 lo i v, sk, en, kn, sb)) : ai_G TY WR w0 ad M p l e R s m args below meth c D tys A b L sx cells slots Q r0 (pc, lo, v :: sk, en, kn, sb) := by
  intro r lv skc ws H locs ls hx g hP hD hS hl
  obtain ⟨g1, g2, g3, g4, g5, g6, g7, g8⟩ := g
  obtain ⟨w, s1, rfl, dw, k5⟩ := g4.cons
  exact row H locs ls lv s1 w r hl dw (fun ls' hl' => k r _ s1 ws H locs ls' hx ⟨g1, g2, ai_st2_ok g3 dw, k5, g5, g6, g7, g8⟩ hP hD hS hl')
theorem ai_Jinc (C : ai_cx M d p R s m args c D tys A b L sx cells slots) {i : Nat} {n : Int} {q : ai_q} (hg : ai_get lo i = some v) (hz : ai_z en = true) (hn : 1 < en.length) (hr : ai_ir n n = true) (hi : i < M.2.2.1) (hq : ai_add en sb v (1, 0, 0, n) = some q) (hd : decode M.2.1 pc = .ok (.iinc i n, 3))
    (k : ai_G TY WR w0 ad M p l e R s m args below meth c D tys A b L sx cells slots Q r0 (pc + 3, ai_st1 lo i q.2.2, sk, q.1, kn, q.2.1)) : ai_G TY WR w0 ad M p l e R s m args below meth c D tys A b L sx cells slots Q r0 (pc, lo, sk, en, kn, sb) := by
  intro r lv skc ws H locs ls hx g hP hD hS hl
  obtain ⟨g1, g2, g3, g4, g5, g6, g7, g8⟩ := g
  obtain ⟨a, w, h1, h2⟩ := ai_get_ok g3 hg
  have hc : ai_dv ad b r (1, 0, 0, n) (.int (Int32.ofInt n)) := Or.inr (Or.inl ⟨rfl, 0, _, ai_z_ok g1 hz, rfl, by
    have := ai_irs hr
    show (Int32.ofInt n).toInt = 0 + n
    have hsz : (Int32.size : Int) = 4294967296 := rfl
    rw [Int32.toInt_ofInt, Int.bmod_eq_of_le] <;> omega⟩)
  obtain ⟨i', j', rfl, hj, -, r', e1, e2, e3, e4⟩ := ai_add_ok w0 ad b r en sb v _ w _ q g1 g2 h2 hc hq
  cases hj
  exact lv_iinc C.1 C.2.1 hd hl h1 rfl hi rfl (fun ls' hl' => k r' _ skc ws H locs ls' (hx.tr e1) ⟨e2, e3, ai_st1_ok (g3.mono e1) e4, g4.mono e1, g5, g6.mono e1, g7, ai_sc1 e1 (by rw [g1.1]; exact hn) g8⟩ hP hD hS hl')
/-- an int is known to be one, no more -/
theorem ai_Ju {f : Int32 → Int32} {w : Int × Int} (hn : 1 < en.length) (hq : ai_i en x = some w)
    (row : ∀ (H : Heap) (locs : List Loc) (ls : Array Slot) (rest : List Value) (i : Int32), W p l e R s m args below meth c H locs cells slots Q (F0 m pc' ls (.int (f i) :: rest)) → W p l e R s m args below meth c H locs cells slots Q (F0 m pc ls (.int i :: rest)))
    (k : ai_G TY WR w0 ad M p l e R s m args below meth c D tys A b L sx cells slots Q r0 (pc', lo, (1, en.length, 0, 0) :: sk, ai_nu en (-2147483648) 2147483647, kn, sb)) : ai_G TY WR w0 ad M p l e R s m args below meth c D tys A b L sx cells slots Q r0 (pc, lo, x :: sk, en, kn, sb) := by
  intro r lv skc ws H locs ls hx g hP hD hS hl
  obtain ⟨g1, g2, g3, g4, g5, g6, g7, g8⟩ := g
  obtain ⟨vx, s2, rfl, dx, k5⟩ := g4.cons
  obtain ⟨-, z, i, -, rfl, -⟩ := ai_i_ok g1 dx hq
  exact row H locs ls s2 i (k (r ++ [(f i).toInt]) lv _ ws H locs ls (hx.tr ai_x.push) ⟨g1.nu (ai_irg _).1 (ai_irg _).2, g2.mono ai_x.push, g3.mono ai_x.push, ⟨Or.inr (Or.inl ⟨rfl, _, _, ai_last g1.1, rfl, by show (f i).toInt = (f i).toInt + 0; omega⟩), k5.mono ai_x.push⟩, g5, g6.mono ai_x.push, g7, ai_sc1 ai_x.push (by rw [g1.1]; exact hn) g8⟩ hP hD hS hl)
/-- an int made long -/
theorem ai_Ji2l (C : ai_cx M d p R s m args c D tys A b L sx cells slots) (hx1 : x.1 = 1) (hd : decode M.2.1 pc = .ok (.i2l, 1)) (k : ai_G TY WR w0 ad M p l e R s m args below meth c D tys A b L sx cells slots Q r0 (pc + 1, lo, (2, x.2.1, 0, x.2.2.2) :: sk, en, kn, sb)) : ai_G TY WR w0 ad M p l e R s m args below meth c D tys A b L sx cells slots Q r0 (pc, lo, x :: sk, en, kn, sb) := by
  intro r lv skc ws H locs ls hx g hP hD hS hl
  obtain ⟨g1, g2, g3, g4, g5, g6, g7, g8⟩ := g
  obtain ⟨vx, s2, rfl, dx, k5⟩ := g4.cons
  rcases dx with ⟨q, -⟩ | ⟨-, z, i, h1, rfl, h3⟩ | ⟨q, -⟩ | ⟨q, -⟩ | ⟨q, -⟩
  · omega
  · exact lv_i2l C.1 C.2.1 hd rfl (k r lv _ ws H locs ls hx ⟨g1, g2, g3, ⟨Or.inr (Or.inr (Or.inl ⟨rfl, z, _, h1, rfl, by rw [Int32.toInt_toInt64]; exact h3⟩)), k5⟩, g5, g6, g7, g8⟩ hP hD hS hl)
  all_goals omega
/-- two longs compared -/
theorem ai_cmpL (i j : Int64) : (lg_cmp i j < 0 ↔ i.toInt < j.toInt) ∧ (lg_cmp i j = 0 ↔ i.toInt = j.toInt) := by
  unfold lg_cmp
  by_cases h1 : j < i
  · rw [if_pos h1]
    rw [Int64.lt_iff_toInt_lt] at h1
    refine ⟨⟨fun h => absurd h (by decide), fun h => by omega⟩, ⟨fun h => absurd h (by decide), fun h => by omega⟩⟩
  · rw [if_neg h1]
    rw [Int64.lt_iff_toInt_lt] at h1
    by_cases h2 : i = j
    · subst h2
      simp
    · have h3 : i.toInt ≠ j.toInt := fun q => h2 (Int64.toInt_inj.mp q)
      rw [if_neg h2]
      refine ⟨⟨fun _ => by omega, fun _ => by decide⟩, ⟨fun h => absurd h (by decide), fun h => absurd h h3⟩⟩
theorem ai_Jlcmp (C : ai_cx M d p R s m args c D tys A b L sx cells slots) (hx1 : x.1 = 2) (hy1 : y.1 = 2) (hd : decode M.2.1 pc = .ok (.lcmp, 1)) (k : ai_G TY WR w0 ad M p l e R s m args below meth c D tys A b L sx cells slots Q r0 (pc + 1, lo, (3, x.2.1, y.2.1, y.2.2.2 - x.2.2.2) :: sk, en, kn, sb)) : ai_G TY WR w0 ad M p l e R s m args below meth c D tys A b L sx cells slots Q r0 (pc, lo, y :: x :: sk, en, kn, sb) := by
  intro r lv skc ws H locs ls hx g hP hD hS hl
  obtain ⟨g1, g2, g3, g4, g5, g6, g7, g8⟩ := g
  obtain ⟨vy, s1, rfl, dy, k4⟩ := g4.cons
  obtain ⟨vx, s2, rfl, dx, k5⟩ := k4.cons
  rcases dx with ⟨q, -⟩ | ⟨q, -⟩ | ⟨-, z, i, h1, rfl, h3⟩ | ⟨q, -⟩ | ⟨q, -⟩
  · omega
  · omega
  · rcases dy with ⟨q, -⟩ | ⟨q, -⟩ | ⟨-, w, j, k1, rfl, k3⟩ | ⟨q, -⟩ | ⟨q, -⟩
    · omega
    · omega
    · obtain ⟨c1, c2⟩ := ai_cmpL i j
      refine W.lcmp C.1 C.2.1 hd (k r lv _ ws H locs ls hx ⟨g1, g2, g3, ⟨Or.inr (Or.inr (Or.inr (Or.inl ⟨rfl, z, w, _, h1, k1, rfl, c1.trans ?_, c2.trans ?_⟩))), k5⟩, g5, g6, g7, g8⟩ hP hD hS hl)
      · show _ ↔ z < w + (y.2.2.2 - x.2.2.2)
        omega
      · show _ ↔ z = w + (y.2.2.2 - x.2.2.2)
        omega
    all_goals omega
  all_goals omega
theorem ai_Jdup (C : ai_cx M d p R s m args c D tys A b L sx cells slots) (hx1 : ¬ x.1 = 2) (hd : decode M.2.1 pc = .ok (.dup, 1)) (k : ai_G TY WR w0 ad M p l e R s m args below meth c D tys A b L sx cells slots Q r0 (pc + 1, lo, x :: x :: sk, en, kn, sb)) : ai_G TY WR w0 ad M p l e R s m args below meth c D tys A b L sx cells slots Q r0 (pc, lo, x :: sk, en, kn, sb) := by
  intro r lv skc ws H locs ls hx g hP hD hS hl
  obtain ⟨g1, g2, g3, g4, g5, g6, g7, g8⟩ := g
  obtain ⟨vx, s2, rfl, dx, k5⟩ := g4.cons
  exact lv_dup C.1 C.2.1 hd (by rw [dx.cat, if_neg hx1]) (k r lv _ ws H locs ls hx ⟨g1, g2, g3, ⟨dx, dx, k5⟩, g5, g6, g7, g8⟩ hP hD hS hl)
theorem ai_Jdup2 (C : ai_cx M d p R s m args c D tys A b L sx cells slots) (hx1 : ¬ x.1 = 2) (hy1 : ¬ y.1 = 2) (hd : decode M.2.1 pc = .ok (.dup2, 1)) (k : ai_G TY WR w0 ad M p l e R s m args below meth c D tys A b L sx cells slots Q r0 (pc + 1, lo, y :: x :: y :: x :: sk, en, kn, sb)) : ai_G TY WR w0 ad M p l e R s m args below meth c D tys A b L sx cells slots Q r0 (pc, lo, y :: x :: sk, en, kn, sb) := by
  intro r lv skc ws H locs ls hx g hP hD hS hl
  obtain ⟨g1, g2, g3, g4, g5, g6, g7, g8⟩ := g
  obtain ⟨vy, s1, rfl, dy, k4⟩ := g4.cons
  obtain ⟨vx, s2, rfl, dx, k5⟩ := k4.cons
  exact lv_dup2_11 C.1 C.2.1 hd (by rw [dy.cat, if_neg hy1]) (by rw [dx.cat, if_neg hx1]) (k r lv _ ws H locs ls hx ⟨g1, g2, g3, ⟨dy, dx, dy, dx, k5⟩, g5, g6, g7, g8⟩ hP hD hS hl)
theorem ai_Jpop (C : ai_cx M d p R s m args c D tys A b L sx cells slots) (hx1 : ¬ x.1 = 2) (hd : decode M.2.1 pc = .ok (.pop, 1)) (k : ai_G TY WR w0 ad M p l e R s m args below meth c D tys A b L sx cells slots Q r0 (pc + 1, lo, sk, en, kn, sb)) : ai_G TY WR w0 ad M p l e R s m args below meth c D tys A b L sx cells slots Q r0 (pc, lo, x :: sk, en, kn, sb) := by
  intro r lv skc ws H locs ls hx g hP hD hS hl
  obtain ⟨g1, g2, g3, g4, g5, g6, g7, g8⟩ := g
  obtain ⟨vx, s2, rfl, dx, k5⟩ := g4.cons
  exact lv_pop C.1 C.2.1 hd (by rw [dx.cat, if_neg hx1]) (k r lv _ ws H locs ls hx ⟨g1, g2, g3, k5, g5, g6, g7, g8⟩ hP hD hS hl)
theorem ai_Jpop2 (C : ai_cx M d p R s m args c D tys A b L sx cells slots) (hx1 : x.1 = 2) (hd : decode M.2.1 pc = .ok (.pop2, 1)) (k : ai_G TY WR w0 ad M p l e R s m args below meth c D tys A b L sx cells slots Q r0 (pc + 1, lo, sk, en, kn, sb)) : ai_G TY WR w0 ad M p l e R s m args below meth c D tys A b L sx cells slots Q r0 (pc, lo, x :: sk, en, kn, sb) := by
  intro r lv skc ws H locs ls hx g hP hD hS hl
  obtain ⟨g1, g2, g3, g4, g5, g6, g7, g8⟩ := g
  obtain ⟨vx, s2, rfl, dx, k5⟩ := g4.cons
  exact lv_pop2_2 C.1 C.2.1 hd (by rw [dx.cat, if_pos hx1]) (k r lv _ ws H locs ls hx ⟨g1, g2, g3, k5, g5, g6, g7, g8⟩ hP hD hS hl)
end AIJ
end
section
/-! fields, arrays -/
def ai_flok (own : String) (ci i idx : Nat) : Prop := ∃ (C : String) (T : u_T) (N : Nat), vwCl[ci]? = some (C, T, N) ∧ i < N ∧ Cond.fieldLink own idx (T i).1 (T i).2.1 (T i).2.2.1 ∈ ai_GT ∧ ∀ w ∈ u_ws C T N, w ∈ ai_GT
/-- .. and a field that may be written, of ints or of longs -/
def ai_fpok (own : String) (ci i idx : Nat) (kd : Nat) : Prop := ∃ (C : String) (T : u_T) (N : Nat) (ty0 : Nat → FieldType), vwCl[ci]? = some (C, T, N) ∧ i < N ∧ Cond.fieldLink own idx (T i).1 (T i).2.1 (T i).2.2.1 ∈ ai_GT ∧ (∀ w ∈ u_ws C T N, w ∈ ai_GT) ∧
  (∀ k, k < N → parseFieldDescriptor (T k).2.2.1 = some (ty0 k)) ∧ (∀ a, a < N → ∀ b, b < N → a ≠ b → (T a).2.1 ≠ (T b).2.1) ∧ (T i).2.2.2 = false ∧ parseFieldDescriptor (T i).2.2.1 = some (if kd = 1 then .int else .long)
section AIM
variable {TY : List ai_c} {WR : List (Nat × Nat × Nat)} {w0 : va_W} {ad : List Nat} {M : ai_m} {d : Nat} {p : Program} {l : Launch} {e : Env} {R : Room} {s : State} {m : MethodId} {args : Array Value} {below : List Frame} {meth : Method} {c : Code} {D : va_G} {tys : ai_ty} {A : Nat → Prop} {b L : Nat} {sx : Nat → Int32} {cells slots : Nat} {Q : State → Prop} {r0 : List Int} {pc pc' : Nat} {lo : List (Nat × ai_v)} {sk : List ai_v} {en en' : List ai_e} {kn kn' : List ai_k} {sb sb' : List ai_b} {x y v : ai_v}
theorem ai_ref0 {r : List Int} {w : Value} {cA : Nat} (h : ai_dv ad b r x w) (h0 : x.1 = 0) (ha : ad[x.2.1]? = some cA) : w = .ref cA := by
  rcases h with ⟨-, q, h1, rfl⟩ | ⟨q, -⟩ | ⟨q, -⟩ | ⟨q, -⟩ | ⟨q, -⟩
  · rw [ha] at h1
    cases h1
    rfl
  all_goals omega
theorem ai_Jget (C : ai_cx M d p R s m args c D tys A b L sx cells slots) {ci i idx : Nat} {q : List ai_e × List ai_k × ai_v} (hn : 1 < en.length) (h0 : x.1 = 0) (hr : ai_rd TY en kn ci x.2.1 i = some q) (hf : ai_flok M.1.cls ci i idx) (hd : decode M.2.1 pc = .ok (.getfield idx, 3))
    (k : ai_G TY WR w0 ad M p l e R s m args below meth c D tys A b L sx cells slots Q r0 (pc + 3, lo, q.2.2 :: sk, q.1, q.2.1, sb)) : ai_G TY WR w0 ad M p l e R s m args below meth c D tys A b L sx cells slots Q r0 (pc, lo, x :: sk, en, kn, sb) := by
  intro r lv skc ws H locs ls hx g hP hD hS hl
  obtain ⟨g1, g2, g3, g4, g5, g6, g7, g8⟩ := g
  obtain ⟨vx, s2, rfl, dx, k5⟩ := g4.cons
  obtain ⟨a, fs, w, w1, w2, w3, r', e1, e2, e3, e4⟩ := ai_rd_ok g1 g5 g6 hr
  cases ai_ref0 dx h0 w2
  obtain ⟨C1, T, N, f1, f2, f3, f4⟩ := hf
  exact va_get C.1 C.2.1 C.2.2.2.2.1 f4 C.2.2.2.1 C.2.2.2.2.2.2.1 hP x.2.1 w1 f1 i f2 (C.2.2.2.2.1 _ f3) (fun _ h => h) w3 hd (k r' lv _ ws H locs ls (hx.tr e1) ⟨e2, g2.mono e1, g3.mono e1, ⟨e4, k5.mono e1⟩, g5, e3, g7, ai_sc1 e1 (by rw [g1.1]; exact hn) g8⟩ hP hD hS hl)
theorem ai_Jput (C : ai_cx M d p R s m args c D tys A b L sx cells slots) {ci i idx : Nat} (h0 : x.1 = 0) (hr : ai_wf TY WR en kn ci x.2.1 i v = some kn') (hf : ∀ kd, ((TY[x.2.1]?).bind fun t => t.2.2[i]?).map (fun f => f.1) = some kd → ai_fpok M.1.cls ci i idx kd) (hd : decode M.2.1 pc = .ok (.putfield idx, 3))
    (k : ai_G TY WR w0 ad M p l e R s m args below meth c D tys A b L sx cells slots Q r0 (pc + 3, lo, sk, en, kn', sb)) : ai_G TY WR w0 ad M p l e R s m args below meth c D tys A b L sx cells slots Q r0 (pc, lo, v :: x :: sk, en, kn, sb) := by
  intro r lv skc ws H locs ls hx g hP hD hS hl
  obtain ⟨g1, g2, g3, g4, g5, g6, g7, g8⟩ := g
  obtain ⟨vv, s1, rfl, dv, k4⟩ := g4.cons
  obtain ⟨vx, s2, rfl, dx, k5⟩ := k4.cons
  obtain ⟨a, fs, w1, w2, w3, w4, w5, w6, w7, w8⟩ := ai_wf_ok g1 g5 g6 g7 dv hr
  cases ai_ref0 dx h0 w2
  obtain ⟨C1, T, N, ty0, f1, f2, f3, f4, f5, f6, f7, f8⟩ := hf _ w8
  rcases w4 with ⟨j, rfl⟩ | ⟨j, rfl⟩
  · exact va_put C.1 C.2.1 C.2.2.2.2.1 f4 ty0 f5 f6 C.2.2.2.1 C.2.2.2.2.2.2.1 hP hD hS x.2.1 w1 f1 i f2 (C.2.2.2.2.1 _ f3) (fun _ h => h) f7 f8 rfl rfl w3 hd (fun H1 locs1 hP1 hD1 hS1 => k r lv _ _ H1 locs1 ls hx ⟨g1, g2, g3, k5, w5, w6, w7, g8⟩ hP1 hD1 hS1 hl)
  · exact va_put C.1 C.2.1 C.2.2.2.2.1 f4 ty0 f5 f6 C.2.2.2.1 C.2.2.2.2.2.2.1 hP hD hS x.2.1 w1 f1 i f2 (C.2.2.2.2.1 _ f3) (fun _ h => h) f7 f8 rfl rfl w3 hd (fun H1 locs1 hP1 hD1 hS1 => k r lv _ _ H1 locs1 ls hx ⟨g1, g2, g3, k5, w5, w6, w7, g8⟩ hP1 hD1 hS1 hl)
/-- what is read of the tapes is told of the world w0, where they are not written -/
def ai_gc (WR : List (Nat × Nat × Nat)) (c : Nat) (y v : ai_v) : Bool := (Nat.beq c 27 || (Nat.beq c 52 || (Nat.beq c 59 || (Nat.ble 45 c && Nat.ble c 48)))) && (!(WR.any fun q => Nat.beq q.1 c || Nat.beq q.1 1000) && (Nat.beq y.1 1 && (Nat.beq v.1 1 && decide (v.2.2.2 = 0))))
def ai_gt (WR : List (Nat × Nat × Nat)) (c : Nat) (y v : ai_v) (sb : List ai_b) : List ai_b := if ai_gc WR c y v = true then (1000 + c, y.2.1, y.2.1, v.2.1, y.2.2.2) :: sb else sb
theorem ai_dv1 {ad : List Nat} {b : Nat} {r : List Int} {v : ai_v} {i : Int32} (h : ai_dv ad b r v (.int i)) (h1 : v.1 = 1) : ∃ z, r[v.2.1]? = some z ∧ i.toInt = z + v.2.2.2 := by
  rcases h with ⟨q, -⟩ | ⟨-, z, j, q1, q2, q3⟩ | ⟨q, -⟩ | ⟨q, -⟩ | ⟨q, -⟩
  · omega
  · cases q2
    exact ⟨z, q1, q3⟩
  all_goals omega
theorem ai_vp0 {i : Int32} {n : Nat} (h : vp_in i n) : 0 ≤ i.toInt := (vp_in_iff.mp h).1
theorem ai_vpn {i : Int32} {n : Nat} (h : vp_in i n) : i.toInt.toNat < n := by
  have := vp_in_iff.mp h
  omega
theorem ai_gt_ok {WR : List (Nat × Nat × Nat)} {w0 ws : va_W} {ad : List Nat} {b : Nat} {r : List Int} {sb : List ai_b} {c a n : Nat} {cA : ClassId} {f : Nat → Int32} {i : Int32} {y v : ai_v} (g7 : ai_fr WR w0 ws) (g2 : ai_sb w0 r sb) (hy : ai_dv ad b r y (.int i)) (hv : ai_dv ad b r v (.int (f i.toNatClampNeg))) (w1 : ws[c]? = some (a, .inl (cA, n, .inl f))) (w4 : vp_in i n) : ai_sb w0 r (ai_gt WR c y v sb) := by
  unfold ai_gt
  split
  · rename_i hc
    unfold ai_gc at hc
    rw [Bool.and_eq_true, Bool.and_eq_true, Bool.and_eq_true, Bool.and_eq_true, ai_beq, ai_beq, decide_eq_true_eq] at hc
    obtain ⟨-, c2, c3, c4, c5⟩ := hc
    obtain ⟨za, y1, y2⟩ := ai_dv1 hy c3
    obtain ⟨zr, v1, v2⟩ := ai_dv1 hv c4
    have hi0 : 0 ≤ i.toInt := ai_vp0 w4
    intro q hq
    rcases List.mem_cons.mp hq with rfl | hq
    · refine ⟨za, za, zr, y1, y1, v1, fun h => absurd (show 1000 + c = 0 from h) (by omega), fun h => absurd (show 1000 + c = 1 from h) (by omega), fun h => absurd (show 1000 + c = 2 from h) (by omega), fun h => absurd (show 1000 + c = 4 from h) (by omega), fun h => absurd (show 1000 + c = 5 from h) (by omega), fun _ => ⟨fun _ => ⟨za, zr, y1, v1, by show 0 ≤ za + y.2.2.2; omega, fun t ht => ?_⟩, fun h => absurd (show 1000 + c < 300 ∨ (500 ≤ 1000 + c ∧ 1000 + c < 1000) from h) (by omega), fun _ _ => ⟨fun _ h => absurd (show 1000 + c < 305 from h) (by omega), fun _ h => absurd (show 1000 + c < 318 from h) (by omega), fun _ h => absurd (show 1000 + c < 323 from h) (by omega), fun _ h => absurd (show 1000 + c < 500 from h) (by omega), fun h => absurd (show 1000 + c = 330 from h) (by omega)⟩, fun h => absurd (show 1000 + c = 350 from h) (by omega)⟩⟩
      have ht : fx_o w0 (1000 + c - 1000) (za + y.2.2.2).toNat = some t := ht
      rw [Nat.add_sub_cancel_left, ← y2] at ht
      obtain ⟨j, j1, j2⟩ := fx_o_sl ht
      have hwr : ai_wr WR c i.toInt.toNat i.toInt.toNat = false := by
        rw [Bool.not_eq_true'] at c2
        unfold ai_wr
        rw [List.any_eq_false]
        intro q hq hx
        have := List.any_eq_false.mp c2 q hq
        rw [Bool.or_eq_true, ai_beq, ai_beq] at this
        rw [Bool.and_eq_true, Bool.and_eq_true, Bool.or_eq_true, decide_eq_true_eq, decide_eq_true_eq] at hx
        exact this hx.1.1
      have k1 := g7 c _ _ hwr j1
      have k2 : ai_sl ws c i.toInt.toNat (.int (f i.toInt.toNat)) := ⟨a, _, w1, Or.inr (Or.inl ⟨cA, n, f, rfl, ai_vpn w4, rfl⟩)⟩
      have k3 := k1.fun k2
      injection k3 with k3
      have v2 : (f i.toInt.toNat).toInt = zr + v.2.2.2 := v2
      rw [← k3] at v2
      omega
    · exact g2 q hq
  · exact g2
/-- an element of a row of ints (tg 1), of booleans (tg 2) -/
theorem ai_Jald (C : ai_cx M d p R s m args c D tys A b L sx cells slots) {tg : Nat} {q : List ai_e × List ai_k × ai_v} (htg : tg = 1 ∨ tg = 2) (hn : 1 < en.length) (h0 : x.1 = 0) (hr : ai_ra TY en kn tg x.2.1 y = some q) (hd : decode M.2.1 pc = .ok (if tg = 1 then .iaload else .baload, 1))
    (k : ai_G TY WR w0 ad M p l e R s m args below meth c D tys A b L sx cells slots Q r0 (pc + 1, lo, q.2.2 :: sk, q.1, q.2.1, ai_gt WR x.2.1 y q.2.2 sb)) : ai_G TY WR w0 ad M p l e R s m args below meth c D tys A b L sx cells slots Q r0 (pc, lo, y :: x :: sk, en, kn, sb) := by
  intro r lv skc ws H locs ls hx g hP hD hS hl
  obtain ⟨g1, g2, g3, g4, g5, g6, g7, g8⟩ := g
  obtain ⟨vy, s1, rfl, dy, k4⟩ := g4.cons
  obtain ⟨vx, s2, rfl, dx, k5⟩ := k4.cons
  obtain ⟨a, cA, n, f, i, rfl, w1, w2, ⟨t0, w3⟩, w4, r', e1, e2, e3, e4⟩ := ai_ra_ok htg g1 g5 g6 dy hr
  cases ai_ref0 dx h0 w2
  have kk := k r' lv (.int (f i.toNatClampNeg) :: s2) ws H locs ls (hx.tr e1) ⟨e2, ai_gt_ok g7 (g2.mono e1) (dy.mono e1) e4 w1 w4, g3.mono e1, ⟨e4, k5.mono e1⟩, g5, e3, g7, ai_sc1 e1 (by rw [g1.1]; exact hn) g8⟩ hP hD hS hl
  rcases htg with rfl | rfl
  · exact va_iald C.1 C.2.1 C.2.2.2.2.2.2.1 hP x.2.1 t0 w1 w3 w4 hd kk
  · exact va_zald C.1 C.2.1 C.2.2.2.2.2.2.1 hP x.2.1 t0 w1 w3 w4 hd kk
theorem ai_narZ {j : Int32} (h : 0 ≤ j.toInt ∧ j.toInt ≤ 1) : vp_nar .boolean j = j := by
  have : j = 0 ∨ j = 1 := by
    by_cases h0 : j.toInt = 0
    · exact Or.inl (Int32.toInt_inj.mp (by rw [h0]; rfl))
    · exact Or.inr (Int32.toInt_inj.mp (by show j.toInt = 1; omega))
  rcases this with rfl | rfl <;> decide
theorem ai_Jast (C : ai_cx M d p R s m args c D tys A b L sx cells slots) {tg : Nat} (htg : tg = 1 ∨ tg = 2) (h0 : x.1 = 0) (hr : ai_wa TY WR en kn tg x.2.1 y v = some kn') (hd : decode M.2.1 pc = .ok (if tg = 1 then .iastore else .bastore, 1))
    (k : ai_G TY WR w0 ad M p l e R s m args below meth c D tys A b L sx cells slots Q r0 (pc + 1, lo, sk, en, kn', sb)) : ai_G TY WR w0 ad M p l e R s m args below meth c D tys A b L sx cells slots Q r0 (pc, lo, v :: y :: x :: sk, en, kn, sb) := by
  intro r lv skc ws H locs ls hx g hP hD hS hl
  obtain ⟨g1, g2, g3, g4, g5, g6, g7, g8⟩ := g
  obtain ⟨vv, s0, rfl, dv, k3⟩ := g4.cons
  obtain ⟨vy, s1, rfl, dy, k4⟩ := k3.cons
  obtain ⟨vx, s2, rfl, dx, k5⟩ := k4.cons
  obtain ⟨a, cA, n, f, i, j, rfl, rfl, w1, w2, ⟨t0, w3⟩, w4, w5, w6, w7, w8⟩ := ai_wa_ok htg g1 g5 g6 g7 dy dv hr
  cases ai_ref0 dx h0 w2
  rcases htg with rfl | rfl
  · exact va_iast C.1 C.2.1 C.2.2.2.2.2.2.1 hP hD hS x.2.1 t0 w1 w3 w4 hd (fun H1 locs1 hP1 hD1 hS1 => k r lv _ _ H1 locs1 ls hx ⟨g1, g2, g3, k5, w6, w7, w8, g8⟩ hP1 hD1 hS1 hl)
  · have ez : vp_nar .boolean j = j := ai_narZ (w5.elim (fun q => by omega) id)
    refine va_zast C.1 C.2.1 C.2.2.2.2.2.2.1 hP hD hS x.2.1 t0 w1 w3 w4 hd (fun H1 locs1 hP1 hD1 hS1 => ?_)
    rw [ez] at hP1 hD1
    exact k r lv _ _ H1 locs1 ls hx ⟨g1, g2, g3, k5, w6, w7, w8, g8⟩ hP1 hD1 hS1 hl
/-- a row of longs -/
def ai_il (TY : List ai_c) (en : List ai_e) (c : Nat) (iv : ai_v) : Bool := ((TY[c]?).bind fun t => (ai_i en iv).map fun p => decide (t.1 = 3) && decide (0 ≤ p.1) && decide (p.2 < (t.2.1 : Int))) == some true
theorem ai_il_ok {r : List Int} {ws : va_W} {cc : Nat} {iv : ai_v} {vi : Value} (h : ai_ok r en) (hw : ai_wd TY ad tys ws) (hv : ai_dv ad b r iv vi) (hq : ai_il TY en cc iv = true) :
    ∃ (a : Nat) (cA : ClassId) (n : Nat) (f : Nat → Int64) (i : Int32) (t : ai_c), vi = .int i ∧ ws[cc]? = some (a, .inl (cA, n, .inr (.inl f))) ∧ ad[cc]? = some a ∧ ai_hasT tys cA .long ∧ vp_in i n ∧ TY[cc]? = some t ∧ t.1 = 3 ∧ t.2.1 = n := by
  unfold ai_il at hq
  rw [beq_iff_eq] at hq
  obtain ⟨t, ht, hq⟩ := Option.bind_eq_some_iff.mp hq
  obtain ⟨p, hp, hq⟩ := Option.map_eq_some_iff.mp hq
  simp only [Bool.and_eq_true, decide_eq_true_eq] at hq
  obtain ⟨-, z, i, -, rfl, -, i1, i2⟩ := ai_i_ok h hv hp
  obtain ⟨a, e, w1, w2, w3⟩ := hw.get ht
  rcases w3 with ⟨q1, -⟩ | ⟨q1, -⟩ | ⟨t0, cA, f, rfl, g1⟩ | ⟨q1, -⟩
  · omega
  · omega
  · exact ⟨a, cA, t.2.1, f, i, t, rfl, w1, w2, g1, (ai_idx i1 i2 hq.1.2 hq.2).1, ht, t0, rfl⟩
  · omega
theorem ai_Jlald (C : ai_cx M d p R s m args c D tys A b L sx cells slots) (hn : 1 < en.length) (h0 : x.1 = 0) (hr : ai_il TY en x.2.1 y = true) (hd : decode M.2.1 pc = .ok (.laload, 1))
    (k : ai_G TY WR w0 ad M p l e R s m args below meth c D tys A b L sx cells slots Q r0 (pc + 1, lo, (2, en.length, 0, 0) :: sk, ai_nu en (-9223372036854775808) 9223372036854775807, kn, sb)) : ai_G TY WR w0 ad M p l e R s m args below meth c D tys A b L sx cells slots Q r0 (pc, lo, y :: x :: sk, en, kn, sb) := by
  intro r lv skc ws H locs ls hx g hP hD hS hl
  obtain ⟨g1, g2, g3, g4, g5, g6, g7, g8⟩ := g
  obtain ⟨vy, s1, rfl, dy, k4⟩ := g4.cons
  obtain ⟨vx, s2, rfl, dx, k5⟩ := k4.cons
  obtain ⟨a, cA, n, f, i, t, rfl, w1, w2, ⟨t0, w3⟩, w4, -⟩ := ai_il_ok g1 g5 dy hr
  cases ai_ref0 dx h0 w2
  exact va_lald C.1 C.2.1 C.2.2.2.2.2.2.1 hP x.2.1 t0 w1 w3 w4 hd (k (r ++ [(f i.toNatClampNeg).toInt]) lv _ ws H locs ls (hx.tr ai_x.push) ⟨g1.nu (ai_lrg _).1 (ai_lrg _).2, g2.mono ai_x.push, g3.mono ai_x.push, ⟨Or.inr (Or.inr (Or.inl ⟨rfl, _, _, ai_last g1.1, rfl, by show (f i.toNatClampNeg).toInt = (f i.toNatClampNeg).toInt + 0; omega⟩)), k5.mono ai_x.push⟩, g5, g6.mono ai_x.push, g7, ai_sc1 ai_x.push (by rw [g1.1]; exact hn) g8⟩ hP hD hS hl)
/-- the places that a row's index may mean may be written -/
def ai_lw (WR : List (Nat × Nat × Nat)) (en : List ai_e) (c : Nat) (iv : ai_v) : Bool := ((ai_i en iv).map fun p => ai_wr WR c p.1.toNat p.2.toNat) == some true
theorem ai_lw_ok {r : List Int} {cc : Nat} {iv : ai_v} {i : Int32} (h : ai_ok r en) (hv : ai_dv ad b r iv (.int i)) (hq : ai_lw WR en cc iv = true) : ai_wr WR cc i.toInt.toNat i.toInt.toNat = true := by
  unfold ai_lw at hq
  rw [beq_iff_eq] at hq
  obtain ⟨p, hp, hq⟩ := Option.map_eq_some_iff.mp hq
  obtain ⟨-, z, i', -, h1, -, i1, i2⟩ := ai_i_ok h hv hp
  cases h1
  exact ai_wr_in hq (by omega) (by omega)
theorem ai_Jlast (C : ai_cx M d p R s m args c D tys A b L sx cells slots) (h0 : x.1 = 0) (hv : v.1 = 2) (hr : ai_il TY en x.2.1 y = true) (hz : ai_lw WR en x.2.1 y = true) (hd : decode M.2.1 pc = .ok (.lastore, 1))
    (k : ai_G TY WR w0 ad M p l e R s m args below meth c D tys A b L sx cells slots Q r0 (pc + 1, lo, sk, en, kn.filter (fun q => !Nat.beq q.1 x.2.1), sb)) : ai_G TY WR w0 ad M p l e R s m args below meth c D tys A b L sx cells slots Q r0 (pc, lo, v :: y :: x :: sk, en, kn, sb) := by
  intro r lv skc ws H locs ls hx g hP hD hS hl
  obtain ⟨g1, g2, g3, g4, g5, g6, g7, g8⟩ := g
  obtain ⟨vv, s0, rfl, dv, k3⟩ := g4.cons
  obtain ⟨vy, s1, rfl, dy, k4⟩ := k3.cons
  obtain ⟨vx, s2, rfl, dx, k5⟩ := k4.cons
  obtain ⟨a, cA, n, f, i, t, rfl, w1, w2, ⟨t0, w3⟩, w4, w5, w6, w7⟩ := ai_il_ok g1 g5 dy hr
  have hzz := ai_lw_ok g1 dy hz
  have hin : i.toNatClampNeg = i.toInt.toNat := rfl
  cases ai_ref0 dx h0 w2
  rcases dv with ⟨q, -⟩ | ⟨q, -⟩ | ⟨-, z, j, -, rfl, -⟩ | ⟨q, -⟩ | ⟨q, -⟩
  · omega
  · omega
  · refine va_last C.1 C.2.1 C.2.2.2.2.2.2.1 hP hD hS x.2.1 t0 w1 w3 w4 hd (fun H1 locs1 hP1 hD1 hS1 => k r lv _ _ H1 locs1 ls hx ⟨g1, g2, g3, k5, ?_, ?_, ?_, g8⟩ hP1 hD1 hS1 hl)
    · exact g5.set w5 w1 (Or.inr (Or.inr (Or.inl ⟨w6, cA, _, by rw [w7], ⟨t0, w3⟩⟩)))
    · intro q hq
      obtain ⟨hq, hqc⟩ := List.mem_filter.mp hq
      obtain ⟨u, u1, u2⟩ := g6 q hq
      refine ⟨u, u1.setL w1 (fun hc _ => ?_), u2⟩
      rw [hc, Nat.beq_refl] at hqc
      exact absurd hqc (by decide)
    · intro c' i' u hu h0
      refine (g7 c' i' u hu h0).setL w1 (fun hc _ => ?_)
      refine if_neg (fun hii => ?_)
      rw [hc, hii, hin, hzz] at hu
      exact absurd hu (by decide)
  all_goals omega
/-- the length of a row -/
theorem ai_Jlen (C : ai_cx M d p R s m args c D tys A b L sx cells slots) {t : ai_c} (hz : ai_z en = true) (h0 : x.1 = 0) (ht : TY[x.2.1]? = some t) (h1 : t.1 = 1 ∨ t.1 = 2 ∨ t.1 = 3) (hb : t.2.1 < 2147483648) (hd : decode M.2.1 pc = .ok (.arraylength, 1))
    (k : ai_G TY WR w0 ad M p l e R s m args below meth c D tys A b L sx cells slots Q r0 (pc + 1, lo, (1, 0, 0, (t.2.1 : Int)) :: sk, en, kn, sb)) : ai_G TY WR w0 ad M p l e R s m args below meth c D tys A b L sx cells slots Q r0 (pc, lo, x :: sk, en, kn, sb) := by
  intro r lv skc ws H locs ls hx g hP hD hS hl
  obtain ⟨g1, g2, g3, g4, g5, g6, g7, g8⟩ := g
  obtain ⟨vx, s2, rfl, dx, k5⟩ := g4.cons
  obtain ⟨a, e1, w1, w2, w3⟩ := g5.get ht
  cases ai_ref0 dx h0 w2
  have hk := k r lv (.int (Int32.ofNat t.2.1) :: s2) ws H locs ls hx ⟨g1, g2, g3, ⟨Or.inr (Or.inl ⟨rfl, 0, _, ai_z_ok g1 hz, rfl, by show (Int32.ofNat t.2.1).toInt = 0 + (t.2.1 : Int); rw [show Int32.ofNat t.2.1 = nI t.2.1 from rfl, nI_toInt (by omega)]; omega⟩), k5⟩, g5, g6, g7, g8⟩ hP hD hS hl
  rcases w3 with ⟨q1, -⟩ | ⟨-, cA, f, rfl, ⟨t0, g9⟩, -⟩ | ⟨-, cA, f, rfl, ⟨t0, g9⟩⟩ | ⟨q1, -⟩
  · omega
  · exact va_alen C.1 C.2.1 C.2.2.2.2.2.2.1 hP x.2.1 t0 w1 g9 rfl hd hk
  · exact va_alen C.1 C.2.1 C.2.2.2.2.2.2.1 hP x.2.1 t0 w1 g9 rfl hd hk
  · omega
/-- a row of rows: one way for each index -/
def ai_aa (t : ai_c) (en : List ai_e) (iv : ai_v) (lo : Nat) (k : Nat) : List (List ai_e × ai_v) := (List.range (k + 1)).flatMap fun j => match ai_cl en iv.2.1 ((lo + j : Nat) - iv.2.2.2) ((lo + j : Nat) - iv.2.2.2), t.2.2[lo + j]? with
  | some en', some q => [(en', (0, q.2.1, 0, 0))]
  | _, _ => []
theorem ai_Jaald (C : ai_cx M d p R s m args c D tys A b L sx cells slots) {t : ai_c} {w : Int × Int} (h0 : x.1 = 0) (ht : TY[x.2.1]? = some t) (h1 : t.1 = 4) (hw : ai_i en y = some w) (hb : 0 ≤ w.1 ∧ w.2 < t.2.1 ∧ t.2.1 = t.2.2.length) (hd : decode M.2.1 pc = .ok (.aaload, 1))
    (k : ∀ q ∈ ai_aa t en y w.1.toNat (w.2.toNat - w.1.toNat), ai_G TY WR w0 ad M p l e R s m args below meth c D tys A b L sx cells slots Q r0 (pc + 1, lo, q.2 :: sk, q.1, kn, sb)) : ai_G TY WR w0 ad M p l e R s m args below meth c D tys A b L sx cells slots Q r0 (pc, lo, y :: x :: sk, en, kn, sb) := by
  intro r lv skc ws H locs ls hx g hP hD hS hl
  obtain ⟨g1, g2, g3, g4, g5, g6, g7, g8⟩ := g
  obtain ⟨vy, s1, rfl, dy, k4⟩ := g4.cons
  obtain ⟨vx, s2, rfl, dx, k5⟩ := k4.cons
  obtain ⟨a, e1, w1, w2, w3⟩ := g5.get ht
  cases ai_ref0 dx h0 w2
  obtain ⟨-, z, i, i1, rfl, i2, i3, i4⟩ := ai_i_ok g1 dy hw
  rcases w3 with ⟨q1, -⟩ | ⟨q1, -⟩ | ⟨q1, -⟩ | ⟨-, cA, f, rfl, ⟨t0, g9⟩, g10⟩
  · omega
  · omega
  · omega
  · obtain ⟨x1, x2, x3, x4⟩ := ai_idx i3 i4 hb.1 hb.2.1
    obtain ⟨q, hq⟩ : ∃ q, t.2.2[i.toNatClampNeg]? = some q := ⟨_, List.getElem?_eq_getElem (by omega)⟩
    obtain ⟨ra, r1, r2⟩ := g10 _ q hq
    have ei : (i.toNatClampNeg : Int) = i.toInt := by
      show ((i.toInt.toNat : Nat) : Int) = i.toInt
      omega
    obtain ⟨en1, c1, c2⟩ := ai_cl_ok (lo := (i.toNatClampNeg : Int) - y.2.2.2) (hi := (i.toNatClampNeg : Int) - y.2.2.2) g1 i1 (by omega) (by omega)
    have hm : (en1, ((0, q.2.1, 0, 0) : ai_v)) ∈ ai_aa t en y w.1.toNat (w.2.toNat - w.1.toNat) := by
      unfold ai_aa
      refine List.mem_flatMap.mpr ⟨i.toNatClampNeg - w.1.toNat, List.mem_range.mpr (by omega), ?_⟩
      rw [show w.1.toNat + (i.toNatClampNeg - w.1.toNat) = i.toNatClampNeg by omega, c1, hq]
      exact List.mem_singleton.mpr rfl
    refine W.aald (v := va_rf (f i.toNatClampNeg)) (ty := .array .int) C.1 C.2.1 (hP x.2.1 _ w1) ((C.2.2.2.2.2.2.1.2 t0 _ g9).1 t.2.1 (fun j => va_rf (f j))) rfl (fun q => by cases q) (by show ¬ (i < 0 ∨ (arrV _ _ _).slots.size ≤ _); rw [arrV_size]; exact x1) (by show (arrV _ _ _).slots[_]? = _; rw [arrV_read _ _ x4]) rfl rfl hd ?_
    rw [r2]
    exact k _ hm r lv _ ws H locs ls hx ⟨c2, g2, g3, ⟨Or.inl ⟨rfl, ra, r1, rfl⟩, k5⟩, g5, g6, g7, g8⟩ hP hD hS hl
/-- an int of the script -/
theorem ai_Jscr (C : ai_cx M d p R s m args c D tys A b L sx cells slots) (hsc : M.2.2.2.2.1 = true) (h0 : x.1 = 4) (hy : y.1 = 1 ∧ y.2.1 = 1 ∧ 0 ≤ y.2.2.2 ∧ y.2.2.2 ≤ 4) (hd : decode M.2.1 pc = .ok (.iaload, 1))
    (k : ai_G TY WR w0 ad M p l e R s m args below meth c D tys A b L sx cells slots Q r0 (pc + 1, lo, (1, 3 + y.2.2.2.toNat, 0, 0) :: sk, en, kn, sb)) : ai_G TY WR w0 ad M p l e R s m args below meth c D tys A b L sx cells slots Q r0 (pc, lo, y :: x :: sk, en, kn, sb) := by
  intro r lv skc ws H locs ls hx g hP hD hS hl
  obtain ⟨g1, g2, g3, g4, g5, g6, g7, g8⟩ := g
  obtain ⟨vy, s1, rfl, dy, k4⟩ := g4.cons
  obtain ⟨vx, s2, rfl, dx, k5⟩ := k4.cons
  obtain ⟨hX, hbl, hbA⟩ := C.2.2.2.2.2.2.2.2.2 hsc
  have hbx : vx = .ref b := by
    rcases dx with ⟨q, -⟩ | ⟨q, -⟩ | ⟨q, -⟩ | ⟨q, -⟩ | ⟨-, q⟩
    · omega
    · omega
    · omega
    · omega
    · exact q
  cases hbx
  rcases dy with ⟨q, -⟩ | ⟨-, z, i, i1, rfl, i2⟩ | ⟨q, -⟩ | ⟨q, -⟩ | ⟨q, -⟩
  · omega
  · rw [hy.2.1] at i1
    obtain ⟨hz, hnm⟩ := g8 hsc z i1
    have hi : i.toNatClampNeg = z.toNat + y.2.2.2.toNat := by
      show i.toInt.toNat = _
      omega
    refine va_sld C.1 C.2.1 hX hbl hbA hS (vp_in_iff.mpr ⟨by omega, by omega⟩) hd ?_
    rw [hi]
    exact k r lv _ ws H locs ls hx ⟨g1, g2, g3, ⟨Or.inr (Or.inl ⟨rfl, _, _, hnm y.2.2.2.toNat (by omega), rfl, by show (sx (z.toNat + y.2.2.2.toNat)).toInt = (sx (z.toNat + y.2.2.2.toNat)).toInt + 0; omega⟩), k5⟩, g5, g6, g7, g8⟩ hP hD hS hl
  all_goals omega
/-! branches -/
def ai_neg (op : Nat) : Nat := match op with
  | 0 => 1
  | 1 => 0
  | 2 => 3
  | 3 => 2
  | 4 => 5
  | _ => 4
def ai_c1 (en : List ai_e) (x : ai_v) : Option (Nat × Nat × Int) := if x.1 = 1 then (if ai_z en = true then some (x.2.1, 0, -x.2.2.2) else none) else if x.1 = 3 then some (x.2.1, x.2.2.1, x.2.2.2) else none
theorem ai_c1_ok {r : List Int} {q : Nat × Nat × Int} {w : Value} (h : ai_ok r en) (hv : ai_dv ad b r x w) (hq : ai_c1 en x = some q) : ∃ (i : Int32) (za zb : Int), w = .int i ∧ r[q.1]? = some za ∧ r[q.2.1]? = some zb ∧ (i.toInt < 0 ↔ za < zb + q.2.2) ∧ (i.toInt = 0 ↔ za = zb + q.2.2) := by
  unfold ai_c1 at hq
  split at hq
  · rename_i h1
    split at hq
    · rename_i hz
      cases hq
      rcases hv with ⟨q, -⟩ | ⟨-, z, i, i1, rfl, i2⟩ | ⟨q, -⟩ | ⟨q, -⟩ | ⟨q, -⟩
      · omega
      · refine ⟨i, z, 0, rfl, i1, ai_z_ok h hz, ?_, ?_⟩ <;> dsimp only <;> omega
      all_goals omega
    · cases hq
  · split at hq
    · rename_i h1 h3
      cases hq
      rcases hv with ⟨q, -⟩ | ⟨q, -⟩ | ⟨q, -⟩ | ⟨-, z, w2, i, i1, i2, rfl, i3, i4⟩ | ⟨q, -⟩
      · omega
      · omega
      · omega
      · refine ⟨i, z, w2, rfl, i1, i2, ?_, ?_⟩
        · rw [← i3, Int32.lt_iff_toInt_lt]
          rfl
        · rw [← i4, ← Int32.toInt_inj]
          rfl
      · omega
    · cases hq
/-- what was told of the same two names -/
def ai_cf (sb : List ai_b) (l : Bool) (a b : Nat) (c : Int) : Bool := sb.any fun k => Nat.beq k.2.1 a && (Nat.beq k.2.2.1 b && (if l = true then Nat.beq k.1 5 && decide (c ≤ k.2.2.2.2) else Nat.beq k.1 4 && decide (k.2.2.2.2 ≤ c)))
theorem ai_cf_ok {w0 : va_W} {r : List Int} {sb : List ai_b} {l : Bool} {a b : Nat} {c za zb : Int} (hs : ai_sb w0 r sb) (ha : r[a]? = some za) (hb : r[b]? = some zb) (h : if l = true then za < zb + c else zb + c ≤ za) : ai_cf sb l a b c = false := by
  rw [Bool.eq_false_iff]
  intro hc
  unfold ai_cf at hc
  obtain ⟨k, hk, hc⟩ := List.any_eq_true.mp hc
  rw [Bool.and_eq_true, Bool.and_eq_true, ai_beq, ai_beq] at hc
  obtain ⟨h1, h2, h3⟩ := hc
  obtain ⟨ya, yb, yr, e1, e2, -, -, -, -, e4, e5, -⟩ := hs k hk
  rw [h1, ha] at e1
  rw [h2, hb] at e2
  cases e1
  cases e2
  cases l with
  | true =>
    rw [if_pos rfl, Bool.and_eq_true, ai_beq, decide_eq_true_eq] at h3
    rw [if_pos rfl] at h
    have := e5 h3.1
    omega
  | false =>
    rw [if_neg (by decide), Bool.and_eq_true, ai_beq, decide_eq_true_eq] at h3
    rw [if_neg (by decide)] at h
    have := e4 h3.1
    omega
def ai_lf (op : Nat) (o : Int) : Option (Bool × Int) := match op with
  | 0 => none
  | 1 => none
  | 2 => some (true, o)
  | 3 => some (false, o)
  | 4 => some (false, o + 1)
  | _ => some (true, o + 1)
theorem ai_lf_ok {op : Nat} {o za zb c : Int} {l : Bool} (h : ai_lf op o = some (l, c)) (hr : ai_rel op za (zb + o)) : if l = true then za < zb + c else zb + c ≤ za := by
  rcases op with _ | _ | _ | _ | _ | op
  · cases h
  · cases h
  · cases h
    have hr : za < zb + o := hr
    rw [if_pos rfl]
    exact hr
  · cases h
    have hr : zb + o ≤ za := hr
    rw [if_neg (by decide)]
    exact hr
  · cases h
    have hr : zb + o < za := hr
    rw [if_neg (by decide)]
    omega
  · cases h
    have hr : za ≤ zb + o := hr
    rw [if_pos rfl]
    omega
def ai_nk (en : List ai_e) (a : Nat) : Bool := (en[a]?).any fun e => decide (e.1 < e.2.1)
/-- it is told that a isn't b and o -/
def ai_c0 (sb : List ai_b) (a b : Nat) (o : Int) : Bool := sb.any fun k => Nat.beq k.1 140 && (Nat.beq k.2.1 a && (Nat.beq k.2.2.1 b && decide (k.2.2.2.2 = o)))
theorem ai_c0_ok {w0 : va_W} {r : List Int} {sb : List ai_b} {a b : Nat} {o za zb : Int} (hs : ai_sb w0 r sb) (ha : r[a]? = some za) (hb : r[b]? = some zb) (h : ai_c0 sb a b o = true) : za ≠ zb + o := by
  unfold ai_c0 at h
  obtain ⟨k, hk, h1⟩ := List.any_eq_true.mp h
  rw [Bool.and_eq_true, Bool.and_eq_true, Bool.and_eq_true, ai_beq, ai_beq, ai_beq, decide_eq_true_eq] at h1
  obtain ⟨c1, c2, c3, c4⟩ := h1
  obtain ⟨-, -, -, -, -, -, -, -, -, -, -, e9⟩ := hs k hk
  obtain ⟨ya, yr, y1, -, -, -, -, y2, -⟩ := (e9 (by omega)).2.1 (by omega)
  obtain ⟨yb, y3, y4⟩ := y2 c1
  rw [c2, ha] at y1
  rw [c3, hb] at y3
  cases y1
  cases y3
  rw [c4] at y4
  exact y4
def ai_rb (en : List ai_e) (sb : List ai_b) (op a b : Nat) (o : Int) : Option (List ai_e × List ai_b) := match ai_lf op o with
  | some (l, c) => if ai_cf sb l a b c = true then none else (ai_rf en op a b o).map fun en' => (en', if (ai_nk en a && ai_nk en b) = true then ((if l = true then 4 else 5), a, b, a, c) :: sb else sb)
  | none => if (Nat.beq op 0 && ai_c0 sb a b o) = true then none else (ai_rf en op a b o).map fun en' => (en', if (Nat.beq op 1 && ai_nk en a) = true then (140, a, b, a, o) :: sb else if (Nat.beq op 0 && (ai_nk en a && ai_nk en b)) = true then (4, a, b, a, o + 1) :: (5, a, b, a, o) :: sb else sb)
theorem ai_rb_ok {w0 : va_W} {r : List Int} {en : List ai_e} {sb : List ai_b} {op a b : Nat} {o za zb : Int} (h : ai_ok r en) (hs : ai_sb w0 r sb) (ha : r[a]? = some za) (hb : r[b]? = some zb) (hr : ai_rel op za (zb + o)) : ∃ q, ai_rb en sb op a b o = some q ∧ ai_ok r q.1 ∧ ai_sb w0 r q.2 := by
  obtain ⟨en', e1, e2⟩ := ai_rf_ok h ha hb hr
  unfold ai_rb
  split
  · rename_i l c hl
    have hlt := ai_lf_ok hl hr
    rw [if_neg (by rw [ai_cf_ok hs ha hb hlt]; decide), e1]
    refine ⟨_, rfl, e2, ?_⟩
    show ai_sb w0 r (if _ then _ else sb)
    split
    · intro k hk
      rcases List.mem_cons.mp hk with rfl | hk
      · refine ⟨za, zb, za, ha, hb, ha, ?_, ?_, ?_, ?_, ?_, ?_⟩
        · intro q
          cases l <;> cases q
        · intro q
          cases l <;> cases q
        · intro q
          cases l <;> cases q
        · intro q
          cases l with
          | true => rw [if_pos rfl] at hlt; exact hlt
          | false => cases q
        · intro q
          cases l with
          | true => cases q
          | false => rw [if_neg (by decide)] at hlt; exact hlt
        · intro q
          cases l with
          | true => exact absurd (show (100 : Nat) ≤ 4 from q) (by decide)
          | false => exact absurd (show (100 : Nat) ≤ 5 from q) (by decide)
      · exact hs k hk
    · exact hs
  · rw [if_neg (fun hcc => by
      rw [Bool.and_eq_true, ai_beq] at hcc
      have hr' := hr
      rw [hcc.1] at hr'
      exact ai_c0_ok hs ha hb hcc.2 hr'), e1]
    refine ⟨_, rfl, e2, ?_⟩
    show ai_sb w0 r (if _ then _ else if _ then _ else sb)
    split
    · rename_i hop
      rw [Bool.and_eq_true, ai_beq] at hop
      have hne : za ≠ zb + o := by
        have hr' := hr
        rw [hop.1] at hr'
        exact hr'
      intro k hk
      rcases List.mem_cons.mp hk with rfl | hk
      · exact ⟨za, zb, za, ha, hb, ha, fun h => absurd (show (140 : Nat) = 0 from h) (by decide), fun h => absurd (show (140 : Nat) = 1 from h) (by decide), fun h => absurd (show (140 : Nat) = 2 from h) (by decide), fun h => absurd (show (140 : Nat) = 4 from h) (by decide), fun h => absurd (show (140 : Nat) = 5 from h) (by decide), fun _ => ⟨fun h => absurd (show (1000 : Nat) ≤ 140 from h) (by decide), fun _ => ⟨za, za, ha, ha, fun h => absurd (show (140 : Nat) < 132 from h) (by decide), fun h => absurd (show (200 : Nat) ≤ 140 from h) (by decide), fun h => absurd (show (500 : Nat) ≤ 140 from h) (by decide), fun _ => ⟨zb, hb, hne⟩, fun h => absurd (show (140 : Nat) = 141 from h) (by decide), fun h => absurd (show (140 : Nat) = 142 from h) (by decide), fun h => absurd (show (150 : Nat) ≤ 140 from h) (by decide)⟩, fun _ _ => ⟨fun h => absurd (show (300 : Nat) ≤ 140 from h) (by decide), fun h => absurd (show (310 : Nat) ≤ 140 from h) (by decide), fun h => absurd (show (320 : Nat) ≤ 140 from h) (by decide), fun h => absurd (show (400 : Nat) ≤ 140 from h) (by decide), fun h => absurd (show (140 : Nat) = 330 from h) (by decide)⟩, fun h => absurd (show (140 : Nat) = 350 from h) (by decide)⟩⟩
      · exact hs k hk
    · split
      · rename_i hop
        rw [Bool.and_eq_true, ai_beq] at hop
        have heq : za = zb + o := by
          have hr' := hr
          rw [hop.1] at hr'
          exact hr'
        intro k hk
        rcases List.mem_cons.mp hk with rfl | hk
        · exact ⟨za, zb, za, ha, hb, ha, fun h => absurd (show (4 : Nat) = 0 from h) (by decide), fun h => absurd (show (4 : Nat) = 1 from h) (by decide), fun h => absurd (show (4 : Nat) = 2 from h) (by decide), fun _ => (by show za < zb + (o + 1); omega), fun h => absurd (show (4 : Nat) = 5 from h) (by decide), fun h => absurd (show (100 : Nat) ≤ 4 from h) (by decide)⟩
        · rcases List.mem_cons.mp hk with rfl | hk
          · exact ⟨za, zb, za, ha, hb, ha, fun h => absurd (show (5 : Nat) = 0 from h) (by decide), fun h => absurd (show (5 : Nat) = 1 from h) (by decide), fun h => absurd (show (5 : Nat) = 2 from h) (by decide), fun h => absurd (show (5 : Nat) = 4 from h) (by decide), fun _ => (by show zb + o ≤ za; omega), fun h => absurd (show (100 : Nat) ≤ 5 from h) (by decide)⟩
          · exact hs k hk
      · exact hs
def ai_br (en : List ai_e) (op : Nat) (q : Nat × Nat × Int) (tgt fall : Nat) (lo : List (Nat × ai_v)) (sk : List ai_v) (kn : List ai_k) (sb : List ai_b) : List ai_s :=
  (match ai_rb en sb op q.1 q.2.1 q.2.2 with
    | some w => [(tgt, lo, sk, w.1, kn, w.2)]
    | none => []) ++ (match ai_rb en sb (ai_neg op) q.1 q.2.1 q.2.2 with
    | some w => [(fall, lo, sk, w.1, kn, w.2)]
    | none => [])
theorem ai_Jb1 {op tgt : Nat} {q : Nat × Nat × Int} (P : Int32 → Prop) (hq : ai_c1 en x = some q) (hP : ∀ (i : Int32) (za zb : Int), (i.toInt < 0 ↔ za < zb) → (i.toInt = 0 ↔ za = zb) → (P i → ai_rel op za zb) ∧ (¬ P i → ai_rel (ai_neg op) za zb))
    (row : ∀ (H : Heap) (locs : List Loc) (ls : Array Slot) (rest : List Value) (i : Int32), (P i → W p l e R s m args below meth c H locs cells slots Q (F0 m tgt ls rest)) → (¬ P i → W p l e R s m args below meth c H locs cells slots Q (F0 m pc' ls rest)) → W p l e R s m args below meth c H locs cells slots Q (F0 m pc ls (.int i :: rest)))
    (k : ∀ st ∈ ai_br en op q tgt pc' lo sk kn sb, ai_G TY WR w0 ad M p l e R s m args below meth c D tys A b L sx cells slots Q r0 st) : ai_G TY WR w0 ad M p l e R s m args below meth c D tys A b L sx cells slots Q r0 (pc, lo, x :: sk, en, kn, sb) := by
  intro r lv skc ws H locs ls hx g hP' hD hS hl
  obtain ⟨g1, g2, g3, g4, g5, g6, g7, g8⟩ := g
  obtain ⟨vx, s2, rfl, dx, k5⟩ := g4.cons
  obtain ⟨i, za, zb, rfl, a1, a2, a3, a4⟩ := ai_c1_ok g1 dx hq
  obtain ⟨p1, p2⟩ := hP i za (zb + q.2.2) a3 a4
  refine row H locs ls s2 i (fun h => ?_) (fun h => ?_)
  · obtain ⟨en1, q1, q2, q3⟩ := ai_rb_ok g1 g2 a1 a2 (p1 h)
    exact k (tgt, lo, sk, en1.1, kn, en1.2) (List.mem_append_left _ (by rw [q1]; exact List.mem_singleton.mpr rfl)) r lv _ ws H locs ls hx ⟨q2, q3, g3, k5, g5, g6, g7, g8⟩ hP' hD hS hl
  · obtain ⟨en1, q1, q2, q3⟩ := ai_rb_ok g1 g2 a1 a2 (p2 h)
    exact k (pc', lo, sk, en1.1, kn, en1.2) (List.mem_append_right _ (by rw [q1]; exact List.mem_singleton.mpr rfl)) r lv _ ws H locs ls hx ⟨q2, q3, g3, k5, g5, g6, g7, g8⟩ hP' hD hS hl
theorem ai_Jb2 {op tgt : Nat} (P : Int32 → Int32 → Prop) (hx1 : x.1 = 1) (hy1 : y.1 = 1) (hP : ∀ (i j : Int32) (za zb : Int), (i.toInt < j.toInt ↔ za < zb) → (i.toInt = j.toInt ↔ za = zb) → (P i j → ai_rel op za zb) ∧ (¬ P i j → ai_rel (ai_neg op) za zb))
    (row : ∀ (H : Heap) (locs : List Loc) (ls : Array Slot) (rest : List Value) (i j : Int32), (P i j → W p l e R s m args below meth c H locs cells slots Q (F0 m tgt ls rest)) → (¬ P i j → W p l e R s m args below meth c H locs cells slots Q (F0 m pc' ls rest)) → W p l e R s m args below meth c H locs cells slots Q (F0 m pc ls (.int j :: .int i :: rest)))
    (k : ∀ st ∈ ai_br en op (x.2.1, y.2.1, y.2.2.2 - x.2.2.2) tgt pc' lo sk kn sb, ai_G TY WR w0 ad M p l e R s m args below meth c D tys A b L sx cells slots Q r0 st) : ai_G TY WR w0 ad M p l e R s m args below meth c D tys A b L sx cells slots Q r0 (pc, lo, y :: x :: sk, en, kn, sb) := by
  intro r lv skc ws H locs ls hx g hP' hD hS hl
  obtain ⟨g1, g2, g3, g4, g5, g6, g7, g8⟩ := g
  obtain ⟨vy, s1, rfl, dy, k4⟩ := g4.cons
  obtain ⟨vx, s2, rfl, dx, k5⟩ := k4.cons
  rcases dx with ⟨q, -⟩ | ⟨-, za, i, a1, rfl, a3⟩ | ⟨q, -⟩ | ⟨q, -⟩ | ⟨q, -⟩
  · omega
  · rcases dy with ⟨q, -⟩ | ⟨-, zb, j, b1, rfl, b3⟩ | ⟨q, -⟩ | ⟨q, -⟩ | ⟨q, -⟩
    · omega
    · obtain ⟨p1, p2⟩ := hP i j za (zb + (y.2.2.2 - x.2.2.2)) (by omega) (by omega)
      refine row H locs ls s2 i j (fun h => ?_) (fun h => ?_)
      · obtain ⟨en1, q1, q2, q3⟩ := ai_rb_ok g1 g2 a1 b1 (p1 h)
        exact k (tgt, lo, sk, en1.1, kn, en1.2) (List.mem_append_left _ (by dsimp only; rw [q1]; exact List.mem_singleton.mpr rfl)) r lv _ ws H locs ls hx ⟨q2, q3, g3, k5, g5, g6, g7, g8⟩ hP' hD hS hl
      · obtain ⟨en1, q1, q2, q3⟩ := ai_rb_ok g1 g2 a1 b1 (p2 h)
        exact k (pc', lo, sk, en1.1, kn, en1.2) (List.mem_append_right _ (by dsimp only; rw [q1]; exact List.mem_singleton.mpr rfl)) r lv _ ws H locs ls hx ⟨q2, q3, g3, k5, g5, g6, g7, g8⟩ hP' hD hS hl
    all_goals omega
  all_goals omega
/-- a switch: what the value may be goes each to its place -/
def ai_sw (en : List ai_e) (a : Nat) (o : Int) (pc : Nat) (lo : List (Nat × ai_v)) (sk : List ai_v) (kn : List ai_k) (sb : List ai_b) (op : Nat) (kv off : Int) : List ai_s := match ai_rf en op a 0 (kv - o) with
  | some en' => [(((pc : Int) + off).toNat, lo, sk, en', kn, sb)]
  | none => []
theorem ai_Jtab (C : ai_cx M d p R s m args c D tys A b L sx cells slots) {dflt l1 h1 : Int} {offs : Array Int} {len : Nat} (hz : ai_z en = true) (hx1 : x.1 = 1) (hd : decode M.2.1 pc = .ok (.tableswitch dflt l1 h1 offs, len)) (hlen : (h1 - l1 + 1).toNat = offs.toList.length) (hpos : 0 ≤ (pc : Int) + dflt ∧ ∀ o ∈ offs.toList, 0 ≤ (pc : Int) + o)
    (k1 : ∀ (j : Nat) (off : Int), offs.toList[j]? = some off → ∀ st ∈ ai_sw en x.2.1 x.2.2.2 pc lo sk kn sb 0 (l1 + j) off, ai_G TY WR w0 ad M p l e R s m args below meth c D tys A b L sx cells slots Q r0 st)
    (k2 : ∀ st ∈ ai_sw en x.2.1 x.2.2.2 pc lo sk kn sb 2 l1 dflt, ai_G TY WR w0 ad M p l e R s m args below meth c D tys A b L sx cells slots Q r0 st) (k3 : ∀ st ∈ ai_sw en x.2.1 x.2.2.2 pc lo sk kn sb 4 h1 dflt, ai_G TY WR w0 ad M p l e R s m args below meth c D tys A b L sx cells slots Q r0 st) : ai_G TY WR w0 ad M p l e R s m args below meth c D tys A b L sx cells slots Q r0 (pc, lo, x :: sk, en, kn, sb) := by
  intro r lv skc ws H locs ls hx g hP' hD hS hl
  obtain ⟨g1, g2, g3, g4, g5, g6, g7, g8⟩ := g
  obtain ⟨vx, s2, rfl, dx, k5⟩ := g4.cons
  rcases dx with ⟨q, -⟩ | ⟨-, za, i, a1, rfl, a3⟩ | ⟨q, -⟩ | ⟨q, -⟩ | ⟨q, -⟩
  · omega
  · have z0 := ai_z_ok g1 hz
    by_cases c1 : i.toInt < l1
    · obtain ⟨en1, q1, q2⟩ := ai_rf_ok (op := 2) (o := l1 - x.2.2.2) g1 a1 z0 (show za < 0 + (l1 - x.2.2.2) by omega)
      exact lv_tableOut (tgt := ((pc : Int) + dflt).toNat) C.1 C.2.1 hd (Or.inl c1) (by omega) (k2 (((pc : Int) + dflt).toNat, lo, sk, en1, kn, sb) (by unfold ai_sw; rw [q1]; exact List.mem_singleton.mpr rfl) r lv _ ws H locs ls hx ⟨q2, g2, g3, k5, g5, g6, g7, g8⟩ hP' hD hS hl)
    · by_cases c2 : h1 < i.toInt
      · obtain ⟨en1, q1, q2⟩ := ai_rf_ok (op := 4) (o := h1 - x.2.2.2) g1 a1 z0 (show 0 + (h1 - x.2.2.2) < za by omega)
        exact lv_tableOut (tgt := ((pc : Int) + dflt).toNat) C.1 C.2.1 hd (Or.inr c2) (by omega) (k3 (((pc : Int) + dflt).toNat, lo, sk, en1, kn, sb) (by unfold ai_sw; rw [q1]; exact List.mem_singleton.mpr rfl) r lv _ ws H locs ls hx ⟨q2, g2, g3, k5, g5, g6, g7, g8⟩ hP' hD hS hl)
      · obtain ⟨off, ho⟩ : ∃ off, offs.toList[(i.toInt - l1).toNat]? = some off := ⟨_, List.getElem?_eq_getElem (by omega)⟩
        obtain ⟨en1, q1, q2⟩ := ai_rf_ok (op := 0) (o := l1 + ((i.toInt - l1).toNat : Nat) - x.2.2.2) g1 a1 z0 (show za = 0 + (l1 + ((i.toInt - l1).toNat : Nat) - x.2.2.2) by omega)
        have := hpos.2 off (List.mem_of_getElem? ho)
        exact lv_tableIn (off := off) (tgt := ((pc : Int) + off).toNat) C.1 C.2.1 hd c1 c2 (by rw [← ho]; simp) (by omega) (k1 _ off ho (((pc : Int) + off).toNat, lo, sk, en1, kn, sb) (by unfold ai_sw; rw [q1]; exact List.mem_singleton.mpr rfl) r lv _ ws H locs ls hx ⟨q2, g2, g3, k5, g5, g6, g7, g8⟩ hP' hD hS hl)
  all_goals omega
theorem ai_Jgoto (C : ai_cx M d p R s m args c D tys A b L sx cells slots) {off : Int} {tgt : Nat} (ht : (pc : Int) + off = (tgt : Int)) (hd : decode M.2.1 pc = .ok (.goto off, 3)) (k : ai_G TY WR w0 ad M p l e R s m args below meth c D tys A b L sx cells slots Q r0 (tgt, lo, sk, en, kn, sb)) : ai_G TY WR w0 ad M p l e R s m args below meth c D tys A b L sx cells slots Q r0 (pc, lo, sk, en, kn, sb) := by
  intro r lv skc ws H locs ls hx g hP hD hS hl
  exact lv_goto C.1 C.2.1 hd ht (k r lv skc ws H locs ls hx g hP hD hS hl)
end AIM
end
section
/-! one instruction -/
section AIN
variable {TY : List ai_c} {WR : List (Nat × Nat × Nat)} {w0 : va_W} {ad : List Nat} {M : ai_m} {d : Nat} {p : Program} {l : Launch} {e : Env} {R : Room} {s : State} {m : MethodId} {args : Array Value} {below : List Frame} {meth : Method} {c : Code} {D : va_G} {tys : ai_ty} {A : Nat → Prop} {b L : Nat} {sx : Nat → Int32} {cells slots : Nat} {Q : State → Prop} {r0 : List Int} {pc pc' : Nat} {lo : List (Nat × ai_v)} {sk : List ai_v} {en en' : List ai_e} {kn kn' : List ai_k} {sb sb' : List ai_b} {x y v : ai_v} {ss : List ai_s}
def ai_n2 (F : List ai_e → List ai_b → ai_v → ai_v → Option ai_q) (pc' : Nat) (lo : List (Nat × ai_v)) (sk : List ai_v) (en : List ai_e) (kn : List ai_k) (sb : List ai_b) : Option (List ai_s) := match sk with
  | y :: x :: k => (F en sb x y).map fun q => [(pc', lo, q.2.2 :: k, q.1, kn, q.2.1)]
  | _ => none
theorem ai_n2_ok {F : List ai_e → List ai_b → ai_v → ai_v → Option ai_q} {side : Int32 → Prop} {f : Int32 → Int32 → Int32} (hO : ai_O2 F side f) (hn : 1 < en.length) (hq : ai_n2 F pc' lo sk en kn sb = some ss)
    (row : ∀ (H : Heap) (locs : List Loc) (ls : Array Slot) (rest : List Value) (i j : Int32), ls.size = M.2.2.1 → side j → W p l e R s m args below meth c H locs cells slots Q (F0 m pc' ls (.int (f i j) :: rest)) → W p l e R s m args below meth c H locs cells slots Q (F0 m pc ls (.int j :: .int i :: rest)))
    (k : ∀ st ∈ ss, ai_G TY WR w0 ad M p l e R s m args below meth c D tys A b L sx cells slots Q r0 st) : ai_G TY WR w0 ad M p l e R s m args below meth c D tys A b L sx cells slots Q r0 (pc, lo, sk, en, kn, sb) := by
  unfold ai_n2 at hq
  split at hq
  · obtain ⟨q, h1, rfl⟩ := Option.map_eq_some_iff.mp hq
    exact ai_J2 hO hn h1 row (k _ (List.mem_singleton.mpr rfl))
  · cases hq
def ai_n2l (F : List ai_e → ai_v → ai_v → Option (List ai_e × ai_v)) (pc' : Nat) (lo : List (Nat × ai_v)) (sk : List ai_v) (en : List ai_e) (kn : List ai_k) (sb : List ai_b) : Option (List ai_s) := match sk with
  | y :: x :: k => (F en x y).map fun q => [(pc', lo, q.2 :: k, q.1, kn, sb)]
  | _ => none
theorem ai_n2l_ok {F : List ai_e → ai_v → ai_v → Option (List ai_e × ai_v)} {side : Int64 → Prop} {f : Int64 → Int64 → Int64} (hO : ai_P2 F side f) (hn : 1 < en.length) (hq : ai_n2l F pc' lo sk en kn sb = some ss)
    (row : ∀ (H : Heap) (locs : List Loc) (ls : Array Slot) (rest : List Value) (i j : Int64), side j → W p l e R s m args below meth c H locs cells slots Q (F0 m pc' ls (.long (f i j) :: rest)) → W p l e R s m args below meth c H locs cells slots Q (F0 m pc ls (.long j :: .long i :: rest)))
    (k : ∀ st ∈ ss, ai_G TY WR w0 ad M p l e R s m args below meth c D tys A b L sx cells slots Q r0 st) : ai_G TY WR w0 ad M p l e R s m args below meth c D tys A b L sx cells slots Q r0 (pc, lo, sk, en, kn, sb) := by
  unfold ai_n2l at hq
  split at hq
  · obtain ⟨q, h1, rfl⟩ := Option.map_eq_some_iff.mp hq
    exact ai_J2l hO hn h1 row (k _ (List.mem_singleton.mpr rfl))
  · cases hq
def ai_nlad (pc' : Nat) (lo : List (Nat × ai_v)) (sk : List ai_v) (en : List ai_e) (kn : List ai_k) (sb : List ai_b) : Option (List ai_s) := match sk with
  | y :: x :: k => (ai_lad en sb x y).map fun q => [(pc', lo, q.2.2 :: k, q.1, kn, q.2.1)]
  | _ => none
theorem ai_nlad_ok (C : ai_cx M d p R s m args c D tys A b L sx cells slots) (hn : 1 < en.length) (hd : decode M.2.1 pc = .ok (.ladd, 1)) (hq : ai_nlad (pc + 1) lo sk en kn sb = some ss) (k : ∀ st ∈ ss, ai_G TY WR w0 ad M p l e R s m args below meth c D tys A b L sx cells slots Q r0 st) : ai_G TY WR w0 ad M p l e R s m args below meth c D tys A b L sx cells slots Q r0 (pc, lo, sk, en, kn, sb) := by
  unfold ai_nlad at hq
  split at hq
  · rename_i y x sk'
    obtain ⟨q, h1, rfl⟩ := Option.map_eq_some_iff.mp hq
    intro r lv skc ws H locs ls hx g hP hD hS hl
    obtain ⟨g1, g2, g3, g4, g5, g6, g7, g8⟩ := g
    obtain ⟨vy, s1, rfl, dy, k4⟩ := g4.cons
    obtain ⟨vx, s2, rfl, dx, k5⟩ := k4.cons
    obtain ⟨i, j, rfl, rfl, r', e1, e2, e3, e4⟩ := ai_lad_ok w0 ad b r en sb x y vx vy q g1 g2 dx dy h1
    exact lv_ladd C.1 C.2.1 hd (k _ (List.mem_singleton.mpr rfl) r' lv _ ws H locs ls (hx.tr e1) ⟨e2, e3, g3.mono e1, ⟨e4, k5.mono e1⟩, g5, g6.mono e1, g7, ai_sc1 e1 (by rw [g1.1]; exact hn) g8⟩ hP hD hS hl)
  · cases hq
def ai_nc1 (n : Int) (pc' : Nat) (lo : List (Nat × ai_v)) (sk : List ai_v) (en : List ai_e) (kn : List ai_k) (sb : List ai_b) : Option (List ai_s) := some [(pc', lo, (1, 0, 0, n) :: sk, en, kn, sb)]
theorem ai_ofI {n : Int} (hr : ai_ir n n = true) : (Int32.ofInt n).toInt = n := by
  have := ai_irs hr
  have hsz : (Int32.size : Int) = 4294967296 := rfl
  rw [Int32.toInt_ofInt, Int.bmod_eq_of_le] <;> omega
/-- loads: which kinds of value -/
def ai_nld (tg : Nat → Bool) (i : Nat) (pc' : Nat) (lo : List (Nat × ai_v)) (sk : List ai_v) (en : List ai_e) (kn : List ai_k) (sb : List ai_b) : Option (List ai_s) :=
  (ai_get lo i).bind fun v => if tg v.1 = true then some [(pc', lo, v :: sk, en, kn, sb)] else none
def ai_tI (n : Nat) : Bool := n == 1 || n == 3
def ai_tL (n : Nat) : Bool := n == 2
def ai_tA (n : Nat) : Bool := n == 0 || n == 4
theorem ai_isI {r : List Int} {w : Value} (h : ai_dv ad b r v w) (ht : ai_tI v.1 = true) : ∃ i : Int32, w = .int i := by
  unfold ai_tI at ht
  rcases h with ⟨q, -⟩ | ⟨-, z, i, -, rfl, -⟩ | ⟨q, -⟩ | ⟨-, z, y, i, -, -, rfl, -⟩ | ⟨q, -⟩
  · rw [q] at ht; cases ht
  · exact ⟨i, rfl⟩
  · rw [q] at ht; cases ht
  · exact ⟨i, rfl⟩
  · rw [q] at ht; cases ht
theorem ai_isL {r : List Int} {w : Value} (h : ai_dv ad b r v w) (ht : ai_tL v.1 = true) : ∃ i : Int64, w = .long i := by
  unfold ai_tL at ht
  rcases h with ⟨q, -⟩ | ⟨q, -⟩ | ⟨-, z, i, -, rfl, -⟩ | ⟨q, -⟩ | ⟨q, -⟩
  · rw [q] at ht; cases ht
  · rw [q] at ht; cases ht
  · exact ⟨i, rfl⟩
  · rw [q] at ht; cases ht
  · rw [q] at ht; cases ht
theorem ai_isA {r : List Int} {w : Value} (h : ai_dv ad b r v w) (ht : ai_tA v.1 = true) : ∃ a : Nat, w = .ref a := by
  unfold ai_tA at ht
  rcases h with ⟨-, a, -, rfl⟩ | ⟨q, -⟩ | ⟨q, -⟩ | ⟨q, -⟩ | ⟨-, rfl⟩
  · exact ⟨a, rfl⟩
  · rw [q] at ht; cases ht
  · rw [q] at ht; cases ht
  · rw [q] at ht; cases ht
  · exact ⟨b, rfl⟩
theorem ai_nldI {i : Nat} (hq : ai_nld ai_tI i pc' lo sk en kn sb = some ss)
    (row : ∀ (H : Heap) (locs : List Loc) (ls : Array Slot) (rest : List Value) (w : Int32), ls[i]? = some (.val (.int w)) → W p l e R s m args below meth c H locs cells slots Q (F0 m pc' ls (.int w :: rest)) → W p l e R s m args below meth c H locs cells slots Q (F0 m pc ls rest))
    (k : ∀ st ∈ ss, ai_G TY WR w0 ad M p l e R s m args below meth c D tys A b L sx cells slots Q r0 st) : ai_G TY WR w0 ad M p l e R s m args below meth c D tys A b L sx cells slots Q r0 (pc, lo, sk, en, kn, sb) := by
  unfold ai_nld at hq
  obtain ⟨v, h1, hq⟩ := Option.bind_eq_some_iff.mp hq
  split at hq
  · rename_i ht
    cases hq
    refine ai_Jld h1 (fun H locs ls rest w r a1 a2 a3 => ?_) (k _ (List.mem_singleton.mpr rfl))
    obtain ⟨j, rfl⟩ := ai_isI a2 ht
    exact row H locs ls rest j a1 a3
  · cases hq
theorem ai_nldL {i : Nat} (hq : ai_nld ai_tL i pc' lo sk en kn sb = some ss)
    (row : ∀ (H : Heap) (locs : List Loc) (ls : Array Slot) (rest : List Value) (w : Int64), ls[i]? = some (.val (.long w)) → W p l e R s m args below meth c H locs cells slots Q (F0 m pc' ls (.long w :: rest)) → W p l e R s m args below meth c H locs cells slots Q (F0 m pc ls rest))
    (k : ∀ st ∈ ss, ai_G TY WR w0 ad M p l e R s m args below meth c D tys A b L sx cells slots Q r0 st) : ai_G TY WR w0 ad M p l e R s m args below meth c D tys A b L sx cells slots Q r0 (pc, lo, sk, en, kn, sb) := by
  unfold ai_nld at hq
  obtain ⟨v, h1, hq⟩ := Option.bind_eq_some_iff.mp hq
  split at hq
  · rename_i ht
    cases hq
    refine ai_Jld h1 (fun H locs ls rest w r a1 a2 a3 => ?_) (k _ (List.mem_singleton.mpr rfl))
    obtain ⟨j, rfl⟩ := ai_isL a2 ht
    exact row H locs ls rest j a1 a3
  · cases hq
theorem ai_nldA {i : Nat} (hq : ai_nld ai_tA i pc' lo sk en kn sb = some ss)
    (row : ∀ (H : Heap) (locs : List Loc) (ls : Array Slot) (rest : List Value) (w : Nat), ls[i]? = some (.val (.ref w)) → W p l e R s m args below meth c H locs cells slots Q (F0 m pc' ls (.ref w :: rest)) → W p l e R s m args below meth c H locs cells slots Q (F0 m pc ls rest))
    (k : ∀ st ∈ ss, ai_G TY WR w0 ad M p l e R s m args below meth c D tys A b L sx cells slots Q r0 st) : ai_G TY WR w0 ad M p l e R s m args below meth c D tys A b L sx cells slots Q r0 (pc, lo, sk, en, kn, sb) := by
  unfold ai_nld at hq
  obtain ⟨v, h1, hq⟩ := Option.bind_eq_some_iff.mp hq
  split at hq
  · rename_i ht
    cases hq
    refine ai_Jld h1 (fun H locs ls rest w r a1 a2 a3 => ?_) (k _ (List.mem_singleton.mpr rfl))
    obtain ⟨j, rfl⟩ := ai_isA a2 ht
    exact row H locs ls rest j a1 a3
  · cases hq
def ai_ns1 (tg : Nat → Bool) (nL i : Nat) (pc' : Nat) (lo : List (Nat × ai_v)) (sk : List ai_v) (en : List ai_e) (kn : List ai_k) (sb : List ai_b) : Option (List ai_s) := match sk with
  | v :: k => if tg v.1 = true ∧ i < nL then some [(pc', ai_st1 lo i v, k, en, kn, sb)] else none
  | _ => none
theorem ai_ns1I {i : Nat} (hq : ai_ns1 ai_tI M.2.2.1 i pc' lo sk en kn sb = some ss)
    (row : ∀ (H : Heap) (locs : List Loc) (ls : Array Slot) (lv : List (Nat × Value)) (rest : List Value) (w : Int32), lv_has ls M.2.2.1 lv → i < M.2.2.1 →
      (∀ ls' : Array Slot, lv_has ls' M.2.2.1 ((i, .int w) :: lv.filter (fun q => !(q.1 == i) && !(q.1 + 1 == i && q.2.category == 2))) → W p l e R s m args below meth c H locs cells slots Q (F0 m pc' ls' rest)) → W p l e R s m args below meth c H locs cells slots Q (F0 m pc ls (.int w :: rest)))
    (k : ∀ st ∈ ss, ai_G TY WR w0 ad M p l e R s m args below meth c D tys A b L sx cells slots Q r0 st) : ai_G TY WR w0 ad M p l e R s m args below meth c D tys A b L sx cells slots Q r0 (pc, lo, sk, en, kn, sb) := by
  unfold ai_ns1 at hq
  split at hq
  · split at hq
    · rename_i ht
      cases hq
      refine ai_Jst1 (fun H locs ls lv rest w r a1 a2 a3 => ?_) (k _ (List.mem_singleton.mpr rfl))
      obtain ⟨j, rfl⟩ := ai_isI a2 ht.1
      exact row H locs ls lv rest j a1 ht.2 a3
    · cases hq
  · cases hq
theorem ai_ns1A {i : Nat} (hq : ai_ns1 ai_tA M.2.2.1 i pc' lo sk en kn sb = some ss)
    (row : ∀ (H : Heap) (locs : List Loc) (ls : Array Slot) (lv : List (Nat × Value)) (rest : List Value) (w : Nat), lv_has ls M.2.2.1 lv → i < M.2.2.1 →
      (∀ ls' : Array Slot, lv_has ls' M.2.2.1 ((i, .ref w) :: lv.filter (fun q => !(q.1 == i) && !(q.1 + 1 == i && q.2.category == 2))) → W p l e R s m args below meth c H locs cells slots Q (F0 m pc' ls' rest)) → W p l e R s m args below meth c H locs cells slots Q (F0 m pc ls (.ref w :: rest)))
    (k : ∀ st ∈ ss, ai_G TY WR w0 ad M p l e R s m args below meth c D tys A b L sx cells slots Q r0 st) : ai_G TY WR w0 ad M p l e R s m args below meth c D tys A b L sx cells slots Q r0 (pc, lo, sk, en, kn, sb) := by
  unfold ai_ns1 at hq
  split at hq
  · split at hq
    · rename_i ht
      cases hq
      refine ai_Jst1 (fun H locs ls lv rest w r a1 a2 a3 => ?_) (k _ (List.mem_singleton.mpr rfl))
      obtain ⟨j, rfl⟩ := ai_isA a2 ht.1
      exact row H locs ls lv rest j a1 ht.2 a3
    · cases hq
  · cases hq
def ai_ns2 (nL i : Nat) (pc' : Nat) (lo : List (Nat × ai_v)) (sk : List ai_v) (en : List ai_e) (kn : List ai_k) (sb : List ai_b) : Option (List ai_s) := match sk with
  | v :: k => if ai_tL v.1 = true ∧ i + 1 < nL then some [(pc', ai_st2 lo i v, k, en, kn, sb)] else none
  | _ => none
theorem ai_ns2L {i : Nat} (hq : ai_ns2 M.2.2.1 i pc' lo sk en kn sb = some ss)
    (row : ∀ (H : Heap) (locs : List Loc) (ls : Array Slot) (lv : List (Nat × Value)) (rest : List Value) (w : Int64), lv_has ls M.2.2.1 lv → i + 1 < M.2.2.1 →
      (∀ ls' : Array Slot, lv_has ls' M.2.2.1 ((i, .long w) :: lv.filter (fun q => !(q.1 == i) && (!(q.1 == i + 1) && !(q.1 + 1 == i && q.2.category == 2)))) → W p l e R s m args below meth c H locs cells slots Q (F0 m pc' ls' rest)) → W p l e R s m args below meth c H locs cells slots Q (F0 m pc ls (.long w :: rest)))
    (k : ∀ st ∈ ss, ai_G TY WR w0 ad M p l e R s m args below meth c D tys A b L sx cells slots Q r0 st) : ai_G TY WR w0 ad M p l e R s m args below meth c D tys A b L sx cells slots Q r0 (pc, lo, sk, en, kn, sb) := by
  unfold ai_ns2 at hq
  split at hq
  · split at hq
    · rename_i ht
      cases hq
      refine ai_Jst2 (fun H locs ls lv rest w r a1 a2 a3 => ?_) (k _ (List.mem_singleton.mpr rfl))
      obtain ⟨j, rfl⟩ := ai_isL a2 ht.1
      exact row H locs ls lv rest j a1 ht.2 a3
    · cases hq
  · cases hq
/-- branches -/
def ai_tg (pc : Nat) (off : Int) : Option Nat := if 0 ≤ (pc : Int) + off then some ((pc : Int) + off).toNat else none
theorem ai_tg_ok {off : Int} {t : Nat} (h : ai_tg pc off = some t) : (pc : Int) + off = (t : Int) := by
  unfold ai_tg at h
  split at h
  · cases h
    omega
  · cases h
def ai_nb1 (op : Nat) (off : Int) (pc : Nat) (lo : List (Nat × ai_v)) (sk : List ai_v) (en : List ai_e) (kn : List ai_k) (sb : List ai_b) : Option (List ai_s) := match sk with
  | x :: k => (ai_tg pc off).bind fun t => (ai_c1 en x).map fun q => ai_br en op q t (pc + 3) lo k kn sb
  | _ => none
theorem ai_nb1_ok {op : Nat} {off : Int} (P : Int32 → Prop) (hP : ∀ (i : Int32) (za zb : Int), (i.toInt < 0 ↔ za < zb) → (i.toInt = 0 ↔ za = zb) → (P i → ai_rel op za zb) ∧ (¬ P i → ai_rel (ai_neg op) za zb)) (hq : ai_nb1 op off pc lo sk en kn sb = some ss)
    (row : ∀ (H : Heap) (locs : List Loc) (ls : Array Slot) (rest : List Value) (i : Int32) (tgt : Nat), (pc : Int) + off = (tgt : Int) → (P i → W p l e R s m args below meth c H locs cells slots Q (F0 m tgt ls rest)) → (¬ P i → W p l e R s m args below meth c H locs cells slots Q (F0 m (pc + 3) ls rest)) → W p l e R s m args below meth c H locs cells slots Q (F0 m pc ls (.int i :: rest)))
    (k : ∀ st ∈ ss, ai_G TY WR w0 ad M p l e R s m args below meth c D tys A b L sx cells slots Q r0 st) : ai_G TY WR w0 ad M p l e R s m args below meth c D tys A b L sx cells slots Q r0 (pc, lo, sk, en, kn, sb) := by
  unfold ai_nb1 at hq
  split at hq
  · obtain ⟨t, h1, hq⟩ := Option.bind_eq_some_iff.mp hq
    obtain ⟨q, h2, rfl⟩ := Option.map_eq_some_iff.mp hq
    exact ai_Jb1 P h2 hP (fun H locs ls rest i a1 a2 => row H locs ls rest i t (ai_tg_ok h1) a1 a2) k
  · cases hq
def ai_nb2 (op : Nat) (off : Int) (pc : Nat) (lo : List (Nat × ai_v)) (sk : List ai_v) (en : List ai_e) (kn : List ai_k) (sb : List ai_b) : Option (List ai_s) := match sk with
  | y :: x :: k => (ai_tg pc off).bind fun t => if x.1 = 1 ∧ y.1 = 1 then some (ai_br en op (x.2.1, y.2.1, y.2.2.2 - x.2.2.2) t (pc + 3) lo k kn sb) else none
  | _ => none
theorem ai_nb2_ok {op : Nat} {off : Int} (P : Int32 → Int32 → Prop) (hP : ∀ (i j : Int32) (za zb : Int), (i.toInt < j.toInt ↔ za < zb) → (i.toInt = j.toInt ↔ za = zb) → (P i j → ai_rel op za zb) ∧ (¬ P i j → ai_rel (ai_neg op) za zb)) (hq : ai_nb2 op off pc lo sk en kn sb = some ss)
    (row : ∀ (H : Heap) (locs : List Loc) (ls : Array Slot) (rest : List Value) (i j : Int32) (tgt : Nat), (pc : Int) + off = (tgt : Int) → (P i j → W p l e R s m args below meth c H locs cells slots Q (F0 m tgt ls rest)) → (¬ P i j → W p l e R s m args below meth c H locs cells slots Q (F0 m (pc + 3) ls rest)) → W p l e R s m args below meth c H locs cells slots Q (F0 m pc ls (.int j :: .int i :: rest)))
    (k : ∀ st ∈ ss, ai_G TY WR w0 ad M p l e R s m args below meth c D tys A b L sx cells slots Q r0 st) : ai_G TY WR w0 ad M p l e R s m args below meth c D tys A b L sx cells slots Q r0 (pc, lo, sk, en, kn, sb) := by
  unfold ai_nb2 at hq
  split at hq
  · obtain ⟨t, h1, hq⟩ := Option.bind_eq_some_iff.mp hq
    split at hq
    · rename_i ht
      cases hq
      exact ai_Jb2 P ht.1 ht.2 hP (fun H locs ls rest i j a1 a2 => row H locs ls rest i j t (ai_tg_ok h1) a1 a2) k
    · cases hq
  · cases hq
theorem ai_P1 (i : Int32) (za zb : Int) (h1 : i.toInt < 0 ↔ za < zb) (h2 : i.toInt = 0 ↔ za = zb) :
    ((i = 0 → za = zb) ∧ (¬ i = 0 → za ≠ zb)) ∧ ((i < 0 → za < zb) ∧ (¬ i < 0 → zb ≤ za)) ∧ ((0 < i → zb < za) ∧ (¬ 0 < i → za ≤ zb)) ∧ ((0 ≤ i → zb ≤ za) ∧ (¬ 0 ≤ i → za < zb)) ∧ ((i ≤ 0 → za ≤ zb) ∧ (¬ i ≤ 0 → zb < za)) := by
  have e0 : (0 : Int32).toInt = 0 := rfl
  simp only [Int32.lt_iff_toInt_lt, Int32.le_iff_toInt_le, ← Int32.toInt_inj, e0]
  omega
theorem ai_P2' (i j : Int32) (za zb : Int) (h1 : i.toInt < j.toInt ↔ za < zb) (h2 : i.toInt = j.toInt ↔ za = zb) :
    ((i = j → za = zb) ∧ (¬ i = j → za ≠ zb)) ∧ ((i < j → za < zb) ∧ (¬ i < j → zb ≤ za)) ∧ ((j < i → zb < za) ∧ (¬ j < i → za ≤ zb)) ∧ ((j ≤ i → zb ≤ za) ∧ (¬ j ≤ i → za < zb)) ∧ ((i ≤ j → za ≤ zb) ∧ (¬ i ≤ j → zb < za)) := by
  simp only [Int32.lt_iff_toInt_lt, Int32.le_iff_toInt_le, ← Int32.toInt_inj]
  omega
/-- a switch by pairs -/
def ai_nlk (dflt : Int) (ps : List (Int × Int)) (pc : Nat) (lo : List (Nat × ai_v)) (sk : List ai_v) (en : List ai_e) (kn : List ai_k) (sb : List ai_b) : Option (List ai_s) := match sk with
  | x :: k => if x.1 = 1 ∧ (ps.zip (ps.drop 1)).all (fun (a, next) => a.1 < next.1) = true ∧ 0 ≤ (pc : Int) + dflt ∧ (ps.all fun q => decide (0 ≤ (pc : Int) + q.2)) = true then
      some ((((pc : Int) + dflt).toNat, lo, k, en, kn, sb) :: ps.flatMap fun q => ai_sw en x.2.1 x.2.2.2 pc lo k kn sb 0 q.1 q.2) else none
  | _ => none
theorem ai_offs (d z : Int) : ∀ ps : List (Int × Int), Op.lookupswitch.offset ps d z = d ∨ ∃ q ∈ ps, q.1 = z ∧ Op.lookupswitch.offset ps d z = q.2
  | [] => Or.inl rfl
  | q :: r => by
    have e : Op.lookupswitch.offset (q :: r) d z = if q.1 = z then q.2 else Op.lookupswitch.offset r d z := rfl
    rw [e]
    by_cases h : q.1 = z
    · rw [if_pos h]
      exact Or.inr ⟨q, List.mem_cons_self, h, rfl⟩
    · rw [if_neg h]
      rcases ai_offs d z r with h1 | ⟨q1, a1, a2, a3⟩
      · exact Or.inl h1
      · exact Or.inr ⟨q1, List.mem_cons_of_mem _ a1, a2, a3⟩
theorem ai_nlk_ok (C : ai_cx M d p R s m args c D tys A b L sx cells slots) {dflt : Int} {ps : Array (Int × Int)} {len : Nat} (hz : ai_z en = true) (hd : decode M.2.1 pc = .ok (.lookupswitch dflt ps, len)) (hq : ai_nlk dflt ps.toList pc lo sk en kn sb = some ss) (k : ∀ st ∈ ss, ai_G TY WR w0 ad M p l e R s m args below meth c D tys A b L sx cells slots Q r0 st) : ai_G TY WR w0 ad M p l e R s m args below meth c D tys A b L sx cells slots Q r0 (pc, lo, sk, en, kn, sb) := by
  unfold ai_nlk at hq
  split at hq
  · rename_i x sk' 
    split at hq
    · rename_i hc
      obtain ⟨c1, c2, c3, c4⟩ := hc
      cases hq
      intro r lv skc ws H locs ls hx g hP' hD hS hl
      obtain ⟨g1, g2, g3, g4, g5, g6, g7, g8⟩ := g
      obtain ⟨vx, s2, rfl, dx, k5⟩ := g4.cons
      rcases dx with ⟨q, -⟩ | ⟨-, za, i, a1, rfl, a3⟩ | ⟨q, -⟩ | ⟨q, -⟩ | ⟨q, -⟩
      · omega
      · rcases ai_offs dflt i.toInt ps.toList with ho | ⟨q, q1, q2, ho⟩
        · exact lv_lookup (tgt := ((pc : Int) + dflt).toNat) C.1 C.2.1 hd c2 ho (by omega) (k _ List.mem_cons_self r lv _ ws H locs ls hx ⟨g1, g2, g3, k5, g5, g6, g7, g8⟩ hP' hD hS hl)
        · have := List.all_eq_true.mp c4 q q1
          simp only [decide_eq_true_eq] at this
          obtain ⟨en1, e1, e2⟩ := ai_rf_ok (op := 0) (o := q.1 - x.2.2.2) g1 a1 (ai_z_ok g1 hz) (show za = 0 + (q.1 - x.2.2.2) by omega)
          exact lv_lookup (tgt := ((pc : Int) + q.2).toNat) C.1 C.2.1 hd c2 ho (by omega) (k (((pc : Int) + q.2).toNat, lo, sk', en1, kn, sb) (List.mem_cons_of_mem _ (List.mem_flatMap.mpr ⟨q, q1, by unfold ai_sw; rw [e1]; exact List.mem_singleton.mpr rfl⟩)) r lv _ ws H locs ls hx ⟨e2, g2, g3, k5, g5, g6, g7, g8⟩ hP' hD hS hl)
      all_goals omega
    · cases hq
  · cases hq
/-- what is known of the first n places of row a, as of row b -/
def ai_cpk (kn : List ai_k) (a b n : Nat) : List ai_k := (kn.filter fun q => Nat.beq q.1 a && Nat.blt q.2.1 n).map fun q => (b, q.2.1, q.2.2)
/-- a row copied into another of the same bounds: what was known of it is known there -/
def ai_ncp (TY : List ai_c) (WR : List (Nat × Nat × Nat)) (pc' : Nat) (lo : List (Nat × ai_v)) (sk : List ai_v) (en : List ai_e) (kn : List ai_k) (sb : List ai_b) : Option (List ai_s) := match sk with
  | n :: dp :: ds :: sp :: sr :: k => (TY[sr.2.1]?).bind fun t0 => (TY[ds.2.1]?).bind fun t1 => (ai_i en n).bind fun pn => (ai_i en dp).bind fun pd => (ai_i en sp).bind fun ps =>
      if sr.1 = 0 ∧ ds.1 = 0 ∧ t0.1 = 1 ∧ t1.1 = 1 ∧ t0.2.2 = t1.2.2 ∧ pd = (0, 0) ∧ ps = (0, 0) ∧ pn.1 = pn.2 ∧ 0 < pn.1 ∧ pn.1 ≤ t0.2.1 ∧ pn.1 ≤ t1.2.1 ∧ ai_wr WR ds.2.1 0 (pn.1.toNat - 1) = true ∧ (k.map fun v => if v.1 = 2 then 2 else 1).sum ≤ 8 then
        some [(pc', lo, k, en, ai_cpk kn sr.2.1 ds.2.1 pn.1.toNat ++ ai_dr kn ds.2.1 0 (pn.1.toNat - 1), sb)] else none
  | _ => none
theorem ai_sum {r : List Int} : ∀ {vs : List ai_v} {ys : List Value}, ai_sk ad b r vs ys → (ys.map fun v => v.category).sum = (vs.map fun v => if v.1 = 2 then 2 else 1).sum
  | [], [], _ => rfl
  | [], _ :: _, h => h.elim
  | _ :: _, [], h => h.elim
  | v :: vs, y :: ys, h => by
    rw [List.map_cons, List.map_cons, List.sum_cons, List.sum_cons, ai_sum h.2, h.1.cat]
theorem ai_ncp_ok (C : ai_cx M d p R s m args c D tys A b L sx cells slots) {idx : Nat} (hd1 : 1 ≤ d) (hw1 : Cond.methodLink M.1.cls idx arraycopyName ∈ ai_GT) (hw2 : Cond.native arraycopyName ∈ ai_GT) (hw3 : Cond.static arraycopyName ∈ ai_GT) (hw4 : Cond.initialized "java/lang/System" ∈ ai_GT) (hd : decode M.2.1 pc = .ok (.invokestatic idx, 3))
    (hq : ai_ncp TY WR (pc + 3) lo sk en kn sb = some ss) (k : ∀ st ∈ ss, ai_G TY WR w0 ad M p l e R s m args below meth c D tys A b L sx cells slots Q r0 st) : ai_G TY WR w0 ad M p l e R s m args below meth c D tys A b L sx cells slots Q r0 (pc, lo, sk, en, kn, sb) := by
  unfold ai_ncp at hq
  split at hq
  · rename_i n dp ds sp sr sk'
    obtain ⟨t0, h0, hq⟩ := Option.bind_eq_some_iff.mp hq
    obtain ⟨t1, h1, hq⟩ := Option.bind_eq_some_iff.mp hq
    obtain ⟨pn, h2, hq⟩ := Option.bind_eq_some_iff.mp hq
    obtain ⟨pd, h3, hq⟩ := Option.bind_eq_some_iff.mp hq
    obtain ⟨ps, h4, hq⟩ := Option.bind_eq_some_iff.mp hq
    split at hq
    · rename_i hc
      obtain ⟨c1, c2, c3, c4, c5, c6, c7, c8, c9, c10, c11, c12, c13⟩ := hc
      injection hq with hq
      subst hq
      subst c6
      subst c7
      intro r lv skc ws H locs ls hx g hP' hD hS hl
      obtain ⟨g1, g2, g3, g4, g5, g6, g7, g8⟩ := g
      obtain ⟨w1, s1, rfl, d1, k1⟩ := g4.cons
      obtain ⟨w2, s2, rfl, d2, k2⟩ := k1.cons
      obtain ⟨w3, s3, rfl, d3, k3⟩ := k2.cons
      obtain ⟨w4, s4, rfl, d4, k4⟩ := k3.cons
      obtain ⟨w5, s5, rfl, d5, k5⟩ := k4.cons
      obtain ⟨-, -, i1, -, rfl, -, a1, a2⟩ := ai_i_ok g1 d1 h2
      obtain ⟨-, -, i2, -, rfl, -, a3, a4⟩ := ai_i_ok g1 d2 h3
      obtain ⟨-, -, i4, -, rfl, -, a5, a6⟩ := ai_i_ok g1 d4 h4
      obtain ⟨q0, e0, x1, x2, x3⟩ := g5.get h0
      obtain ⟨q1, e1, y1, y2, y3⟩ := g5.get h1
      cases ai_ref0 d5 c1 x2
      cases ai_ref0 d3 c2 y2
      have z2 : i2 = 0 := Int32.toInt_inj.mp (by show i2.toInt = 0; dsimp only at a3 a4; omega)
      have z4 : i4 = 0 := Int32.toInt_inj.mp (by show i4.toInt = 0; dsimp only at a5 a6; omega)
      subst z2
      subst z4
      have en1 : (i1.toNatClampNeg : Int) = i1.toInt := by
        show ((i1.toInt.toNat : Nat) : Int) = i1.toInt
        omega
      rcases x3 with ⟨q, -⟩ | ⟨-, cA, f, rfl, ⟨u0, f1⟩, f2⟩ | ⟨q, -⟩ | ⟨q, -⟩
      · omega
      · rcases y3 with ⟨q, -⟩ | ⟨t10, cB, f', rfl, ⟨u1, f3⟩, f4⟩ | ⟨q, -⟩ | ⟨q, -⟩
        · omega
        · rw [c3] at f1
          have f3' := f3
          rw [c4] at f3
          have hlt : ¬ i1 < 0 := by
            rw [Int32.lt_iff_toInt_lt]
            show ¬ i1.toInt < 0
            omega
          have hsum := ai_sum k5
          refine va_copyi C.1 C.2.1 (by rw [C.2.2.1, hl.1]) C.2.2.2.1 (C.2.2.2.2.1 _ hw1) (C.2.2.2.2.1 _ hw2) (C.2.2.2.2.1 _ hw3) (C.2.2.2.2.1 _ hw4) C.2.2.2.2.2.2.1 hP' hD hS sr.2.1 ds.2.1 u0 u1 x1 y1 f1 f3 rfl (by decide) (by decide) hlt (by show 0 + i1.toNatClampNeg ≤ t0.2.1; omega) (by show 0 + i1.toNatClampNeg ≤ t1.2.1; omega) (fun _ _ => rfl) ?_ ?_ hd (fun H1 locs1 hP1 hD1 hS1 => ?_)
          · have := C.2.2.2.2.2.2.2.2.1.1
            omega
          · have := C.2.2.2.2.2.2.2.2.1.2.1
            rw [hsum, show nativeFrameWords "java/lang/System" "arraycopy" 5 = 7 from by decide]
            omega
          · have key : ∀ j : Nat, (pn.1.toNat - 1 < j) → va_cpy f f' (0 : Int32).toNatClampNeg (0 : Int32).toNatClampNeg i1.toNatClampNeg j = f' j := fun j hj => by
              unfold va_cpy
              rw [if_neg]
              show ¬ (0 ≤ j ∧ j < 0 + i1.toNatClampNeg)
              omega
            refine k _ (List.mem_singleton.mpr rfl) r lv _ _ H1 locs1 ls hx ⟨g1, g2, g3, k5, ?_, ?_, ?_, g8⟩ hP1 hD1 hS1 hl
            · refine g5.set h1 y1 (Or.inr (Or.inl ⟨t10, cB, _, rfl, ⟨u1, f3'⟩, fun j q hj hp => ?_⟩))
              by_cases hjn : j < i1.toNatClampNeg
              · have ej : va_cpy f f' (0 : Int32).toNatClampNeg (0 : Int32).toNatClampNeg i1.toNatClampNeg j = f j := by
                  show (if 0 ≤ j ∧ j < 0 + i1.toNatClampNeg then f (0 + (j - 0)) else f' j) = f j
                  rw [if_pos (by omega), show 0 + (j - 0) = j by omega]
                rw [ej]
                exact f2 j q (by omega) (by rw [c5]; exact hp)
              · rw [key j (by omega)]
                exact f4 j q hj hp
            · intro q hq
              rcases List.mem_append.mp hq with hq | hq
              · unfold ai_cpk at hq
                obtain ⟨q', hq', rfl⟩ := List.mem_map.mp hq
                obtain ⟨m1, m2⟩ := List.mem_filter.mp hq'
                rw [Bool.and_eq_true, ai_beq] at m2
                obtain ⟨m2, m3⟩ := m2
                have m3 : q'.2.1 < pn.1.toNat := Nat.le_of_ble_eq_true m3
                obtain ⟨u, u1, u2⟩ := g6 q' m1
                have hu : u = .int (f q'.2.1) := by
                  rw [m2] at u1
                  exact u1.fun ⟨_, _, x1, Or.inr (Or.inl ⟨_, _, _, rfl, by omega, rfl⟩)⟩
                subst hu
                refine ⟨_, ⟨_, _, List.getElem?_set_self (List.getElem?_eq_some_iff.mp y1).1, Or.inr (Or.inl ⟨_, _, _, rfl, by show q'.2.1 < t1.2.1; omega, ?_⟩)⟩, u2⟩
                show Value.int (f q'.2.1) = Value.int (if 0 ≤ q'.2.1 ∧ q'.2.1 < 0 + i1.toNatClampNeg then f (0 + (q'.2.1 - 0)) else f' q'.2.1)
                rw [if_pos (by omega), show 0 + (q'.2.1 - 0) = q'.2.1 by omega]
              · obtain ⟨m1, m2⟩ := ai_dr_in hq
                obtain ⟨u, u1, u2⟩ := g6 q m1
                exact ⟨u, u1.setA (j := 0) y1 (fun hcc _ => key _ (by have := m2 hcc; omega)), u2⟩
            · intro c' i' u hu h0
              refine (g7 c' i' u hu h0).setA (j := 0) y1 (fun hcc _ => key _ ?_)
              subst hcc
              rcases Nat.lt_or_ge (pn.1.toNat - 1) i' with hh | hh
              · exact hh
              · rw [ai_wr_in c12 (by omega) hh] at hu
                cases hu
        · omega
        · omega
      · omega
      · omega
    · cases hq
  · cases hq
end AIN
end
section
/-! any instruction but calls, and that its steps are sound -/
def ai_mok (M : ai_m) : Prop := (∀ q ∈ M.2.2.2.2.2.1, decode M.2.1 q.1 = .ok (q.2.1, q.2.2)) ∧ (∀ q ∈ M.2.2.2.2.2.2.1, ai_flok M.1.cls q.2.1 q.2.2 q.1) ∧ (∀ q ∈ M.2.2.2.2.2.2.2.1, ai_fpok M.1.cls q.2.1 q.2.2.1 q.1 q.2.2.2) ∧ (∀ q ∈ M.2.2.2.2.2.2.2.2.1, Cond.constant M.1.cls q.1 (Int32.ofInt q.2) ∈ ai_GT ∧ ai_ir q.2 q.2 = true) ∧ ∀ q ∈ M.2.2.2.2.2.2.2.2.2.1, Cond.constantLong M.1.cls q.1 (Int64.ofInt q.2) ∈ ai_GT ∧ (Int64.ofInt q.2).toInt = q.2
theorem ai_ofI8 {n : Int} (h : -128 ≤ n ∧ n ≤ 127) : ((Int8.ofInt n).toInt32).toInt = n := by
  have hsz : (Int8.size : Int) = 256 := rfl
  rw [Int8.toInt_toInt32, Int8.toInt_ofInt, Int.bmod_eq_of_le] <;> omega
theorem ai_ofI16 {n : Int} (h : -32768 ≤ n ∧ n ≤ 32767) : ((Int16.ofInt n).toInt32).toInt = n := by
  have hsz : (Int16.size : Int) = 65536 := rfl
  rw [Int16.toInt_toInt32, Int16.toInt_ofInt, Int.bmod_eq_of_le] <;> omega
theorem ai_ofL (n : Fin 2) : (Int64.ofNat n).toInt = ((n : Nat) : Int) := by
  match n with
  | 0 => rfl
  | 1 => rfl
def ai_nx (TY : List ai_c) (WR : List (Nat × Nat × Nat)) (M : ai_m) (ins : Instr) (len pc : Nat) (lo : List (Nat × ai_v)) (sk : List ai_v) (en : List ai_e) (kn : List ai_k) (sb : List ai_b) : Option (List ai_s) := match ins, len with
  | .iconst n, 1 => if ai_ir n n = true then some [(pc + 1, lo, (1, 0, 0, n) :: sk, en, kn, sb)] else none
  | .bipush n, 2 => if -128 ≤ n ∧ n ≤ 127 then some [(pc + 2, lo, (1, 0, 0, n) :: sk, en, kn, sb)] else none
  | .sipush n, 3 => if -32768 ≤ n ∧ n ≤ 32767 then some [(pc + 3, lo, (1, 0, 0, n) :: sk, en, kn, sb)] else none
  | .lconst n, 1 => some [(pc + 1, lo, (2, 0, 0, ((n : Nat) : Int)) :: sk, en, kn, sb)]
  | .ldc i, 2 => (M.2.2.2.2.2.2.2.2.1.find? fun q => Nat.beq q.1 i).map fun q => [(pc + 2, lo, (1, 0, 0, q.2) :: sk, en, kn, sb)]
  | .ldc_w i, 3 => (M.2.2.2.2.2.2.2.2.1.find? fun q => Nat.beq q.1 i).map fun q => [(pc + 3, lo, (1, 0, 0, q.2) :: sk, en, kn, sb)]
  | .ldc2_w i, 3 => (M.2.2.2.2.2.2.2.2.2.1.find? fun q => Nat.beq q.1 i).map fun q => [(pc + 3, lo, (2, 0, 0, q.2) :: sk, en, kn, sb)]
  | .iload_n i, 1 => ai_nld ai_tI (i : Nat) (pc + 1) lo sk en kn sb
  | .iload i, 2 => ai_nld ai_tI i (pc + 2) lo sk en kn sb
  | .lload_n i, 1 => ai_nld ai_tL (i : Nat) (pc + 1) lo sk en kn sb
  | .lload i, 2 => ai_nld ai_tL i (pc + 2) lo sk en kn sb
  | .aload_n i, 1 => ai_nld ai_tA (i : Nat) (pc + 1) lo sk en kn sb
  | .aload i, 2 => ai_nld ai_tA i (pc + 2) lo sk en kn sb
  | .istore_n i, 1 => ai_ns1 ai_tI M.2.2.1 (i : Nat) (pc + 1) lo sk en kn sb
  | .istore i, 2 => ai_ns1 ai_tI M.2.2.1 i (pc + 2) lo sk en kn sb
  | .astore_n i, 1 => ai_ns1 ai_tA M.2.2.1 (i : Nat) (pc + 1) lo sk en kn sb
  | .astore i, 2 => ai_ns1 ai_tA M.2.2.1 i (pc + 2) lo sk en kn sb
  | .lstore_n i, 1 => ai_ns2 M.2.2.1 (i : Nat) (pc + 1) lo sk en kn sb
  | .lstore i, 2 => ai_ns2 M.2.2.1 i (pc + 2) lo sk en kn sb
  | .iinc i n, 3 => (ai_get lo i).bind fun v => if ai_ir n n = true ∧ i < M.2.2.1 then (ai_add en sb v (1, 0, 0, n)).map fun q => [(pc + 3, ai_st1 lo i q.2.2, sk, q.1, kn, q.2.1)] else none
  | .iadd, 1 => ai_n2 ai_add (pc + 1) lo sk en kn sb
  | .isub, 1 => ai_n2 ai_sub (pc + 1) lo sk en kn sb
  | .imul, 1 => ai_n2 ai_mulF (pc + 1) lo sk en kn sb
  | .iand, 1 => ai_n2 ai_andF (pc + 1) lo sk en kn sb
  | .idiv, 1 => ai_n2 ai_div (pc + 1) lo sk en kn sb
  | .irem, 1 => ai_n2 ai_rem (pc + 1) lo sk en kn sb
  | .ior, 1 => ai_n2 ai_orF (pc + 1) lo sk en kn sb
  | .ishl, 1 => ai_n2 ai_shlF (pc + 1) lo sk en kn sb
  | .ishr, 1 => ai_n2 ai_shrF (pc + 1) lo sk en kn sb
  | .iushr, 1 => ai_n2 ai_top (pc + 1) lo sk en kn sb
  | .ladd, 1 => ai_nlad (pc + 1) lo sk en kn sb
  | .lmul, 1 => ai_n2l ai_lmul (pc + 1) lo sk en kn sb
  | .ldiv, 1 => ai_n2l (ai_ltop true) (pc + 1) lo sk en kn sb
  | .lrem, 1 => ai_n2l (ai_ltop true) (pc + 1) lo sk en kn sb
  | .i2l, 1 => match sk with
    | x :: k => if x.1 = 1 then some [(pc + 1, lo, (2, x.2.1, 0, x.2.2.2) :: k, en, kn, sb)] else none
    | _ => none
  | .dup, 1 => match sk with
    | x :: k => if ¬ x.1 = 2 then some [(pc + 1, lo, x :: x :: k, en, kn, sb)] else none
    | _ => none
  | .pop, 1 => match sk with
    | x :: k => if ¬ x.1 = 2 then some [(pc + 1, lo, k, en, kn, sb)] else none
    | _ => none
  | .pop2, 1 => match sk with
    | x :: k => if x.1 = 2 then some [(pc + 1, lo, k, en, kn, sb)] else none
    | _ => none
  | .i2b, 1 => match sk with
    | x :: k => (ai_i en x).map fun _ => [(pc + 1, lo, (1, en.length, 0, 0) :: k, ai_nu en (-2147483648) 2147483647, kn, sb)]
    | _ => none
  | .i2s, 1 => match sk with
    | x :: k => (ai_i en x).map fun _ => [(pc + 1, lo, (1, en.length, 0, 0) :: k, ai_nu en (-2147483648) 2147483647, kn, sb)]
    | _ => none
  | .lcmp, 1 => match sk with
    | y :: x :: k => if x.1 = 2 ∧ y.1 = 2 then some [(pc + 1, lo, (3, x.2.1, y.2.1, y.2.2.2 - x.2.2.2) :: k, en, kn, sb)] else none
    | _ => none
  | .dup2, 1 => match sk with
    | y :: x :: k => if ¬ x.1 = 2 ∧ ¬ y.1 = 2 then some [(pc + 1, lo, y :: x :: y :: x :: k, en, kn, sb)] else none
    | _ => none
  | .ifCond .eq off, 3 => ai_nb1 0 off pc lo sk en kn sb
  | .if_icmp .eq off, 3 => ai_nb2 0 off pc lo sk en kn sb
  | .ifCond .ne off, 3 => ai_nb1 1 off pc lo sk en kn sb
  | .if_icmp .ne off, 3 => ai_nb2 1 off pc lo sk en kn sb
  | .ifCond .lt off, 3 => ai_nb1 2 off pc lo sk en kn sb
  | .if_icmp .lt off, 3 => ai_nb2 2 off pc lo sk en kn sb
  | .ifCond .ge off, 3 => ai_nb1 3 off pc lo sk en kn sb
  | .if_icmp .ge off, 3 => ai_nb2 3 off pc lo sk en kn sb
  | .ifCond .gt off, 3 => ai_nb1 4 off pc lo sk en kn sb
  | .if_icmp .gt off, 3 => ai_nb2 4 off pc lo sk en kn sb
  | .ifCond .le off, 3 => ai_nb1 5 off pc lo sk en kn sb
  | .if_icmp .le off, 3 => ai_nb2 5 off pc lo sk en kn sb
  | .goto off, 3 => (ai_tg pc off).map fun t => [(t, lo, sk, en, kn, sb)]
  | .lookupswitch dflt ps, _ => ai_nlk dflt ps.toList pc lo sk en kn sb
  | .tableswitch dflt l1 h1 offs, _ => match sk with
    | x :: k => if x.1 = 1 ∧ (h1 - l1 + 1).toNat = offs.toList.length ∧ 0 ≤ (pc : Int) + dflt ∧ (offs.toList.all fun o => decide (0 ≤ (pc : Int) + o)) = true then
        some (ai_sw en x.2.1 x.2.2.2 pc lo k kn sb 2 l1 dflt ++ (ai_sw en x.2.1 x.2.2.2 pc lo k kn sb 4 h1 dflt ++ (List.range offs.toList.length).flatMap fun j => (offs.toList[j]?).toList.flatMap fun off => ai_sw en x.2.1 x.2.2.2 pc lo k kn sb 0 (l1 + (j : Nat)) off)) else none
    | _ => none
  | .getfield i, 3 => match sk with
    | x :: k => (M.2.2.2.2.2.2.1.find? fun q => Nat.beq q.1 i).bind fun q => if x.1 = 0 then (ai_rd TY en kn q.2.1 x.2.1 q.2.2).map fun w => [(pc + 3, lo, w.2.2 :: k, w.1, w.2.1, sb)] else none
    | _ => none
  | .putfield i, 3 => match sk with
    | v :: x :: k => (M.2.2.2.2.2.2.2.1.find? fun q => Nat.beq q.1 i).bind fun q => if x.1 = 0 ∧ ((TY[x.2.1]?).bind fun t => t.2.2[q.2.2.1]?).map (fun f => f.1) = some q.2.2.2 then (ai_wf TY WR en kn q.2.1 x.2.1 q.2.2.1 v).map fun w => [(pc + 3, lo, k, en, w, sb)] else none
    | _ => none
  | .iaload, 1 => match sk with
    | y :: x :: k => if x.1 = 0 then (ai_ra TY en kn 1 x.2.1 y).map fun w => [(pc + 1, lo, w.2.2 :: k, w.1, w.2.1, ai_gt WR x.2.1 y w.2.2 sb)]
        else if x.1 = 4 ∧ M.2.2.2.2.1 = true ∧ y.1 = 1 ∧ y.2.1 = 1 ∧ 0 ≤ y.2.2.2 ∧ y.2.2.2 ≤ 4 then some [(pc + 1, lo, (1, 3 + y.2.2.2.toNat, 0, 0) :: k, en, kn, sb)] else none
    | _ => none
  | .baload, 1 => match sk with
    | y :: x :: k => if x.1 = 0 then (ai_ra TY en kn 2 x.2.1 y).map fun w => [(pc + 1, lo, w.2.2 :: k, w.1, w.2.1, ai_gt WR x.2.1 y w.2.2 sb)] else none
    | _ => none
  | .iastore, 1 => match sk with
    | v :: y :: x :: k => if x.1 = 0 then (ai_wa TY WR en kn 1 x.2.1 y v).map fun w => [(pc + 1, lo, k, en, w, sb)] else none
    | _ => none
  | .bastore, 1 => match sk with
    | v :: y :: x :: k => if x.1 = 0 then (ai_wa TY WR en kn 2 x.2.1 y v).map fun w => [(pc + 1, lo, k, en, w, sb)] else none
    | _ => none
  | .laload, 1 => match sk with
    | y :: x :: k => if x.1 = 0 ∧ ai_il TY en x.2.1 y = true then some [(pc + 1, lo, (2, en.length, 0, 0) :: k, ai_nu en (-9223372036854775808) 9223372036854775807, kn, sb)] else none
    | _ => none
  | .lastore, 1 => match sk with
    | v :: y :: x :: k => if x.1 = 0 ∧ v.1 = 2 ∧ ai_il TY en x.2.1 y = true ∧ ai_lw WR en x.2.1 y = true then some [(pc + 1, lo, k, en, kn.filter (fun q => !Nat.beq q.1 x.2.1), sb)] else none
    | _ => none
  | .aaload, 1 => match sk with
    | y :: x :: k => (TY[x.2.1]?).bind fun t => (ai_i en y).bind fun w => if x.1 = 0 ∧ t.1 = 4 ∧ 0 ≤ w.1 ∧ w.2 < t.2.1 ∧ t.2.1 = t.2.2.length then some ((ai_aa t en y w.1.toNat (w.2.toNat - w.1.toNat)).map fun q => (pc + 1, lo, q.2 :: k, q.1, kn, sb)) else none
    | _ => none
  | .arraylength, 1 => match sk with
    | x :: k => (TY[x.2.1]?).bind fun t => if x.1 = 0 ∧ (t.1 = 1 ∨ t.1 = 2 ∨ t.1 = 3) ∧ t.2.1 < 2147483648 then some [(pc + 1, lo, (1, 0, 0, (t.2.1 : Int)) :: k, en, kn, sb)] else none
    | _ => none
  | _, _ => none
section AIX
variable {TY : List ai_c} {WR : List (Nat × Nat × Nat)} {w0 : va_W} {ad : List Nat} {M : ai_m} {d : Nat} {p : Program} {l : Launch} {e : Env} {R : Room} {s : State} {m : MethodId} {args : Array Value} {below : List Frame} {meth : Method} {c : Code} {D : va_G} {tys : ai_ty} {A : Nat → Prop} {b L : Nat} {sx : Nat → Int32} {cells slots : Nat} {Q : State → Prop} {r0 : List Int} {pc pc' : Nat} {lo : List (Nat × ai_v)} {sk : List ai_v} {en en' : List ai_e} {kn kn' : List ai_k} {sb sb' : List ai_b} {x y v : ai_v} {ss : List ai_s}
set_option maxHeartbeats 4000000 in
theorem ai_nx_ok (C : ai_cx M d p R s m args c D tys A b L sx cells slots) (hM : ai_mok M) {ins : Instr} {len : Nat} (hn : 1 < en.length) (hz : ai_z en = true) (hd : decode M.2.1 pc = .ok (ins, len)) (hq : ai_nx TY WR M ins len pc lo sk en kn sb = some ss) (k : ∀ st ∈ ss, ai_G TY WR w0 ad M p l e R s m args below meth c D tys A b L sx cells slots Q r0 st) : ai_G TY WR w0 ad M p l e R s m args below meth c D tys A b L sx cells slots Q r0 (pc, lo, sk, en, kn, sb) := by
  unfold ai_nx at hq
  split at hq
  · split at hq
    · rename_i hr
      cases hq
      exact ai_Jc (ai_ofI hr) hz (fun H locs ls rest k => lv_iconst C.1 C.2.1 hd rfl k) (k _ (List.mem_singleton.mpr rfl))
    · cases hq
  · split at hq
    · rename_i hr
      cases hq
      exact ai_Jc (ai_ofI8 hr) hz (fun H locs ls rest k => lv_bipush C.1 C.2.1 hd rfl k) (k _ (List.mem_singleton.mpr rfl))
    · cases hq
  · split at hq
    · rename_i hr
      cases hq
      exact ai_Jc (ai_ofI16 hr) hz (fun H locs ls rest k => lv_sipush C.1 C.2.1 hd rfl k) (k _ (List.mem_singleton.mpr rfl))
    · cases hq
  · cases hq
    exact ai_Jcl (ai_ofL _) hz (fun H locs ls rest k => lv_lconst C.1 C.2.1 hd rfl k) (k _ (List.mem_singleton.mpr rfl))
  · obtain ⟨q, h1, rfl⟩ := Option.map_eq_some_iff.mp hq
    have h2 := List.find?_some h1
    have h2 := ai_beq.mp h2
    obtain ⟨h3, h4⟩ := hM.2.2.2.1 q (List.mem_of_find?_eq_some h1)
    rw [h2] at h3
    exact ai_Jc (ai_ofI h4) hz (fun H locs ls rest k => lv_ldc C.1 C.2.1 C.2.2.2.1 (C.2.2.2.2.1 _ h3) hd k) (k _ (List.mem_singleton.mpr rfl))
  · obtain ⟨q, h1, rfl⟩ := Option.map_eq_some_iff.mp hq
    have h2 := List.find?_some h1
    have h2 := ai_beq.mp h2
    obtain ⟨h3, h4⟩ := hM.2.2.2.1 q (List.mem_of_find?_eq_some h1)
    rw [h2] at h3
    exact ai_Jc (ai_ofI h4) hz (fun H locs ls rest k => lv_ldcw C.1 C.2.1 C.2.2.2.1 (C.2.2.2.2.1 _ h3) hd k) (k _ (List.mem_singleton.mpr rfl))
  · obtain ⟨q, h1, rfl⟩ := Option.map_eq_some_iff.mp hq
    have h2 := List.find?_some h1
    have h2 := ai_beq.mp h2
    obtain ⟨h3, h4⟩ := hM.2.2.2.2 q (List.mem_of_find?_eq_some h1)
    rw [h2] at h3
    exact ai_Jcl h4 hz (fun H locs ls rest k => lv_ldc2 C.1 C.2.1 C.2.2.2.1 (C.2.2.2.2.1 _ h3) hd k) (k _ (List.mem_singleton.mpr rfl))
  · exact ai_nldI hq (fun H locs ls rest w h k => lv_iload_n C.1 C.2.1 hd rfl h k) k
  · exact ai_nldI hq (fun H locs ls rest w h k => lv_iload C.1 C.2.1 hd h k) k
  · exact ai_nldL hq (fun H locs ls rest w h k => lv_lload_n C.1 C.2.1 hd rfl h k) k
  · exact ai_nldL hq (fun H locs ls rest w h k => lv_lload C.1 C.2.1 hd h k) k
  · exact ai_nldA hq (fun H locs ls rest w h k => lv_aload_n C.1 C.2.1 hd rfl h k) k
  · exact ai_nldA hq (fun H locs ls rest w h k => lv_aload C.1 C.2.1 hd h k) k
  · exact ai_ns1I hq (fun H locs ls lv rest w h1 h2 k => lv_istore_n C.1 C.2.1 hd rfl h1 h2 rfl k) k
  · exact ai_ns1I hq (fun H locs ls lv rest w h1 h2 k => lv_istore C.1 C.2.1 hd h1 h2 rfl k) k
  · exact ai_ns1A hq (fun H locs ls lv rest w h1 h2 k => lv_astore_n C.1 C.2.1 hd rfl h1 h2 rfl k) k
  · exact ai_ns1A hq (fun H locs ls lv rest w h1 h2 k => lv_astore C.1 C.2.1 hd h1 h2 rfl k) k
  · exact ai_ns2L hq (fun H locs ls lv rest w h1 h2 k => lv_lstore_n C.1 C.2.1 hd rfl h1 h2 rfl k) k
  · exact ai_ns2L hq (fun H locs ls lv rest w h1 h2 k => lv_lstore C.1 C.2.1 hd h1 h2 rfl k) k
  · obtain ⟨v, h1, hq⟩ := Option.bind_eq_some_iff.mp hq
    split at hq
    · rename_i hc
      obtain ⟨q, h2, rfl⟩ := Option.map_eq_some_iff.mp hq
      exact ai_Jinc C h1 hz hn hc.1 hc.2 h2 hd (k _ (List.mem_singleton.mpr rfl))
    · cases hq
  · exact ai_n2_ok ai_add_ok hn hq (fun H locs ls rest i j _ _ k => lv_iadd C.1 C.2.1 hd k) k
  · exact ai_n2_ok ai_sub_ok hn hq (fun H locs ls rest i j _ _ k => lv_isub C.1 C.2.1 hd k) k
  · exact ai_n2_ok ai_mulF_ok hn hq (fun H locs ls rest i j _ _ k => lv_imul C.1 C.2.1 hd k) k
  · exact ai_n2_ok ai_andF_ok hn hq (fun H locs ls rest i j _ _ k => lv_iand C.1 C.2.1 hd k) k
  · exact ai_n2_ok ai_div_ok hn hq (fun H locs ls rest i j _ h k => lv_idiv C.1 C.2.1 hd h k) k
  · exact ai_n2_ok ai_rem_ok hn hq (fun H locs ls rest i j _ h k => lv_irem C.1 C.2.1 hd h k) k
  · exact ai_n2_ok ai_orF_ok hn hq (fun H locs ls rest i j _ _ k => lv_ior C.1 C.2.1 hd k) k
  · exact ai_n2_ok ai_shlF_ok hn hq (fun H locs ls rest i j _ _ k => lv_ishl C.1 C.2.1 hd k) k
  · exact ai_n2_ok ai_shrF_ok hn hq (fun H locs ls rest i j _ _ k => lv_ishr C.1 C.2.1 hd k) k
  · exact ai_n2_ok (ai_top_ok (fun x y => (x.toUInt32 >>> (y.toUInt32 &&& Int32.toUInt32 31)).toInt32)) hn hq (fun H locs ls rest i j _ _ k => lv_iushr C.1 C.2.1 hd rfl k) k
  · exact ai_nlad_ok C hn hd hq k
  · exact ai_n2l_ok ai_lmul_ok hn hq (fun H locs ls rest i j _ k => lv_lmul C.1 C.2.1 hd k) k
  · exact ai_n2l_ok (ai_ltop_ok true _) hn hq (fun H locs ls rest i j h k => lv_ldiv C.1 C.2.1 hd (h rfl) k) k
  · exact ai_n2l_ok (ai_ltop_ok true _) hn hq (fun H locs ls rest i j h k => lv_lrem C.1 C.2.1 hd (h rfl) k) k
  · split at hq
    · split at hq
      · rename_i hc
        cases hq
        exact ai_Ji2l C hc hd (k _ (List.mem_singleton.mpr rfl))
      · cases hq
    · cases hq
  · split at hq
    · split at hq
      · rename_i hc
        cases hq
        exact ai_Jdup C hc hd (k _ (List.mem_singleton.mpr rfl))
      · cases hq
    · cases hq
  · split at hq
    · split at hq
      · rename_i hc
        cases hq
        exact ai_Jpop C hc hd (k _ (List.mem_singleton.mpr rfl))
      · cases hq
    · cases hq
  · split at hq
    · split at hq
      · rename_i hc
        cases hq
        exact ai_Jpop2 C hc hd (k _ (List.mem_singleton.mpr rfl))
      · cases hq
    · cases hq
  · split at hq
    · obtain ⟨w, h1, rfl⟩ := Option.map_eq_some_iff.mp hq
      exact ai_Ju (f := fun x => x.toInt8.toInt32) hn h1 (fun H locs ls rest i k => lv_i2b C.1 C.2.1 hd rfl k) (k _ (List.mem_singleton.mpr rfl))
    · cases hq
  · split at hq
    · obtain ⟨w, h1, rfl⟩ := Option.map_eq_some_iff.mp hq
      exact ai_Ju (f := fun x => x.toInt16.toInt32) hn h1 (fun H locs ls rest i k => lv_i2s C.1 C.2.1 hd rfl k) (k _ (List.mem_singleton.mpr rfl))
    · cases hq
  · split at hq
    · split at hq
      · rename_i hc
        cases hq
        exact ai_Jlcmp C hc.1 hc.2 hd (k _ (List.mem_singleton.mpr rfl))
      · cases hq
    · cases hq
  · split at hq
    · split at hq
      · rename_i hc
        cases hq
        exact ai_Jdup2 C hc.1 hc.2 hd (k _ (List.mem_singleton.mpr rfl))
      · cases hq
    · cases hq
  · exact ai_nb1_ok (op := 0) (fun i => i = 0) (fun i za zb h1 h2 => (ai_P1 i za zb h1 h2).1) hq (fun H locs ls rest i tgt ht a b => lv_if_eq C.1 C.2.1 hd ht a b) k
  · exact ai_nb2_ok (op := 0) (fun i j => i = j) (fun i j za zb h1 h2 => (ai_P2' i j za zb h1 h2).1) hq (fun H locs ls rest i j tgt ht a b => lv_icmp_eq C.1 C.2.1 hd ht a b) k
  · exact ai_nb1_ok (op := 1) (fun i => ¬ i = 0) (fun i za zb h1 h2 => ⟨(ai_P1 i za zb h1 h2).1.2, fun q => (ai_P1 i za zb h1 h2).1.1 (Decidable.not_not.mp q)⟩) hq (fun H locs ls rest i tgt ht a b => lv_if_ne C.1 C.2.1 hd ht a (fun q => b (fun q2 => q2 q))) k
  · exact ai_nb2_ok (op := 1) (fun i j => ¬ i = j) (fun i j za zb h1 h2 => ⟨(ai_P2' i j za zb h1 h2).1.2, fun q => (ai_P2' i j za zb h1 h2).1.1 (Decidable.not_not.mp q)⟩) hq (fun H locs ls rest i j tgt ht a b => lv_icmp_ne C.1 C.2.1 hd ht a (fun q => b (fun q2 => q2 q))) k
  · exact ai_nb1_ok (op := 2) (fun i => i < 0) (fun i za zb h1 h2 => (ai_P1 i za zb h1 h2).2.1) hq (fun H locs ls rest i tgt ht a b => lv_if_lt C.1 C.2.1 hd ht a b) k
  · exact ai_nb2_ok (op := 2) (fun i j => i < j) (fun i j za zb h1 h2 => (ai_P2' i j za zb h1 h2).2.1) hq (fun H locs ls rest i j tgt ht a b => lv_icmp_lt C.1 C.2.1 hd ht a b) k
  · exact ai_nb1_ok (op := 3) (fun i => 0 ≤ i) (fun i za zb h1 h2 => (ai_P1 i za zb h1 h2).2.2.2.1) hq (fun H locs ls rest i tgt ht a b => lv_if_ge C.1 C.2.1 hd ht a b) k
  · exact ai_nb2_ok (op := 3) (fun i j => j ≤ i) (fun i j za zb h1 h2 => (ai_P2' i j za zb h1 h2).2.2.2.1) hq (fun H locs ls rest i j tgt ht a b => lv_icmp_ge C.1 C.2.1 hd ht a b) k
  · exact ai_nb1_ok (op := 4) (fun i => 0 < i) (fun i za zb h1 h2 => (ai_P1 i za zb h1 h2).2.2.1) hq (fun H locs ls rest i tgt ht a b => lv_if_gt C.1 C.2.1 hd ht a b) k
  · exact ai_nb2_ok (op := 4) (fun i j => j < i) (fun i j za zb h1 h2 => (ai_P2' i j za zb h1 h2).2.2.1) hq (fun H locs ls rest i j tgt ht a b => lv_icmp_gt C.1 C.2.1 hd ht a b) k
  · exact ai_nb1_ok (op := 5) (fun i => i ≤ 0) (fun i za zb h1 h2 => (ai_P1 i za zb h1 h2).2.2.2.2) hq (fun H locs ls rest i tgt ht a b => lv_if_le C.1 C.2.1 hd ht a b) k
  · exact ai_nb2_ok (op := 5) (fun i j => i ≤ j) (fun i j za zb h1 h2 => (ai_P2' i j za zb h1 h2).2.2.2.2) hq (fun H locs ls rest i j tgt ht a b => lv_icmp_le C.1 C.2.1 hd ht a b) k
  · obtain ⟨t, h1, rfl⟩ := Option.map_eq_some_iff.mp hq
    exact ai_Jgoto C (ai_tg_ok h1) hd (k _ (List.mem_singleton.mpr rfl))
  · exact ai_nlk_ok C hz hd hq k
  · split at hq
    · split at hq
      · rename_i hc
        obtain ⟨c1, c2, c3, c4⟩ := hc
        cases hq
        refine ai_Jtab C hz c1 hd c2 ⟨c3, fun o ho => by simpa using List.all_eq_true.mp c4 o ho⟩ (fun j off hj st hs => k st (List.mem_append_right _ (List.mem_append_right _ (List.mem_flatMap.mpr ⟨j, List.mem_range.mpr (List.getElem?_eq_some_iff.mp hj).1, by rw [hj]; exact List.mem_flatMap.mpr ⟨off, List.mem_singleton.mpr rfl, hs⟩⟩)))) (fun st hs => k st (List.mem_append_left _ hs)) (fun st hs => k st (List.mem_append_right _ (List.mem_append_left _ hs)))
      · cases hq
    · cases hq
  · split at hq
    · obtain ⟨q, h1, hq⟩ := Option.bind_eq_some_iff.mp hq
      have h2 := List.find?_some h1
      have h2 := ai_beq.mp h2
      have h3 := hM.2.1 q (List.mem_of_find?_eq_some h1)
      rw [h2] at h3
      split at hq
      · rename_i hc
        obtain ⟨w, h4, rfl⟩ := Option.map_eq_some_iff.mp hq
        exact ai_Jget C hn hc h4 h3 hd (k _ (List.mem_singleton.mpr rfl))
      · cases hq
    · cases hq
  · split at hq
    · obtain ⟨q, h1, hq⟩ := Option.bind_eq_some_iff.mp hq
      have h2 := List.find?_some h1
      have h2 := ai_beq.mp h2
      have h3 := hM.2.2.1 q (List.mem_of_find?_eq_some h1)
      rw [h2] at h3
      split at hq
      · rename_i hc
        obtain ⟨w, h4, rfl⟩ := Option.map_eq_some_iff.mp hq
        exact ai_Jput C hc.1 h4 (fun kd hkd => by rw [hc.2] at hkd; cases hkd; exact h3) hd (k _ (List.mem_singleton.mpr rfl))
      · cases hq
    · cases hq
  · split at hq
    · split at hq
      · rename_i hc
        obtain ⟨w, h4, rfl⟩ := Option.map_eq_some_iff.mp hq
        exact ai_Jald C (tg := 1) (Or.inl rfl) hn hc h4 hd (k _ (List.mem_singleton.mpr rfl))
      · split at hq
        · rename_i hc
          cases hq
          exact ai_Jscr C hc.2.1 hc.1 hc.2.2 hd (k _ (List.mem_singleton.mpr rfl))
        · cases hq
    · cases hq
  · split at hq
    · split at hq
      · rename_i hc
        obtain ⟨w, h4, rfl⟩ := Option.map_eq_some_iff.mp hq
        exact ai_Jald C (tg := 2) (Or.inr rfl) hn hc h4 hd (k _ (List.mem_singleton.mpr rfl))
      · cases hq
    · cases hq
  · split at hq
    · split at hq
      · rename_i hc
        obtain ⟨w, h4, rfl⟩ := Option.map_eq_some_iff.mp hq
        exact ai_Jast C (tg := 1) (Or.inl rfl) hc h4 hd (k _ (List.mem_singleton.mpr rfl))
      · cases hq
    · cases hq
  · split at hq
    · split at hq
      · rename_i hc
        obtain ⟨w, h4, rfl⟩ := Option.map_eq_some_iff.mp hq
        exact ai_Jast C (tg := 2) (Or.inr rfl) hc h4 hd (k _ (List.mem_singleton.mpr rfl))
      · cases hq
    · cases hq
  · split at hq
    · split at hq
      · rename_i hc
        cases hq
        exact ai_Jlald C hn hc.1 hc.2 hd (k _ (List.mem_singleton.mpr rfl))
      · cases hq
    · cases hq
  · split at hq
    · split at hq
      · rename_i hc
        cases hq
        exact ai_Jlast C hc.1 hc.2.1 hc.2.2.1 hc.2.2.2 hd (k _ (List.mem_singleton.mpr rfl))
      · cases hq
    · cases hq
  · split at hq
    · obtain ⟨t, h1, hq⟩ := Option.bind_eq_some_iff.mp hq
      obtain ⟨w, h2, hq⟩ := Option.bind_eq_some_iff.mp hq
      split at hq
      · rename_i hc
        cases hq
        exact ai_Jaald C hc.1 h1 hc.2.1 h2 hc.2.2 hd (fun q hq => k _ (List.mem_map.mpr ⟨q, hq, rfl⟩))
      · cases hq
    · cases hq
  · split at hq
    · obtain ⟨t, h1, hq⟩ := Option.bind_eq_some_iff.mp hq
      split at hq
      · rename_i hc
        cases hq
        exact ai_Jlen C hz hc.1 h1 hc.2.1 hc.2.2 hd (k _ (List.mem_singleton.mpr rfl))
      · cases hq
    · cases hq
  · cases hq
end AIX
end
section
/-! calls: a method's walk gives its contract -/
def ai_args : Nat → List ai_v → List (Nat × ai_v)
  | _, [] => []
  | i, v :: vs => (i, v) :: ai_args (if v.1 = 2 then i + 2 else i + 1) vs
def ai_wd1 (v : ai_v) : Nat := if v.1 = 2 then 2 else 1
theorem ai_args_ok {ad : List Nat} {b : Nat} {r : List Int} : ∀ {vs : List ai_v} {ys : List Value} (i : Nat), ai_sk ad b r vs ys → ai_lo ad b r (ai_args i vs) (lv_args i ys)
  | [], [], _, _ => trivial
  | [], _ :: _, _, h => h.elim
  | _ :: _, [], _, h => h.elim
  | v :: vs, y :: ys, i, h => by
    refine ⟨rfl, h.1, ?_⟩
    have e : (if y.category = 2 then i + 2 else i + 1) = if v.1 = 2 then i + 2 else i + 1 := by
      rw [h.1.cat]
      by_cases hv : v.1 = 2
      · rw [if_pos hv, if_pos hv, if_pos rfl]
      · rw [if_neg hv, if_neg hv, if_neg (by decide)]
    rw [e]
    exact ai_args_ok _ h.2
theorem ai_words {ad : List Nat} {b : Nat} {r : List Int} : ∀ {vs : List ai_v} {ys : List Value}, ai_sk ad b r vs ys → (lg_sl ys).length = (vs.map ai_wd1).sum
  | [], [], _ => rfl
  | [], _ :: _, h => h.elim
  | _ :: _, [], h => h.elim
  | v :: vs, y :: ys, h => by
    have ih := ai_words h.2
    unfold lg_sl at ih ⊢
    rw [List.flatMap_cons, List.length_append, ih, List.map_cons, List.sum_cons, h.1.cat]
    unfold ai_wd1
    by_cases hv : v.1 = 2
    · rw [if_pos hv, if_pos rfl]; rfl
    · rw [if_neg hv, if_neg (by decide)]; rfl
theorem ai_sk.app {ad : List Nat} {b : Nat} {r : List Int} : ∀ {vs us : List ai_v} {zs : List Value}, ai_sk ad b r (vs ++ us) zs → ∃ xs ys, zs = xs ++ ys ∧ ai_sk ad b r vs xs ∧ ai_sk ad b r us ys
  | [], _, zs, h => ⟨[], zs, rfl, trivial, h⟩
  | v :: vs, us, [], h => h.elim
  | v :: vs, us, z :: zs, h => by
    obtain ⟨xs, ys, rfl, h1, h2⟩ := ai_sk.app (vs := vs) h.2
    exact ⟨z :: xs, ys, rfl, ⟨h.1, h1⟩, h2⟩
theorem ai_sk.join {ad : List Nat} {b : Nat} {r : List Int} : ∀ {vs us : List ai_v} {xs ys : List Value}, ai_sk ad b r vs xs → ai_sk ad b r us ys → ai_sk ad b r (vs ++ us) (xs ++ ys)
  | [], _, [], _, _, h => h
  | [], _, _ :: _, _, h, _ => h.elim
  | _ :: _, _, [], _, h, _ => h.elim
  | _ :: _, _, _ :: _, _, h, k => ⟨h.1, ai_sk.join h.2 k⟩
theorem ai_sk.rev {ad : List Nat} {b : Nat} {r : List Int} : ∀ {vs : List ai_v} {xs : List Value}, ai_sk ad b r vs xs → ai_sk ad b r vs.reverse xs.reverse
  | [], [], _ => trivial
  | [], _ :: _, h => h.elim
  | _ :: _, [], h => h.elim
  | v :: vs, x :: xs, h => by
    rw [List.reverse_cons, List.reverse_cons]
    exact (ai_sk.rev h.2).join ⟨h.1, trivial⟩
theorem ai_sk.len {ad : List Nat} {b : Nat} {r : List Int} : ∀ {vs : List ai_v} {xs : List Value}, ai_sk ad b r vs xs → xs.length = vs.length
  | [], [], _ => rfl
  | [], _ :: _, h => h.elim
  | _ :: _, [], h => h.elim
  | v :: vs, x :: xs, h => by rw [List.length_cons, List.length_cons, ai_sk.len h.2]
def ai_rm (d : Nat) : Room := { frames := d, cells := 0, slots := 0, locals := 36 * d }
def ai_ws (M : ai_m) : List Cond := Cond.code M.1 M.2.1 M.2.2.1 M.2.2.2.1 :: ai_GT
/-- a walk's end at an instruction that returns -/
def ai_rt (M : ai_m) (x : ai_s) : Bool := match (M.2.2.2.2.2.1.find? fun q => Nat.beq q.1 x.1) with
  | some (_, ins, len) => (match ins, len, M.2.2.2.1, x.2.2.1 with
    | .return_, 1, none, [] => true
    | .ireturn, 1, some .int, [v] => ai_tI v.1
    | .ireturn, 1, some .boolean, [v] => (ai_i x.2.2.2.1 v).any fun p => decide (0 ≤ p.1) && decide (p.2 ≤ 1)
    | .lreturn, 1, some .long, [v] => ai_tL v.1
    | .areturn, 1, some (.object _), [v] => ai_tA v.1
    | _, _, _, _ => false)
  | none => false
def ai_Qc (TY : List ai_c) (WR : List (Nat × Nat × Nat)) (w0 : va_W) (ad : List Nat) (b L : Nat) (sx : Nat → Int32) (tys : ai_ty) (D : va_G) (A : Nat → Prop) (r : List Int) (xs : List ai_s) : Array Value → State → Outcome → State → Prop := fun _ st oc t =>
  (∃ x ∈ xs, ∃ (r' : List Int) (lv : List (Nat × Value)) (sk : List Value) (ws : va_W), ai_x r r' ∧ ai_gm TY WR w0 ad b L sx tys false r' x lv sk ws ∧ va_P D vwCl ws t.heap ∧ va_D A ws ∧ oc = .returned sk.head?) ∧ va_F A st t
abbrev ai_R : Type := Nat → ai_m → Nat → List Nat → ai_s → Option (List ai_s)
def ai_SR (TY : List ai_c) (WR : List (Nat × Nat × Nat)) (MT : List ai_m) (rec : ai_R) : Prop := ∀ (mid d : Nat) (cu : List Nat) (st : ai_s) (xs : List ai_s) (M : ai_m), rec mid M d cu st = some xs → MT[mid]? = some M →
  ∀ {w0 : va_W} {ad : List Nat} {p : Program} {l : Launch} {e : Env} {R : Room} {s : State} {m : MethodId} {args : Array Value} {below : List Frame} {meth : Method} {c : Code} {D : va_G} {tys : ai_ty} {A : Nat → Prop} {b L : Nat} {sx : Nat → Int32} {cells slots : Nat} {Q : State → Prop} {r0 : List Int},
    ai_cx M d p R s m args c D tys A b L sx cells slots → (∀ x ∈ xs, ai_G TY WR w0 ad M p l e R s m args below meth c D tys A b L sx cells slots Q r0 x) → ai_G TY WR w0 ad M p l e R s m args below meth c D tys A b L sx cells slots Q r0 st
theorem ai_NW_on : ∀ w ∈ ai_NW, ∃ a i y h, w = Cond.methodLinkNest a i y h := by
  intro w hw
  have h := (List.mem_filter.mp hw).2
  split at h
  · exact ⟨_, _, _, _, rfl⟩
  · cases h
theorem ai_goodGT : ∀ w ∈ ai_GT, goodWord w = true := fun w h => (List.mem_filter.mp h).2
theorem ai_goodIn {M : ai_m} (h : Cond.code M.1 M.2.1 M.2.2.1 M.2.2.2.1 ∈ ai_GT) : GoodIn ai_GT (ai_ws M) := fun w hw => by
  rcases List.mem_cons.mp hw with rfl | hw
  · exact ⟨h, good_of_word (ai_goodGT _ h)⟩
  · exact ⟨hw, good_of_word (ai_goodGT _ hw)⟩
section AIC
variable {TY : List ai_c} {WR : List (Nat × Nat × Nat)} {w0 : va_W} {ad : List Nat} {M : ai_m} {d : Nat} {p : Program} {l : Launch} {e : Env} {R : Room} {s : State} {m : MethodId} {args : Array Value} {below : List Frame} {meth : Method} {c : Code} {D : va_G} {tys : ai_ty} {A : Nat → Prop} {b L : Nat} {sx : Nat → Int32} {cells slots : Nat} {Q : State → Prop} {r0 : List Int} {pc pc' : Nat} {lo : List (Nat × ai_v)} {sk : List ai_v} {en en' : List ai_e} {kn kn' : List ai_k} {sb sb' : List ai_b} {x y v : ai_v} {ss : List ai_s}
theorem ai_ret {Qc : Array Value → State → Outcome → State → Prop} {z : ai_s} (C : ai_cx M d p R s m args c D tys A b L sx 0 0) (hM : ai_mok M) (hr : meth.sig.returnType = M.2.2.2.1) (hlocks : meth.locks = false) (hx : ai_rt M z = true)
    (hQ : ∀ (r : List Int) (lv : List (Nat × Value)) (sk : List Value) (ws : va_W) (t : State), ai_x r0 r → ai_gm TY WR w0 ad b L sx tys M.2.2.2.2.1 r z lv sk ws → va_P D vwCl ws t.heap → va_D A ws → va_F A s t → Qc args s (.returned sk.head?) t) :
    ai_G TY WR w0 ad M p l e R s m args below meth c D tys A b L sx 0 0 (MQ below Qc args s 0 0 A) r0 z := by
  intro r lv skc ws H locs ls hxx g hP hD hS hl
  have key : ∀ t : State, t.heap = H → Qc args s (.returned skc.head?) t := fun t ht => hQ r lv skc ws t hxx g (by rw [ht]; exact hP) hD (hS.F ht)
  obtain ⟨g1, g2, g3, g4, g5, g6, g7, g8⟩ := g
  unfold ai_rt at hx
  split at hx
  · rename_i pcq ins len hq
    have h2 := List.find?_some hq
    have h2 := ai_beq.mp h2
    have hd := hM.1 _ (List.mem_of_find?_eq_some hq)
    dsimp only at hd h2
    rw [h2] at hd
    split at hx
    · rename_i h3 h4
      rw [h4] at g4
      cases g4.nil
      exact W.vret C.1 C.2.1 (hr.trans h3) (fun t ht hW => key t ht) hS.2.2 hd hlocks
    · rename_i v h3 h4
      rw [h4] at g4
      obtain ⟨w, s1, hw, dw, k5⟩ := g4.cons
      have hs1 := k5.nil
      subst hs1
      subst hw
      obtain ⟨i, rfl⟩ := ai_isI dw hx
      exact W.iret C.1 C.2.1 (hr.trans h3) (fun t ht hW => key t ht) hS.2.2 hd hlocks
    · rename_i v h3 h4
      rw [h4] at g4
      obtain ⟨w, s1, hw, dw, k5⟩ := g4.cons
      have hs1 := k5.nil
      subst hs1
      subst hw
      obtain ⟨q, hq1, hq2⟩ : ∃ q, ai_i z.2.2.2.1 v = some q ∧ (decide (0 ≤ q.1) && decide (q.2 ≤ 1)) = true := by
        cases hi : ai_i z.2.2.2.1 v with
        | none =>
          rw [hi] at hx
          cases hx
        | some q =>
          rw [hi] at hx
          exact ⟨q, rfl, hx⟩
      simp only [Bool.and_eq_true, decide_eq_true_eq] at hq2
      obtain ⟨-, zz, i, -, rfl, -, i1, i2⟩ := ai_i_ok g1 dw hq1
      have hi : i = 0 ∨ i = 1 := by
        by_cases h0 : i.toInt = 0
        · exact Or.inl (Int32.toInt_inj.mp (by rw [h0]; rfl))
        · exact Or.inr (Int32.toInt_inj.mp (by show i.toInt = 1; omega))
      exact W.zret C.1 C.2.1 (hr.trans h3) (by rcases hi with rfl | rfl <;> rfl) (fun t ht hW => key t ht) hS.2.2 hd hlocks
    · rename_i v h3 h4
      rw [h4] at g4
      obtain ⟨w, s1, hw, dw, k5⟩ := g4.cons
      have hs1 := k5.nil
      subst hs1
      subst hw
      obtain ⟨i, rfl⟩ := ai_isL dw hx
      exact W.lret C.1 C.2.1 (hr.trans h3) (fun t ht hW => key t ht) hS.2.2 hd hlocks
    · rename_i n v h3 h4
      rw [h4] at g4
      obtain ⟨w, s1, hw, dw, k5⟩ := g4.cons
      have hs1 := k5.nil
      subst hs1
      subst hw
      obtain ⟨a, rfl⟩ := ai_isA dw hx
      exact W.aret C.1 C.2.1 (hr.trans h3) (Or.inl ⟨_, rfl⟩) (Or.inr ⟨a, rfl⟩) (fun t ht hW => key t ht) hS.2.2 hd hlocks
    · cases hx
  · cases hx
/-- the contract of a method out of a walk of it -/
theorem ai_met {MT : List ai_m} {rec : ai_R} (hS : ai_SR TY WR MT rec) (hMT : ∀ M ∈ MT, ai_mok M ∧ plainName M.1.cls = true) {mid d' : Nat} {M' : ai_m} {fa : List ai_v} {xs : List ai_s} (hM' : MT[mid]? = some M') (hsc : M'.2.2.2.2.1 = false)
    (hrec : rec mid M' d' [] (0, ai_args 0 fa, [], en, kn, sb) = some xs) (hrt : ∀ x ∈ xs, ai_rt M' x = true) (hw : (fa.map ai_wd1).sum ≤ M'.2.2.1) {ws : va_W} {H : Heap} {vals : List Value} {r : List Int} (g1 : ai_ok r en) (g2 : ai_sb w0 r sb) (g4 : ai_sk ad b r fa vals) (g5 : ai_wd TY ad tys ws) (g6 : ai_kn ad b r ws kn) (g7 : ai_fr WR w0 ws) (hP : va_P D vwCl ws H) (hD : va_D A ws) (hA : ∀ q, H.size ≤ q → A q) (l : Launch) :
    Met l M'.1 (ai_ws M') (ai_rm d') (va_Pc vals (fun U => U.heap = H ∧ va_K D vwCl tys U ∧ ai_nj A U)) (ai_Qc TY WR w0 ad b L sx tys D A r xs) 0 0 A := by
  obtain ⟨hok, hpl⟩ := hMT M' (List.mem_of_getElem? hM')
  refine Met.ofW (cc := M'.2.1) (maxL := M'.2.2.1) (ret := M'.2.2.2.1) hpl rfl ?_
  intro p e s m args below meth c s₁ B hml hv
  obtain ⟨rfl, hH, hK, hN⟩ := hv
  have hts := atoms_spec (ws := ai_ws M') B.pre
  have hown : s.vm.findClass M'.1.cls = some m.cls := findClass_of_methodNamed B.named
  have C : ai_cx M' d' p (headSpec (ai_ws M') (ai_rm d')).room s m vals.toArray c D tys A b L sx 0 0 :=
    ⟨B.exec, B.bytes, hml, hown, fun w h => hts w (List.mem_cons_of_mem _ h), hN, hK, fun q hq => hA q (by rw [← hH]; exact hq), ⟨Nat.le_refl _, Nat.le_refl _, Nat.zero_le _, Nat.zero_le _⟩, fun h => by rw [hsc] at h; cases h⟩
  have hl := lv_entry vals (n := M'.2.2.1) (by rw [ai_words g4]; exact hw)
  rw [lg_entry_eq]
  have G := hS mid d' [] _ xs M' hrec hM' (w0 := w0) (ad := ad) (l := l) (e := e) (below := below) (meth := meth) (Q := MQ below (ai_Qc TY WR w0 ad b L sx tys D A r xs) vals.toArray s 0 0 A) (r0 := r) C (fun x hx => ai_ret C hok B.returns B.notSynchronized (hrt x hx) (fun r' lv sk ws' t e1 e2 e3 e4 e5 => ⟨⟨x, hx, r', lv, sk, ws', e1, by rw [hsc] at e2; exact e2, e3, e4, rfl⟩, e5⟩))
  have hh : s.heap = H := hH
  exact G r (lv_args 0 vals) [] ws s.heap [] _ ai_x.rf ⟨g1, g2, ai_args_ok 0 g4, trivial, g5, g6, g7, fun h => by rw [hsc] at h; cases h⟩ (by rw [hh]; exact hP) hD va_S.rf hl
theorem ai_callW {Qa : State → Outcome → State → Prop} {free : Addr → Prop} {H : Heap} {locs : List Loc} {g : JFrame} {rest : List Value} (hr : va_Run p l e R s m args below meth c H locs cells slots 0 0 g rest Qa free)
    (kk : ∀ (v : Option Value) (st₀ t : State) (L : List Loc), st₀.heap = H → (∀ q ∈ L, free q.base) → Qa st₀ (.returned v) t → W p l e R s m args below meth c t.heap (locs ++ L) cells slots Q { g with pc := g.pc + 3, stack := v.toList ++ rest }) : W p l e R s m args below meth c H locs cells slots Q g := by
  intro T hT X
  obtain ⟨v, st₀, t, T', L, h0, X', hL, e1, -, hq, st⟩ := hr T hT X
  obtain ⟨t2, a1, b1⟩ := kk v st₀ t L h0 hL hq T' e1 X'
  exact ⟨t2, st t2 a1, b1⟩
theorem ai_SF {H0 H : Heap} {locs L : List Loc} {st t : State} (hS : va_S A H0 H locs) (h0 : st.heap = H) (hF : va_F A st t) (hL : ∀ q ∈ L, A q.base) : va_S A H0 t.heap (locs ++ L) := by
  obtain ⟨h1, h2, h3⟩ := hS
  obtain ⟨f1, f2⟩ := hF
  rw [h0] at f1 f2
  refine ⟨Nat.le_trans h1 f1, fun q hq hA => ?_, fun q hq => ?_⟩
  · rw [f2 q (Nat.lt_of_lt_of_le hq h1) hA]
    exact h2 q hq hA
  · rcases List.mem_append.mp hq with h | h
    · exact h3 q h
    · exact hL q h
/-- what comes back from a call goes on -/
def ai_bk (pc' : Nat) (lo : List (Nat × ai_v)) (k : List ai_v) (x : ai_s) : ai_s := (pc', lo, x.2.2.1 ++ k, x.2.2.2.1, x.2.2.2.2.1, x.2.2.2.2.2)
theorem ai_rt_short {M' : ai_m} {z : ai_s} {r : List Int} {sk : List Value} (h : ai_rt M' z = true) (g4 : ai_sk ad b r z.2.2.1 sk) : sk.head?.toList = sk := by
  have hl := g4.len
  have : z.2.2.1.length ≤ 1 := by
    unfold ai_rt at h
    split at h
    · split at h
      · rename_i h3 h4
        rw [h3]
        exact Nat.zero_le _
      · rename_i v h3 h4
        rw [h3]
        exact Nat.le_refl _
      · rename_i v h3 h4
        rw [h3]
        exact Nat.le_refl _
      · rename_i v h3 h4
        rw [h3]
        exact Nat.le_refl _
      · rename_i n v h3 h4
        rw [h3]
        exact Nat.le_refl _
      · cases h
    · cases h
  cases sk with
  | nil => rfl
  | cons x t => cases t with
    | nil => rfl
    | cons y t2 =>
      simp at hl
      omega
theorem ai_nj.same {s U : State} (hv : U.vm = s.vm) (hh : U.heap = s.heap) (h : ai_nj A s) : ai_nj A U := by
  obtain ⟨h1, aK, aV, h2⟩ := h
  refine ⟨fun w hw => ?_, aK, aV, h2.same hv hh⟩
  obtain ⟨a1, i1, y1, g1, rfl⟩ := ai_NW_on w hw
  exact va_Nw.same (u := s) rfl hv.symm (h1 _ hw)
theorem ai_nj.moved {s U : State} {locs : List Loc} (hW : s.WarmedH U.vm) (hS : va_S A s.heap U.heap locs) (h : ai_nj A s) : ai_nj A U := by
  obtain ⟨h1, aK, aV, h2⟩ := h
  refine ⟨fun w hw => ?_, aK, aV, h2.moved hW hS⟩
  obtain ⟨a1, i1, y1, g1, rfl⟩ := ai_NW_on w hw
  exact va_Nw.warmM hW (h1 _ hw)
theorem ai_PcB {vals : List Value} {H : Heap} : FrameBlind (va_Pc vals (fun U => U.heap = H ∧ va_K D vwCl tys U ∧ ai_nj A U)) := fun a U g mk q => by
  obtain ⟨q0, q1, qK, qN⟩ := q
  exact ⟨q0, q1, va_K.moved (u := U) (U := U.calling g mk a) (Vm.Alike.refl U.vm) qK, ai_nj.same (s := U) (U := U.calling g mk a) rfl rfl qN⟩
theorem ai_PcW (C : ai_cx M d p R s m args c D tys A b L sx cells slots) {vals : List Value} {H : Heap} {locs : List Loc} (hS : va_S A s.heap H locs) : ∀ U : State, U.heap = H → s.WarmedH U.vm → va_Pc vals (fun U => U.heap = H ∧ va_K D vwCl tys U ∧ ai_nj A U) vals.toArray U := fun U hU hW =>
  ⟨rfl, hU, va_K.moved hW.alike C.2.2.2.2.2.2.1, C.2.2.2.2.2.1.moved hW (by rw [hU]; exact hS)⟩
end AIC
end
section
/-! loops: a state that holds at every round -/
def ai_ge (en : List ai_e) (b : Nat) (p : Int) : Nat → Nat → Int → Bool
  | 0, _, _ => false
  | k + 1, a, o => (decide (a = b) && decide (p ≤ o)) || (match en[a]? with
    | some e => ai_ge en b p k e.2.2.2.1 (e.2.2.2.2 + o)
    | none => false)
theorem ai_ge_ok {r : List Int} {en : List ai_e} {b : Nat} {p w : Int} (h : ai_ok r en) (hb : r[b]? = some w) : ∀ {k a : Nat} {o z : Int}, r[a]? = some z → ai_ge en b p k a o = true → w + p ≤ z + o
  | 0, _, _, _, _, hg => by cases hg
  | k + 1, a, o, z, ha, hg => by
    have hg : ((decide (a = b) && decide (p ≤ o)) || (match en[a]? with | some e => ai_ge en b p k e.2.2.2.1 (e.2.2.2.2 + o) | none => false)) = true := hg
    rw [Bool.or_eq_true] at hg
    rcases hg with hg | hg
    · simp only [Bool.and_eq_true, decide_eq_true_eq] at hg
      obtain ⟨rfl, h2⟩ := hg
      rw [ha] at hb
      cases hb
      omega
    · obtain ⟨e, he, -, -, -, w', h4, h5⟩ := h.get ha
      rw [he] at hg
      have := ai_ge_ok h hb h4 hg
      omega
/-- what is forgotten at a loop's head: a local (0, its number, -) or a place (1, cell, place), with bounds: least, greatest, not 0, the name that it isn't below, by how much -/
abbrev ai_h : Type := Nat × Nat × Nat × Int × Int × Bool × Nat × Int
def ai_en (h : ai_h) : ai_e := (h.2.2.2.1, h.2.2.2.2.1, h.2.2.2.2.2.1, h.2.2.2.2.2.2.1, h.2.2.2.2.2.2.2)
def ai_pv (st : ai_s) (h : ai_h) : Option ai_v := if h.1 = 0 then ai_get st.2.1 h.2.1 else ai_lk st.2.2.2.2.1 h.2.1 h.2.2.1
/-- the bounds of an int or of a long -/
def ai_il2 (en : List ai_e) (v : ai_v) : Option (Int × Int) := if v.1 = 1 ∨ v.1 = 2 then (en[v.2.1]?).map fun e => (e.1 + v.2.2.2, e.2.1 + v.2.2.2) else none
theorem ai_il2_ok {ad : List Nat} {b : Nat} {r : List Int} {en : List ai_e} {v : ai_v} {x : Value} {p : Int × Int} (h : ai_ok r en) (hv : ai_dv ad b r v x) (hp : ai_il2 en v = some p) : ∃ z : Int, r[v.2.1]? = some z ∧ p.1 ≤ z + v.2.2.2 ∧ z + v.2.2.2 ≤ p.2 := by
  unfold ai_il2 at hp
  split at hp
  · rename_i h1
    obtain ⟨e, he, rfl⟩ := Option.map_eq_some_iff.mp hp
    obtain ⟨z, hz, h2⟩ := h.name he
    have a1 := h2.1
    have a2 := h2.2.1
    refine ⟨z, hz, ?_, ?_⟩
    · show e.1 + v.2.2.2 ≤ _
      omega
    · show _ ≤ e.2.1 + v.2.2.2
      omega
  · cases hp
def ai_it (n0 : Nat) (st : ai_s) (j : Nat) (h : ai_h) : Bool := match ai_pv st h with
  | some v => (match ai_il2 st.2.2.2.1 v with
    | some p => decide (h.2.2.2.1 ≤ p.1) && decide (p.2 ≤ h.2.2.2.2.1) && (!h.2.2.2.2.2.1 || decide (0 < p.1) || decide (p.2 < 0)) && ((decide (h.2.2.2.2.2.2.1 = n0 + j) && decide (h.2.2.2.2.2.2.2 = 0)) || (decide (h.2.2.2.2.2.2.1 < n0) && ai_ge st.2.2.2.1 h.2.2.2.2.2.2.1 h.2.2.2.2.2.2.2 12 v.2.1 v.2.2.2))
    | none => false)
  | none => false
/-- a value of the head's state, and the one that comes -/
def ai_ck (n0 : Nat) (hs : List ai_h) (k a i : Nat) (v : ai_v) (w : Option ai_v) : Bool :=
  if v.1 = 0 ∨ v.1 = 4 ∨ (v.2.1 < n0 ∧ v.2.2.1 < n0) then decide (w = some v)
  else (w.any fun v1 => decide (v1.1 = v.1)) && decide (v.1 = 1 ∨ v.1 = 2) && decide (v.2.2.2 = 0) && decide (n0 ≤ v.2.1) && (match hs[v.2.1 - n0]? with
    | some h => decide (h.1 = k) && decide (h.2.1 = a) && decide (k = 0 ∨ h.2.2.1 = i)
    | none => false)
def ai_lq (n0 : Nat) (hs : List ai_h) (I st : ai_s) : Bool :=
  (st.2.2.1.isEmpty) && ((List.range hs.length).all fun j => (hs[j]?).all fun h => ai_it n0 st j h) && (I.2.1.all fun q => ai_ck n0 hs 0 q.1 0 q.2 (ai_get st.2.1 q.1)) && (I.2.2.2.2.1.all fun q => ai_ck n0 hs 1 q.1 q.2.1 q.2.2 (ai_lk st.2.2.2.2.1 q.1 q.2.1))
theorem ai_dv_low {ad : List Nat} {b : Nat} {r t u : List Int} {v : ai_v} {x : Value} (h : ai_dv ad b (r ++ t) v x) (hv : v.1 = 0 ∨ v.1 = 4 ∨ (v.2.1 < r.length ∧ v.2.2.1 < r.length)) : ai_dv ad b (r ++ u) v x := by
  rcases h with h | ⟨h, z, i, h1, h2⟩ | ⟨h, z, i, h1, h2⟩ | ⟨h, z, w, i, h1, h2, h3⟩ | h
  · exact Or.inl h
  · rcases hv with q | q | ⟨q, -⟩
    · omega
    · omega
    · rw [List.getElem?_append_left q] at h1
      exact Or.inr (Or.inl ⟨h, z, i, by rw [List.getElem?_append_left q]; exact h1, h2⟩)
  · rcases hv with q | q | ⟨q, -⟩
    · omega
    · omega
    · rw [List.getElem?_append_left q] at h1
      exact Or.inr (Or.inr (Or.inl ⟨h, z, i, by rw [List.getElem?_append_left q]; exact h1, h2⟩))
  · rcases hv with q | q | ⟨q, q2⟩
    · omega
    · omega
    · rw [List.getElem?_append_left q] at h1
      rw [List.getElem?_append_left q2] at h2
      exact Or.inr (Or.inr (Or.inr (Or.inl ⟨h, z, w, i, by rw [List.getElem?_append_left q]; exact h1, by rw [List.getElem?_append_left q2]; exact h2, h3⟩)))
  · exact Or.inr (Or.inr (Or.inr (Or.inr h)))
/-- the values of the forgotten places -/
theorem ai_vals {ad : List Nat} {b : Nat} {r : List Int} {st : ai_s} {P : Nat → ai_h → Int → Prop} (f : ∀ (j : Nat) (h : ai_h), ∃ z, P j h z) : ∀ (hs : List ai_h) (k : Nat), ∃ vs : List Int, vs.length = hs.length ∧ ∀ (j : Nat) (h : ai_h) (z : Int), hs[j]? = some h → vs[j]? = some z → P (k + j) h z
  | [], k => ⟨[], rfl, fun j h z h1 => by simp at h1⟩
  | h :: t, k => by
    obtain ⟨vs, h1, h2⟩ := ai_vals (ad := ad) (b := b) (r := r) (st := st) f t (k + 1)
    obtain ⟨z, hz⟩ := f k h
    refine ⟨z :: vs, by simp [h1], fun j h' z' a1 a2 => ?_⟩
    cases j with
    | zero =>
      cases a1
      cases a2
      exact hz
    | succ j =>
      have := h2 j h' z' (by simpa using a1) (by simpa using a2)
      rw [show k + (j + 1) = k + 1 + j by omega]
      exact this
section AIL
variable {TY : List ai_c} {WR : List (Nat × Nat × Nat)} {w0 : va_W} {ad : List Nat} {M : ai_m} {d : Nat} {p : Program} {l : Launch} {e : Env} {R : Room} {s : State} {m : MethodId} {args : Array Value} {below : List Frame} {meth : Method} {c : Code} {D : va_G} {tys : ai_ty} {A : Nat → Prop} {b L : Nat} {sx : Nat → Int32} {cells slots : Nat} {Q : State → Prop} {r0 : List Int} {pc pc' : Nat} {lo : List (Nat × ai_v)} {sk : List ai_v} {en en' : List ai_e} {kn kn' : List ai_k} {sb sb' : List ai_b} {x y v : ai_v} {ss : List ai_s}
/-- the value at a forgotten place of a state that stands for lv, ws -/
def ai_pz (ad : List Nat) (b : Nat) (r : List Int) (st : ai_s) (lv : List (Nat × Value)) (ws : va_W) (h : ai_h) (z : Int) : Prop := ∀ v, ai_pv st h = some v → ∀ p, ai_il2 st.2.2.2.1 v = some p → (∃ z0, r[v.2.1]? = some z0 ∧ z = z0 + v.2.2.2) ∧ p.1 ≤ z ∧ z ≤ p.2
theorem ai_lq_ok {n0 : Nat} {hs : List ai_h} {I st : ai_s} {r t : List Int} {lv : List (Nat × Value)} {skc : List Value} {ws : va_W} {sc : Bool} (hI : I.2.2.2.1 = en ++ hs.map ai_en) (hIk : I.2.2.1 = []) (h0 : ai_ok r en) (hn : en.length = n0) (h1n : 1 < n0) (h8 : sc = true → 8 ≤ n0) (hsb : ai_sb w0 r I.2.2.2.2.2) (g : ai_gm TY WR w0 ad b L sx tys sc (r ++ t) st lv skc ws) (hq : ai_lq n0 hs I st = true) :
    ∃ (vs : List Int) (lv' : List (Nat × Value)), vs.length = hs.length ∧ ai_gm TY WR w0 ad b L sx tys sc (r ++ vs) I lv' [] ws ∧ skc = [] ∧ (∀ q ∈ lv', q ∈ lv) ∧ ∀ (j : Nat) (h : ai_h) (z : Int), hs[j]? = some h → vs[j]? = some z → ai_pz ad b (r ++ t) st lv ws h z := by
  obtain ⟨g1, g2, g3, g4, g5, g6, g7, g8⟩ := g
  unfold ai_lq at hq
  simp only [Bool.and_eq_true] at hq
  obtain ⟨⟨⟨q1, q2⟩, q3⟩, q4⟩ := hq
  have hr : r.length = n0 := by rw [h0.1]; exact hn
  have hsk : st.2.2.1 = [] := List.isEmpty_iff.mp q1
  rw [hsk] at g4
  have hskc := g4.nil
  -- each place has a value
  have hex : ∀ (v : ai_v) (p : Int × Int) (h : ai_h), ai_pv st h = some v → ai_il2 st.2.2.2.1 v = some p → ∃ z0 : Int, (r ++ t)[v.2.1]? = some z0 ∧ p.1 ≤ z0 + v.2.2.2 ∧ z0 + v.2.2.2 ≤ p.2 := fun v p h hv hp => by
    unfold ai_pv at hv
    split at hv
    · obtain ⟨k, x, k1, k2⟩ := ai_get_ok g3 hv
      exact ai_il2_ok g1 k2 hp
    · obtain ⟨x, k1, k2⟩ := ai_lk_ok g6 hv
      exact ai_il2_ok g1 k2 hp
  obtain ⟨vs, v1, v2⟩ := ai_vals (ad := ad) (b := b) (r := r) (st := st) (P := fun _ h z => ai_pz ad b (r ++ t) st lv ws h z) (fun j h => by
    cases hv : ai_pv st h with
    | none => exact ⟨0, fun v hv' => by rw [hv] at hv'; cases hv'⟩
    | some v =>
      cases hp : ai_il2 st.2.2.2.1 v with
      | none => exact ⟨0, fun v' hv' p hp' => by rw [hv] at hv'; cases hv'; rw [hp] at hp'; cases hp'⟩
      | some p =>
        obtain ⟨z0, i1, i3, i4⟩ := hex v p h hv hp
        exact ⟨z0 + v.2.2.2, fun v' hv' p' hp' => by rw [hv] at hv'; cases hv'; rw [hp] at hp'; cases hp'; exact ⟨⟨z0, i1, rfl⟩, i3, i4⟩⟩) hs 0
  have hat : ∀ (j : Nat) (h : ai_h), hs[j]? = some h → ∃ (v : ai_v) (p : Int × Int) (z : Int), ai_pv st h = some v ∧ ai_il2 st.2.2.2.1 v = some p ∧ vs[j]? = some z ∧ (∃ z0, (r ++ t)[v.2.1]? = some z0 ∧ z = z0 + v.2.2.2) ∧ p.1 ≤ z ∧ z ≤ p.2 ∧ ai_it n0 st j h = true := fun j h hj => by
    have hjl : j < hs.length := (List.getElem?_eq_some_iff.mp hj).1
    have hi := List.all_eq_true.mp q2 j (List.mem_range.mpr hjl)
    rw [hj] at hi
    have hi : ai_it n0 st j h = true := hi
    obtain ⟨z, hz⟩ : ∃ z, vs[j]? = some z := ⟨_, List.getElem?_eq_getElem (by rw [v1]; exact hjl)⟩
    have hi2 := hi
    unfold ai_it at hi2
    split at hi2
    · rename_i v hv
      split at hi2
      · rename_i p hp
        have := v2 j h z hj hz v hv p hp
        exact ⟨v, p, z, hv, hp, hz, this.1, this.2.1, this.2.2, hi⟩
      · cases hi2
    · cases hi2
  have hname : ∀ j z, vs[j]? = some z → (r ++ vs)[n0 + j]? = some z := fun j z hz => by
    rw [List.getElem?_append_right (by omega), show n0 + j - r.length = j by omega]
    exact hz
  -- the names
  have hok : ai_ok (r ++ vs) I.2.2.2.1 := by
    rw [hI]
    refine ⟨by simp [h0.1, v1], fun k z e a1 a2 => ?_⟩
    by_cases hk : k < r.length
    · rw [List.getElem?_append_left hk] at a1
      rw [List.getElem?_append_left (by omega)] at a2
      exact (h0.2 k z e a1 a2).mono ⟨vs, rfl⟩
    · rw [List.getElem?_append_right (by omega)] at a1
      rw [List.getElem?_append_right (by omega), List.getElem?_map] at a2
      obtain ⟨h, hh, rfl⟩ := Option.map_eq_some_iff.mp a2
      rw [hn, show n0 = r.length from hr.symm] at hh
      obtain ⟨v, p, z', b1, b2, b3, ⟨z0, b4, b5⟩, b6, b7, b8⟩ := hat _ h hh
      rw [a1] at b3
      cases b3
      unfold ai_it at b8
      rw [b1] at b8
      dsimp only at b8
      rw [b2] at b8
      simp only [Bool.and_eq_true, Bool.or_eq_true, decide_eq_true_eq, Bool.not_eq_true'] at b8
      obtain ⟨⟨⟨c1, c2⟩, c3⟩, c4⟩ := b8
      refine ⟨?_, ?_, ?_, ?_⟩
      · show h.2.2.2.1 ≤ z
        omega
      · show z ≤ h.2.2.2.2.1
        omega
      · intro hnz
        have hnz : h.2.2.2.2.2.1 = true := hnz
        rcases c3 with (c3 | c3) | c3
        · rw [hnz] at c3
          cases c3
        · omega
        · omega
      · show ∃ w, (r ++ vs)[h.2.2.2.2.2.2.1]? = some w ∧ w + h.2.2.2.2.2.2.2 ≤ z
        rcases c4 with ⟨d1, d2⟩ | ⟨d1, d2⟩
        · refine ⟨z, ?_, by omega⟩
          rw [d1]
          exact hname _ z a1
        · obtain ⟨w, hw⟩ : ∃ w, r[h.2.2.2.2.2.2.1]? = some w := ⟨_, List.getElem?_eq_getElem (by omega)⟩
          have := ai_ge_ok g1 (show (r ++ t)[h.2.2.2.2.2.2.1]? = some w by rw [List.getElem?_append_left (by omega)]; exact hw) b4 d2
          exact ⟨w, by rw [List.getElem?_append_left (by omega)]; exact hw, by omega⟩
  -- a value that is checked
  have hck : ∀ (k a i : Nat) (v : ai_v) (w : Option ai_v) (x : Value), ai_ck n0 hs k a i v w = true → (∀ v1, w = some v1 → ai_dv ad b (r ++ t) v1 x) → (∀ (j : Nat) (h : ai_h) (z : Int), hs[j]? = some h → h.1 = k → h.2.1 = a → (k = 0 ∨ h.2.2.1 = i) → vs[j]? = some z → ∃ (v1 : ai_v) (z0 : Int), w = some v1 ∧ (r ++ t)[v1.2.1]? = some z0 ∧ z = z0 + v1.2.2.2) → ai_dv ad b (r ++ vs) v x := fun k a i v w x hc h1 h2 => by
    unfold ai_ck at hc
    split at hc
    · rename_i hlow
      rw [decide_eq_true_eq] at hc
      exact ai_dv_low (h1 v hc) (by rw [hr]; exact hlow)
    · simp only [Bool.and_eq_true, decide_eq_true_eq] at hc
      obtain ⟨⟨⟨⟨c0, c1⟩, c2⟩, c3⟩, c4⟩ := hc
      split at c4
      · rename_i h hh
        simp only [Bool.and_eq_true, decide_eq_true_eq] at c4
        obtain ⟨vv, p, z, b1, b2, b3, -⟩ := hat _ h hh
        obtain ⟨v1, z0, rfl, k1, k2⟩ := h2 _ h z hh c4.1.1 c4.1.2 c4.2 b3
        have c0 : v1.1 = v.1 := by simpa using c0
        have hd1 := h1 v1 rfl
        have hnm := hname _ z b3
        rw [show n0 + (v.2.1 - n0) = v.2.1 by omega] at hnm
        rcases hd1 with ⟨q, -⟩ | ⟨q, z1, i32, i1, rfl, i3⟩ | ⟨q, z1, i32, i1, rfl, i3⟩ | ⟨q, -⟩ | ⟨q, -⟩
        · omega
        · rw [k1] at i1
          cases i1
          exact Or.inr (Or.inl ⟨by omega, z, i32, hnm, rfl, by omega⟩)
        · rw [k1] at i1
          cases i1
          exact Or.inr (Or.inr (Or.inl ⟨by omega, z, i32, hnm, rfl, by omega⟩))
        · omega
        · omega
      · cases c4
  have hlo : ∀ l : List (Nat × ai_v), (l.all fun q => ai_ck n0 hs 0 q.1 0 q.2 (ai_get st.2.1 q.1)) = true → ∃ lv' : List (Nat × Value), ai_lo ad b (r ++ vs) l lv' ∧ ∀ q ∈ lv', q ∈ lv := fun l => by
    induction l with
    | nil => exact fun _ => ⟨[], trivial, fun q hq => by cases hq⟩
    | cons q l ih =>
      intro ha
      rw [List.all_cons, Bool.and_eq_true] at ha
      obtain ⟨lv', a1, a2⟩ := ih ha.2
      have hc := ha.1
      -- the local's value
      have hval : ∃ (k : Nat) (x : Value), lv[k]? = some (q.1, x) ∧ (∀ v1, ai_get st.2.1 q.1 = some v1 → ai_dv ad b (r ++ t) v1 x) := by
        cases hg : ai_get st.2.1 q.1 with
        | some v1 =>
          obtain ⟨k, x, k1, k2⟩ := ai_get_ok g3 hg
          exact ⟨k, x, k1, fun v' hv' => by cases hv'; exact k2⟩
        | none =>
          exfalso
          rw [hg] at hc
          unfold ai_ck at hc
          split at hc
          · rw [decide_eq_true_eq] at hc
            cases hc
          · simp only [Bool.and_eq_true, decide_eq_true_eq] at hc
            obtain ⟨-, c4⟩ := hc
            split at c4
            · rename_i h hh
              simp only [Bool.and_eq_true, decide_eq_true_eq] at c4
              obtain ⟨vv, p, z, b1, -⟩ := hat _ h hh
              unfold ai_pv at b1
              rw [if_pos c4.1.1, c4.1.2, hg] at b1
              cases b1
            · cases c4
      obtain ⟨k, x, k1, k2⟩ := hval
      refine ⟨(q.1, x) :: lv', ⟨rfl, hck 0 q.1 0 q.2 _ x hc k2 (fun j h z hj e1 e2 _ hz => ?_), a1⟩, fun q' hq' => ?_⟩
      · obtain ⟨vv, p, z', b1, b2, b3, ⟨z0, b4, b5⟩, -⟩ := hat j h hj
        rw [hz] at b3
        cases b3
        have b1' := b1
        unfold ai_pv at b1'
        rw [if_pos e1, e2] at b1'
        exact ⟨vv, z0, b1', b4, b5⟩
      · rcases List.mem_cons.mp hq' with rfl | hq'
        · exact List.mem_of_getElem? k1
        · exact a2 q' hq'
  obtain ⟨lv', l1, l2⟩ := hlo I.2.1 q3
  refine ⟨vs, lv', v1, ⟨hok, hsb.mono ⟨vs, rfl⟩, l1, by rw [hIk]; trivial, g5, fun q hqm => ?_, g7, ?_⟩, hskc, l2, fun j h z hj hz => by have := v2 j h z hj hz; exact this⟩
  · have hc := List.all_eq_true.mp q4 q hqm
    have hval : ∃ x : Value, ai_sl ws q.1 q.2.1 x ∧ (∀ v1, ai_lk st.2.2.2.2.1 q.1 q.2.1 = some v1 → ai_dv ad b (r ++ t) v1 x) := by
      cases hg : ai_lk st.2.2.2.2.1 q.1 q.2.1 with
      | some v1 =>
        obtain ⟨x, k1, k2⟩ := ai_lk_ok g6 hg
        exact ⟨x, k1, fun v' hv' => by cases hv'; exact k2⟩
      | none =>
        exfalso
        rw [hg] at hc
        unfold ai_ck at hc
        split at hc
        · rw [decide_eq_true_eq] at hc
          cases hc
        · simp only [Bool.and_eq_true, decide_eq_true_eq] at hc
          obtain ⟨-, c4⟩ := hc
          split at c4
          · rename_i h hh
            simp only [Bool.and_eq_true, decide_eq_true_eq] at c4
            obtain ⟨vv, p, z, b1, -⟩ := hat _ h hh
            unfold ai_pv at b1
            have e3 : h.2.2.1 = q.2.1 := c4.2.resolve_left (by decide)
            rw [if_neg (by omega), c4.1.2, e3, hg] at b1
            cases b1
          · cases c4
    obtain ⟨x, k1, k2⟩ := hval
    refine ⟨x, k1, hck 1 q.1 q.2.1 q.2.2 _ x hc k2 (fun j h z hj e1 e2 e3 hz => ?_)⟩
    obtain ⟨vv, p, z', b1, b2, b3, ⟨z0, b4, b5⟩, -⟩ := hat j h hj
    rw [hz] at b3
    cases b3
    have b1' := b1
    unfold ai_pv at b1'
    rw [if_neg (by omega), e2, e3.resolve_left (by decide)] at b1'
    exact ⟨vv, z0, b1', b4, b5⟩
  · intro hs z hz
    rw [List.getElem?_append_left (by omega)] at hz
    obtain ⟨p1, p2⟩ := g8 hs z (by rw [List.getElem?_append_left (by omega)]; exact hz)
    refine ⟨p1, fun o ho => ?_⟩
    have p3 := p2 o ho
    rw [List.getElem?_append_left (by have := h8 hs; omega)] at p3 ⊢
    exact p3
end AIL
end
section
/-! the whole walk -/
def ai_ms (n0 mj : Nat) (up : Bool) (hs : List ai_h) (x : ai_s) : Bool := match hs[mj]? with
  | some h => (match ai_pv x h with
    | some v => if up = true then ai_ge x.2.2.2.1 (n0 + mj) 1 12 v.2.1 v.2.2.2 else decide (v.2.1 = n0 + mj) && decide (v.2.2.2 ≤ -1)
    | none => false)
  | none => false
def ai_I (st : ai_s) (hs : List ai_h) (lo' : List (Nat × ai_v)) (kn' : List ai_k) : ai_s := (st.1, lo', [], st.2.2.2.1 ++ hs.map ai_en, kn', st.2.2.2.2.2)
def ai_lp (one : List Nat → ai_s → Option (List ai_s)) (cu : List Nat) (st : ai_s) (hs : List ai_h) (lo' : List (Nat × ai_v)) (kn' : List ai_k) (mj : Nat) (up : Bool) : Option (List ai_s) :=
  if ai_lq st.2.2.2.1.length hs (ai_I st hs lo' kn') st = true then
    (one (st.1 :: cu) (ai_I st hs lo' kn')).bind fun xs =>
      if (xs.all fun x => !(x.1 == st.1) || (ai_lq st.2.2.2.1.length hs (ai_I st hs lo' kn') x && ai_ms st.2.2.2.1.length mj up hs x)) = true then some (xs.filter fun x => !(x.1 == st.1)) else none
  else none
def ai_mz (mj : Nat) (up : Bool) (hs : List ai_h) (vs : List Int) : Nat := match hs[mj]?, vs[mj]? with
  | some h, some z => if up = true then (h.2.2.2.2.1 - z).toNat else (z - h.2.2.2.1).toNat
  | _, _ => 0
section AIW
variable {TY : List ai_c} {WR : List (Nat × Nat × Nat)} {w0 : va_W} {ad : List Nat} {M : ai_m} {d : Nat} {p : Program} {l : Launch} {e : Env} {R : Room} {s : State} {m : MethodId} {args : Array Value} {below : List Frame} {meth : Method} {c : Code} {D : va_G} {tys : ai_ty} {A : Nat → Prop} {b L : Nat} {sx : Nat → Int32} {cells slots : Nat} {Q : State → Prop} {r0 : List Int} {pc pc' : Nat} {lo : List (Nat × ai_v)} {sk : List ai_v} {en en' : List ai_e} {kn kn' : List ai_k} {sb sb' : List ai_b} {x y v : ai_v} {ss : List ai_s}
theorem ai_lp_ok {one : List Nat → ai_s → Option (List ai_s)} {cu : List Nat} {st : ai_s} {hs : List ai_h} {lo' : List (Nat × ai_v)} {mj : Nat} {up : Bool} {ys : List ai_s} (hone : ∀ (xs : List ai_s) (r1 : List Int), one (st.1 :: cu) (ai_I st hs lo' kn') = some xs → (∀ x ∈ xs, ai_G TY WR w0 ad M p l e R s m args below meth c D tys A b L sx cells slots Q r1 x) → ai_G TY WR w0 ad M p l e R s m args below meth c D tys A b L sx cells slots Q r1 (ai_I st hs lo' kn')) (hn : 1 < st.2.2.2.1.length) (h8 : M.2.2.2.2.1 = true → 8 ≤ st.2.2.2.1.length) (hq : ai_lp one cu st hs lo' kn' mj up = some ys) (k : ∀ x ∈ ys, ai_G TY WR w0 ad M p l e R s m args below meth c D tys A b L sx cells slots Q r0 x) : ai_G TY WR w0 ad M p l e R s m args below meth c D tys A b L sx cells slots Q r0 st := by
  unfold ai_lp at hq
  split at hq
  · rename_i hlq0
    obtain ⟨xs, hxs, hq⟩ := Option.bind_eq_some_iff.mp hq
    split at hq
    · rename_i hall
      injection hq with hq
      subst hq
      intro r lv skc ws H locs ls hx g hP hD hS hl
      have g' : ai_gm TY WR w0 ad b L sx tys M.2.2.2.2.1 (r ++ []) st lv skc ws := by rw [List.append_nil]; exact g
      obtain ⟨vs, lv', v1, v2, hsk, hsub, -⟩ := ai_lq_ok (I := ai_I st hs lo' kn') rfl rfl g.1 rfl hn h8 g.2.1 g' hlq0
      subst hsk
      have hr : r.length = st.2.2.2.1.length := g.1.1
      have key : ∀ (N : Nat) (vs : List Int) (lv : List (Nat × Value)) (ws : va_W) (H : Heap) (locs : List Loc) (ls : Array Slot), ai_mz mj up hs vs < N → vs.length = hs.length → ai_gm TY WR w0 ad b L sx tys M.2.2.2.2.1 (r ++ vs) (ai_I st hs lo' kn') lv [] ws → va_P D vwCl ws H → va_D A ws → va_S A s.heap H locs → lv_has ls M.2.2.1 lv → W p l e R s m args below meth c H locs cells slots Q (F0 m st.1 ls []) := by
        intro N
        induction N with
        | zero => exact fun vs lv ws H locs ls h => absurd h (Nat.not_lt_zero _)
        | succ N ih =>
          intro vs lv ws H locs ls hm hvl g1 hP hD hS hl
          refine hone xs (r ++ vs) hxs (fun z hz => ?_) (r ++ vs) lv [] ws H locs ls ai_x.rf g1 hP hD hS hl
          by_cases hpc : z.1 = st.1
          · have hz2 := List.all_eq_true.mp hall z hz
            rw [Bool.or_eq_true] at hz2
            have hz2 := hz2.resolve_left (by rw [hpc]; simp)
            rw [Bool.and_eq_true] at hz2
            obtain ⟨hlq, hms⟩ := hz2
            intro r1 lv1 sk1 ws1 H1 locs1 ls1 hx1 g2 hP1 hD1 hS1 hl1
            obtain ⟨t, rfl⟩ := hx1
            rw [List.append_assoc] at g2
            obtain ⟨vs', lv', a1, a2, a3, a4, a5⟩ := ai_lq_ok (I := ai_I st hs lo' kn') rfl rfl g.1 rfl hn h8 g.2.1 g2 hlq
            subst a3
            rw [hpc]
            refine ih vs' lv' ws1 H1 locs1 ls1 ?_ a1 a2 hP1 hD1 hS1 ⟨hl1.1, hl1.2.1, fun q hq => hl1.2.2 q (a4 q hq)⟩
            -- the measure falls
            unfold ai_ms at hms
            split at hms
            · rename_i h hh
              have hjl : mj < hs.length := (List.getElem?_eq_some_iff.mp hh).1
              obtain ⟨z1, hz1⟩ : ∃ z1, vs[mj]? = some z1 := ⟨_, List.getElem?_eq_getElem (by rw [hvl]; exact hjl)⟩
              obtain ⟨z2, hz2⟩ : ∃ z2, vs'[mj]? = some z2 := ⟨_, List.getElem?_eq_getElem (by rw [a1]; exact hjl)⟩
              have hb : ai_oe (r ++ vs') z2 (ai_en h) := by
                refine a2.1.2 (r.length + mj) z2 _ ?_ ?_
                · rw [List.getElem?_append_right (by omega), show r.length + mj - r.length = mj by omega]
                  exact hz2
                · show (st.2.2.2.1 ++ hs.map ai_en)[r.length + mj]? = _
                  rw [List.getElem?_append_right (by omega), hr, show st.2.2.2.1.length + mj - st.2.2.2.1.length = mj by omega, List.getElem?_map, hh]
                  rfl
              have b1 : h.2.2.2.1 ≤ z2 := hb.1
              have b2 : z2 ≤ h.2.2.2.2.1 := hb.2.1
              have hit : ai_it st.2.2.2.1.length z mj h = true := by
                unfold ai_lq at hlq
                simp only [Bool.and_eq_true] at hlq
                have := List.all_eq_true.mp hlq.1.1.2 mj (List.mem_range.mpr hjl)
                rw [hh] at this
                exact this
              split at hms
              · rename_i v hv
                unfold ai_it at hit
                rw [hv] at hit
                dsimp only at hit
                split at hit
                · rename_i p hp
                  obtain ⟨⟨z0, c1, c2⟩, -⟩ := a5 mj h z2 hh hz2 v hv p hp
                  have hold : (r ++ (vs ++ t))[st.2.2.2.1.length + mj]? = some z1 := by
                    rw [List.getElem?_append_right (by omega), List.getElem?_append_left (by rw [hvl]; omega), show st.2.2.2.1.length + mj - r.length = mj by omega]
                    exact hz1
                  have e1 : ai_mz mj up hs vs = if up = true then (h.2.2.2.2.1 - z1).toNat else (z1 - h.2.2.2.1).toNat := by
                    unfold ai_mz
                    rw [hh, hz1]
                  have e2 : ai_mz mj up hs vs' = if up = true then (h.2.2.2.2.1 - z2).toNat else (z2 - h.2.2.2.1).toNat := by
                    unfold ai_mz
                    rw [hh, hz2]
                  rw [e1] at hm
                  rw [e2]
                  split at hms
                  · rename_i hup
                    have := ai_ge_ok g2.1 hold c1 hms
                    rw [if_pos hup] at hm ⊢
                    omega
                  · rename_i hup
                    simp only [Bool.and_eq_true, decide_eq_true_eq] at hms
                    rw [hms.1, hold] at c1
                    cases c1
                    rw [if_neg hup] at hm ⊢
                    omega
                · cases hit
              · cases hms
            · cases hms
          · exact (k z (List.mem_filter.mpr ⟨hz, by simp [hpc]⟩)).up (hx.tr ⟨vs, rfl⟩)
      exact key (ai_mz mj up hs vs + 1) vs lv' ws H locs ls (Nat.lt_succ_self _) v1 v2 hP hD hS ⟨hl.1, hl.2.1, fun q hq => hl.2.2 q (hsub q hq)⟩
    · cases hq
  · cases hq
def ai_all (f : ai_s → Option (List ai_s)) : List ai_s → Option (List ai_s)
  | [] => some []
  | z :: t => (f z).bind fun a => (ai_all f t).map fun b => a ++ b
theorem ai_all_ok {f : ai_s → Option (List ai_s)} : ∀ {zs ys : List ai_s}, ai_all f zs = some ys → ∀ z ∈ zs, ∃ a, f z = some a ∧ ∀ q ∈ a, q ∈ ys
  | [], _, _, _, hz => by cases hz
  | z :: t, ys, h, w, hw => by
    obtain ⟨a, h1, h⟩ := Option.bind_eq_some_iff.mp (show (f z).bind _ = some ys from h)
    obtain ⟨b', h2, rfl⟩ := Option.map_eq_some_iff.mp h
    rcases List.mem_cons.mp hw with rfl | hw
    · exact ⟨a, h1, fun q hq => List.mem_append_left _ hq⟩
    · obtain ⟨a', h3, h4⟩ := ai_all_ok h2 w hw
      exact ⟨a', h3, fun q hq => List.mem_append_right _ (h4 q hq)⟩
/-- a call's row: (its number, kind, method, arguments, the receiver's class): 0 virtual, 1 static, 2 a nest mate's, 3 Math.min, 4 Math.max, 5 arraycopy -/
abbrev ai_l5 : Type := Nat × Nat × Nat × Nat × Nat
def ai_lok (MT : List ai_m) (own : String) (q : ai_l5) : Prop := match q.2.1 with
  | 0 => ∃ (M' : ai_m) (r : vw_C), MT[q.2.2.1]? = some M' ∧ vwCl[q.2.2.2.2]? = some r ∧ GoodIn ai_GT (wsV own q.1 r.1 M'.1 (ai_ws M')) ∧ (M'.1.cls = r.1 ∧ M'.1.cls ≠ "java/lang/invoke/MethodHandle" ∧ M'.1.cls ≠ "java/lang/invoke/VarHandle" ∧ (parseMethodDescriptor M'.1.desc).map (fun d => d.parameters.length) = some q.2.2.2.1)
  | 1 => ∃ M' : ai_m, MT[q.2.2.1]? = some M' ∧ GoodIn ai_GT (va_wsS own q.1 M'.1 (ai_ws M')) ∧ (M'.1.cls ≠ "java/lang/invoke/MethodHandle" ∧ M'.1.cls ≠ "java/lang/invoke/VarHandle" ∧ (parseMethodDescriptor M'.1.desc).map (fun d => d.parameters.length) = some q.2.2.2.1)
  | 2 => ∃ (M' : ai_m) (host : String), MT[q.2.2.1]? = some M' ∧ Cond.methodLinkNest own q.1 M'.1 host ∈ ai_NW ∧ GoodIn ai_GT (ai_ws M') ∧ Cond.static M'.1 ∈ ai_GT ∧ Cond.initialized M'.1.cls ∈ ai_GT ∧ (M'.1.cls ≠ "java/lang/invoke/MethodHandle" ∧ M'.1.cls ≠ "java/lang/invoke/VarHandle" ∧ (parseMethodDescriptor M'.1.desc).map (fun d => d.parameters.length) = some q.2.2.2.1)
  | 3 => Cond.methodLink own q.1 Lib.Math.min.name ∈ ai_GT ∧ Cond.static Lib.Math.min.name ∈ ai_GT ∧ Cond.initialized "java/lang/Math" ∈ ai_GT ∧ Cond.code Lib.Math.min.name Lib.Math.min.code 2 (some .int) ∈ ai_GT
  | 4 => Cond.methodLink own q.1 Lib.Math.max.name ∈ ai_GT ∧ Cond.static Lib.Math.max.name ∈ ai_GT ∧ Cond.initialized "java/lang/Math" ∈ ai_GT ∧ Cond.code Lib.Math.max.name Lib.Math.max.code 2 (some .int) ∈ ai_GT
  | _ => Cond.methodLink own q.1 arraycopyName ∈ ai_GT ∧ Cond.native arraycopyName ∈ ai_GT ∧ Cond.static arraycopyName ∈ ai_GT ∧ Cond.initialized "java/lang/System" ∈ ai_GT
/-- the ends of a method made one: what was known and still is, the answer by its bounds -/
def ai_mv (x : ai_s) : ai_s := (0, (match x.2.2.1 with
  | [v] => [(0, v)]
  | _ => []), [], x.2.2.2.1, x.2.2.2.2.1, x.2.2.2.2.2)
/-- how the ends of a method are made one: (method, by its answer too, by these places, with these places kept) -/
abbrev ai_g : Type := Nat × Bool × List (Nat × Nat) × List (Nat × Nat)
def ai_mk (n0 : Nat) (xs : List ai_s) : List ai_k := (xs.headD (0, [], [], [], [], [])).2.2.2.2.1.filter fun q => decide (q.2.2.2.1 < n0) && decide (q.2.2.2.2.1 < n0) && xs.all fun x => decide (ai_lk x.2.2.2.2.1 q.1 q.2.1 = some q.2.2)
def ai_hu (xs : List ai_s) (f : ai_s → Option ai_v) : Int × Int := xs.foldl (fun w x => match (f x).bind fun v => ai_il2 x.2.2.2.1 v with
  | some p => (min w.1 p.1, max w.2 p.2)
  | none => w) (9223372036854775807, -9223372036854775808)
/-- the kept places' items: those that all the ends know -/
def ai_ki (n0 : Nat) (kn : List ai_k) (xs : List ai_s) : Nat → List (Nat × Nat) → List ai_h
  | _, [] => []
  | j, q :: t => if xs.all (fun x => (ai_lk x.2.2.2.2.1 q.1 q.2).isSome) = true then
      (1, q.1, q.2, (ai_hu xs fun x => ai_lk x.2.2.2.2.1 q.1 q.2).1, (ai_hu xs fun x => ai_lk x.2.2.2.2.1 q.1 q.2).2, false, (match ai_lk kn q.1 q.2 with
        | some v => if xs.all (fun x => (ai_lk x.2.2.2.2.1 q.1 q.2).any fun w => ai_ge x.2.2.2.1 v.2.1 (v.2.2.2 + 1) 12 w.2.1 w.2.2.2) = true then (v.2.1, v.2.2.2 + 1)
          else if xs.all (fun x => (ai_lk x.2.2.2.2.1 q.1 q.2).any fun w => ai_ge x.2.2.2.1 v.2.1 v.2.2.2 12 w.2.1 w.2.2.2) = true then (v.2.1, v.2.2.2) else (n0 + j, 0)
        | none => (n0 + j, 0))) :: ai_ki n0 kn xs (j + 1) t
    else ai_ki n0 kn xs j t
def ai_kk (n0 : Nat) : Nat → List ai_h → List ai_k
  | _, [] => []
  | j, h :: t => if h.1 = 1 then (h.2.1, h.2.2.1, (1, n0 + j, 0, 0)) :: ai_kk n0 (j + 1) t else ai_kk n0 (j + 1) t
/-- one end for many -/
def ai_m1 (en : List ai_e) (sb : List ai_b) (hs : List ai_h) (rv : List ai_v) (kn' : List ai_k) (xs : List ai_s) : Option ai_s :=
  if rv.length ≤ 1 ∧ (xs.all fun x => decide (x.2.2.1.length = rv.length) && ai_lq en.length hs (0, rv.map (fun v => (0, v)), [], en ++ hs.map ai_en, kn', sb) (ai_mv x)) = true then some (0, [], rv, en ++ hs.map ai_en, kn', sb) else none
theorem ai_m1_ok {r t : List Int} {hs : List ai_h} {rv : List ai_v} {xs : List ai_s} {z y : ai_s} {lvx : List (Nat × Value)} {skx : List Value} {ws : va_W} (hn : 1 < en.length) (g1 : ai_ok r en) (g2 : ai_sb w0 r sb) (hz : z ∈ xs) (g : ai_gm TY WR w0 ad b L sx tys false (r ++ t) z lvx skx ws) (hq : ai_m1 en sb hs rv kn' xs = some y) :
    ∃ r', ai_x r r' ∧ ai_gm TY WR w0 ad b L sx tys false r' y [] skx ws := by
  obtain ⟨f1, f2, f3, f4, f5, f6, f7, -⟩ := g
  unfold ai_m1 at hq
  split at hq
  · rename_i hc
    obtain ⟨hrv, hall⟩ := hc
    injection hq with hq
    subst hq
    have h1 := List.all_eq_true.mp hall z hz
    rw [Bool.and_eq_true, decide_eq_true_eq] at h1
    match rv, hrv, h1 with
    | [], _, h1 =>
      have he : z.2.2.1 = [] := List.eq_nil_of_length_eq_zero h1.1
      rw [he] at f4
      have hs0 := f4.nil
      subst hs0
      have hmv : ai_gm TY WR w0 ad b L sx tys false (r ++ t) (ai_mv z) [] [] ws := ⟨f1, f2, by unfold ai_mv; rw [he]; trivial, trivial, f5, f6, f7, fun h => by cases h⟩
      obtain ⟨vs, lv', v1, v2, -, hsub, -⟩ := ai_lq_ok (I := (0, [], [], en ++ hs.map ai_en, kn', sb)) (en := en) rfl rfl g1 rfl hn (fun h => by cases h) g2 hmv h1.2
      have hlv : lv' = [] := by
        cases lv' with
        | nil => rfl
        | cons a l => exact absurd (hsub a List.mem_cons_self) List.not_mem_nil
      subst hlv
      exact ⟨r ++ vs, ⟨vs, rfl⟩, v2⟩
    | [v], _, h1 =>
      obtain ⟨w, hw⟩ : ∃ w, z.2.2.1 = [w] := by
        have := h1.1
        match hh : z.2.2.1 with
        | [] => rw [hh] at this; cases this
        | [w] => exact ⟨w, rfl⟩
        | _ :: _ :: _ => rw [hh] at this; simp at this
      rw [hw] at f4
      obtain ⟨x, s1, rfl, dx, k5⟩ := f4.cons
      have hs0 := k5.nil
      subst hs0
      have hmv : ai_gm TY WR w0 ad b L sx tys false (r ++ t) (ai_mv z) [(0, x)] [] ws := ⟨f1, f2, by unfold ai_mv; rw [hw]; exact ⟨rfl, dx, trivial⟩, trivial, f5, f6, f7, fun h => by cases h⟩
      obtain ⟨vs, lv', v1, v2, -, hsub, -⟩ := ai_lq_ok (I := (0, [(0, v)], [], en ++ hs.map ai_en, kn', sb)) (en := en) rfl rfl g1 rfl hn (fun h => by cases h) g2 hmv h1.2
      obtain ⟨u1, u2, u3, u4, u5, u6, u7, u8⟩ := v2
      refine ⟨r ++ vs, ⟨vs, rfl⟩, u1, u2, trivial, ⟨?_, trivial⟩, u5, u6, u7, u8⟩
      match lv', u3, hsub with
      | [a], u3, hsub =>
        have ha := List.mem_singleton.mp (hsub a List.mem_cons_self)
        have := u3.2.1
        rw [ha] at this
        exact this
      | [], u3, _ => exact u3.elim
      | _ :: _ :: _, u3, _ => exact u3.2.2.elim
  · cases hq
def ai_key (g : ai_g) (x : ai_s) : List (Option (Int × Int)) × List (Option (Int × Int)) := (if g.2.1 = true then x.2.2.1.map (ai_il2 x.2.2.2.1) else [], g.2.2.1.map fun q => (ai_lk x.2.2.2.2.1 q.1 q.2).bind (ai_il2 x.2.2.2.1))
def ai_mgrp (n0 : Nat) (kn : List ai_k) (g : ai_g) (xs : List ai_s) : List ai_h × List ai_v × List ai_k :=
  match (xs.headD (0, [], [], [], [], [])).2.2.1 with
  | v :: _ => if v.2.1 < n0 ∧ (xs.all fun x => decide (x.2.2.1 = [v])) = true then (ai_ki n0 kn xs 0 g.2.2.2, [v], ai_kk n0 0 (ai_ki n0 kn xs 0 g.2.2.2) ++ ai_mk n0 xs)
      else ((0, 0, 0, (ai_hu xs fun x => x.2.2.1.head?).1, (ai_hu xs fun x => x.2.2.1.head?).2, false, n0, 0) :: ai_ki n0 kn xs 1 g.2.2.2, [(v.1, n0, 0, 0)], ai_kk n0 1 (ai_ki n0 kn xs 1 g.2.2.2) ++ ai_mk n0 xs)
  | [] => (ai_ki n0 kn xs 0 g.2.2.2, [], ai_kk n0 0 (ai_ki n0 kn xs 0 g.2.2.2) ++ ai_mk n0 xs)
def ai_mgs (en : List ai_e) (kn : List ai_k) (sb : List ai_b) (g : ai_g) : Nat → List ai_s → Option (List ai_s)
  | _, [] => some []
  | 0, _ => none
  | n + 1, x0 :: t => (ai_m1 en sb (ai_mgrp en.length kn g ((x0 :: t).filter fun x => decide (ai_key g x = ai_key g x0))).1 (ai_mgrp en.length kn g ((x0 :: t).filter fun x => decide (ai_key g x = ai_key g x0))).2.1 (ai_mgrp en.length kn g ((x0 :: t).filter fun x => decide (ai_key g x = ai_key g x0))).2.2 ((x0 :: t).filter fun x => decide (ai_key g x = ai_key g x0))).bind fun y =>
      (ai_mgs en kn sb g n ((x0 :: t).filter fun x => !decide (ai_key g x = ai_key g x0))).map fun ys => y :: ys
theorem ai_mgs_ok {r t : List Int} {g : ai_g} {z : ai_s} {lvx : List (Nat × Value)} {skx : List Value} {ws : va_W} (hn : 1 < en.length) (g1 : ai_ok r en) (g2 : ai_sb w0 r sb) (gg : ai_gm TY WR w0 ad b L sx tys false (r ++ t) z lvx skx ws) : ∀ {n : Nat} {xs ys : List ai_s}, z ∈ xs → ai_mgs en kn sb g n xs = some ys →
    ∃ y ∈ ys, ∃ r', ai_x r r' ∧ ai_gm TY WR w0 ad b L sx tys false r' y [] skx ws
  | _, [], _, hz, _ => by cases hz
  | 0, _ :: _, _, _, hq => by cases hq
  | n + 1, x0 :: tt, ys, hz, hq => by
    obtain ⟨y, h1, hq⟩ := Option.bind_eq_some_iff.mp (show (ai_m1 _ _ _ _ _ _).bind _ = some ys from hq)
    obtain ⟨ys', h2, rfl⟩ := Option.map_eq_some_iff.mp hq
    by_cases hk : ai_key g z = ai_key g x0
    · obtain ⟨r', e1, e2⟩ := ai_m1_ok hn g1 g2 (List.mem_filter.mpr ⟨hz, decide_eq_true hk⟩) gg h1
      exact ⟨y, List.mem_cons_self, r', e1, e2⟩
    · obtain ⟨y', hy, r', e1, e2⟩ := ai_mgs_ok hn g1 g2 gg (List.mem_filter.mpr ⟨hz, by simp [hk]⟩) h2
      exact ⟨y', List.mem_cons_of_mem _ hy, r', e1, e2⟩
/-- the walk of a callee with these arguments, and what comes back -/
def ai_go (MT : List ai_m) (MG : List ai_g) (rec : ai_R) (d mid : Nat) (fa k : List ai_v) (pc' : Nat) (lo : List (Nat × ai_v)) (en : List ai_e) (kn : List ai_k) (sb : List ai_b) : Option (List ai_s) :=
  (MT[mid]?).bind fun M' => if 1 ≤ d ∧ M'.2.2.2.2.1 = false ∧ M'.2.2.1 ≤ 17 ∧ (k.map ai_wd1).sum ≤ 8 ∧ (fa.map ai_wd1).sum ≤ M'.2.2.1 then
    (rec mid M' (d - 1) [] (0, ai_args 0 fa, [], en, kn, sb)).bind fun xs => if xs.all (ai_rt M') = true then (match MG.find? fun g => Nat.beq g.1 mid with
      | some g => (ai_mgs en kn sb g xs.length xs).map fun ys => ys.map (ai_bk pc' lo k)
      | none => some (xs.map (ai_bk pc' lo k))) else none else none
def ai_call (TY : List ai_c) (WR : List (Nat × Nat × Nat)) (MT : List ai_m) (MG : List ai_g) (rec : ai_R) (d : Nat) (M : ai_m) (ins : Instr) (len pc : Nat) (lo : List (Nat × ai_v)) (sk : List ai_v) (en : List ai_e) (kn : List ai_k) (sb : List ai_b) : Option (List ai_s) := match ins, len with
  | .invokevirtual i, 3 => (M.2.2.2.2.2.2.2.2.2.2.1.find? fun q => Nat.beq q.1 i).bind fun q => if q.2.1 = 0 ∧ q.2.2.2.1 ≤ sk.length then (match sk.drop q.2.2.2.1 with
      | rv :: k => (TY[rv.2.1]?).bind fun t => if rv.1 = 0 ∧ t.1 = 0 ∧ t.2.1 = q.2.2.2.2 then ai_go MT MG rec d q.2.2.1 (rv :: (sk.take q.2.2.2.1).reverse) k (pc + 3) lo en kn sb else none
      | _ => none) else none
  | .invokestatic i, 3 => (M.2.2.2.2.2.2.2.2.2.2.1.find? fun q => Nat.beq q.1 i).bind fun q =>
      if (q.2.1 = 1 ∨ q.2.1 = 2) ∧ q.2.2.2.1 ≤ sk.length then ai_go MT MG rec d q.2.2.1 (sk.take q.2.2.2.1).reverse (sk.drop q.2.2.2.1) (pc + 3) lo en kn sb
      else if q.2.1 = 3 ∧ 1 ≤ d ∧ (sk.map ai_wd1).sum ≤ 8 then ai_n2 ai_min (pc + 3) lo sk en kn sb
      else if q.2.1 = 4 ∧ 1 ≤ d ∧ (sk.map ai_wd1).sum ≤ 8 then ai_n2 ai_max (pc + 3) lo sk en kn sb
      else if 5 ≤ q.2.1 ∧ 1 ≤ d then ai_ncp TY WR (pc + 3) lo sk en kn sb else none
  | _, _ => none
end AIW
end
section
/-! calls are sound; the walk is sound -/
/-- how deep a known method must go -/
def ai_gd (mid : Nat) : Nat := if (Nat.beq mid 37 || Nat.beq mid 150) = true then 6 else if Nat.beq mid 34 = true then 4 else if (Nat.beq mid 103 || Nat.beq mid 104) = true then 5 else if Nat.beq mid 106 = true then 7 else if (Nat.beq mid 48 || Nat.beq mid 109) = true then 10 else 3
section AIY
variable {TY : List ai_c} {WR : List (Nat × Nat × Nat)} {w0 : va_W} {ad : List Nat} {M : ai_m} {d : Nat} {p : Program} {l : Launch} {e : Env} {R : Room} {s : State} {m : MethodId} {args : Array Value} {below : List Frame} {meth : Method} {c : Code} {D : va_G} {tys : ai_ty} {A : Nat → Prop} {b L : Nat} {sx : Nat → Int32} {cells slots : Nat} {Q : State → Prop} {r0 : List Int} {pc pc' : Nat} {lo : List (Nat × ai_v)} {sk : List ai_v} {en en' : List ai_e} {kn kn' : List ai_k} {sb sb' : List ai_b} {x y v : ai_v} {ss : List ai_s} {MT : List ai_m} {MG : List ai_g} {rec : ai_R}
theorem ai_go_ok (hS : ai_SR TY WR MT rec) (hMT : ∀ M ∈ MT, ai_mok M ∧ plainName M.1.cls = true) (C : ai_cx M d p R s m args c D tys A b L sx cells slots) (hn : 1 < en.length) {mid : Nat} {fa k : List ai_v} (hq : ai_go MT MG rec d mid fa k (pc + 3) lo en kn sb = some ss) (hk : ∀ st ∈ ss, ai_G TY WR w0 ad M p l e R s m args below meth c D tys A b L sx cells slots Q r0 st)
    {r : List Int} {lv : List (Nat × Value)} {vals rest stk : List Value} {ws : va_W} {H : Heap} {locs : List Loc} {ls : Array Slot} (hx : ai_x r0 r) (g1 : ai_ok r en) (g2 : ai_sb w0 r sb) (g3 : ai_lo ad b r lo lv) (gf : ai_sk ad b r fa vals) (gk : ai_sk ad b r k rest) (g5 : ai_wd TY ad tys ws) (g6 : ai_kn ad b r ws kn) (g7 : ai_fr WR w0 ws) (g8 : M.2.2.2.2.1 = true → ai_sx L sx r) (hP : va_P D vwCl ws H) (hD : va_D A ws) (hS' : va_S A s.heap H locs) (hl : lv_has ls M.2.2.1 lv)
    (row : ∀ (M' : ai_m) (Qc : Array Value → State → Outcome → State → Prop), MT[mid]? = some M' → 1 ≤ d → M'.2.2.1 ≤ 17 → (rest.map fun v => v.category).sum ≤ 8 → Met l M'.1 (ai_ws M') (ai_rm (d - 1)) (va_Pc vals (fun U => U.heap = H ∧ va_K D vwCl tys U ∧ ai_nj A U)) Qc 0 0 A → va_Run p l e R s m args below meth c H locs cells slots 0 0 (F0 m pc ls stk) rest (Qc vals.toArray) A) :
    W p l e R s m args below meth c H locs cells slots Q (F0 m pc ls stk) := by
  unfold ai_go at hq
  obtain ⟨M', hM', hq⟩ := Option.bind_eq_some_iff.mp hq
  split at hq
  · rename_i hc
    obtain ⟨c1, c2, c3, c4, c5⟩ := hc
    obtain ⟨xs', hxs, hq⟩ := Option.bind_eq_some_iff.mp hq
    split at hq
    · rename_i hrt
      have hrt' : ∀ x ∈ xs', ai_rt M' x = true := fun x hx => List.all_eq_true.mp hrt x hx
      have met := ai_met (L := L) (sx := sx) (w0 := w0) hS hMT hM' c2 hxs hrt' c5 g1 g2 gf g5 g6 g7 hP hD (fun q hq => C.2.2.2.2.2.2.2.1 q (Nat.le_trans hS'.1 hq)) l
      refine ai_callW (row M' _ hM' c1 c3 (by rw [ai_sum gk]; exact c4) met) (fun v0 st₀ t LL h0 hL hQ => ?_)
      obtain ⟨⟨x, hxm, r', lvx, skx, wsx, e1, e2, e3, e4, e5⟩, hF⟩ := hQ
      injection e5 with e5
      subst e5
      rw [ai_rt_short (hrt' x hxm) e2.2.2.2.1]
      split at hq
      · obtain ⟨ys, hy1, hy2⟩ := Option.map_eq_some_iff.mp hq
        subst hy2
        obtain ⟨tt, rfl⟩ := e1
        obtain ⟨y, hym, r2, e1, f1, f2, f3, f4, f5, f6, f7, -⟩ := ai_mgs_ok hn g1 g2 e2 hxm hy1
        exact hk (ai_bk (pc + 3) lo k y) (List.mem_map.mpr ⟨y, hym, rfl⟩) r2 lv (skx ++ rest) wsx t.heap (locs ++ LL) ls (hx.tr e1) ⟨f1, f2, g3.mono e1, f4.join (gk.mono e1), f5, f6, f7, ai_sc1 e1 (by rw [g1.1]; exact hn) g8⟩ e3 e4 (ai_SF hS' h0 hF hL) hl
      · injection hq with hq
        subst hq
        obtain ⟨f1, f2, f3, f4, f5, f6, f7, -⟩ := e2
        exact hk (ai_bk (pc + 3) lo k x) (List.mem_map.mpr ⟨x, hxm, rfl⟩) r' lv (skx ++ rest) wsx t.heap (locs ++ LL) ls (hx.tr e1) ⟨f1, f2, g3.mono e1, f4.join (gk.mono e1), f5, f6, f7, ai_sc1 e1 (by rw [g1.1]; exact hn) g8⟩ e3 e4 (ai_SF hS' h0 hF hL) hl
    · cases hq
  · cases hq
theorem ai_roomOK (C : ai_cx M d p R s m args c D tys A b L sx cells slots) (h1 : 1 ≤ d) {M' : ai_m} (h2 : M'.2.2.1 ≤ 17) : (ai_rm (d - 1)).frames + 1 ≤ R.frames ∧ 8 + (M'.2.2.1 + 11) + (ai_rm (d - 1)).locals ≤ R.locals := by
  have a1 := C.2.2.2.2.2.2.2.2.1.1
  have a2 := C.2.2.2.2.2.2.2.2.1.2.1
  constructor
  · show d - 1 + 1 ≤ _
    omega
  · show 8 + (M'.2.2.1 + 11) + 36 * (d - 1) ≤ _
    omega
theorem ai_Jmm (C : ai_cx M d p R s m args c D tys A b L sx cells slots) {F : List ai_e → List ai_b → ai_v → ai_v → Option ai_q} {f : Int32 → Int32 → Int32} (hO : ai_O2 F (fun _ => True) f) (hn : 1 < en.length) (hq : ai_n2 F pc' lo sk en kn sb = some ss) (hw : (sk.map ai_wd1).sum ≤ 8)
    (row : ∀ (H : Heap) (locs : List Loc) (ls : Array Slot) (rest : List Value) (i j : Int32), ls.size = M.2.2.1 → (rest.map fun v => v.category).sum ≤ 8 → W p l e R s m args below meth c H locs cells slots Q (F0 m pc' ls (.int (f i j) :: rest)) → W p l e R s m args below meth c H locs cells slots Q (F0 m pc ls (.int j :: .int i :: rest)))
    (k : ∀ st ∈ ss, ai_G TY WR w0 ad M p l e R s m args below meth c D tys A b L sx cells slots Q r0 st) : ai_G TY WR w0 ad M p l e R s m args below meth c D tys A b L sx cells slots Q r0 (pc, lo, sk, en, kn, sb) := by
  unfold ai_n2 at hq
  split at hq
  · rename_i y x sk'
    obtain ⟨q, h1, rfl⟩ := Option.map_eq_some_iff.mp hq
    intro r lv skc ws H locs ls hx g hP hD hS hl
    obtain ⟨g1, g2, g3, g4, g5, g6, g7, g8⟩ := g
    obtain ⟨vy, s1, rfl, dy, k4⟩ := g4.cons
    obtain ⟨vx, s2, rfl, dx, k5⟩ := k4.cons
    obtain ⟨i, j, rfl, rfl, -, r', e1, e2, e3, e4⟩ := hO w0 ad b r en sb x y vx vy q g1 g2 dx dy h1
    have hsum := ai_sum k5
    have hw' : (sk'.map ai_wd1).sum ≤ 8 := by
      rw [List.map_cons, List.map_cons, List.sum_cons, List.sum_cons] at hw
      omega
    exact row H locs ls s2 i j hl.1 (by rw [hsum]; exact hw') (k _ (List.mem_singleton.mpr rfl) r' lv _ ws H locs ls (hx.tr e1) ⟨e2, e3, g3.mono e1, ⟨e4, k5.mono e1⟩, g5, g6.mono e1, g7, ai_sc1 e1 (by rw [g1.1]; exact hn) g8⟩ hP hD hS hl)
  · cases hq
theorem ai_call_ok (hS : ai_SR TY WR MT rec) (hMT : ∀ M ∈ MT, ai_mok M ∧ plainName M.1.cls = true) (hML : ∀ q ∈ M.2.2.2.2.2.2.2.2.2.2.1, ai_lok MT M.1.cls q) (C : ai_cx M d p R s m args c D tys A b L sx cells slots) {ins : Instr} {len : Nat} (hn : 1 < en.length) (hd : decode M.2.1 pc = .ok (ins, len)) (hq : ai_call TY WR MT MG rec d M ins len pc lo sk en kn sb = some ss) (k : ∀ st ∈ ss, ai_G TY WR w0 ad M p l e R s m args below meth c D tys A b L sx cells slots Q r0 st) : ai_G TY WR w0 ad M p l e R s m args below meth c D tys A b L sx cells slots Q r0 (pc, lo, sk, en, kn, sb) := by
  unfold ai_call at hq
  split at hq
  · rename_i i
    obtain ⟨q, h1, hq⟩ := Option.bind_eq_some_iff.mp hq
    have h2 := List.find?_some h1
    have h2 := ai_beq.mp h2
    have h3 := hML q (List.mem_of_find?_eq_some h1)
    split at hq
    · rename_i hc
      split at hq
      · rename_i rv k0 hk0
        obtain ⟨t, ht, hq⟩ := Option.bind_eq_some_iff.mp hq
        split at hq
        · rename_i hc2
          unfold ai_lok at h3
          rw [hc.1] at h3
          obtain ⟨M', rr, m1, m2, m3, m4⟩ := h3
          intro r lv skc ws H locs ls hx g hP hD hS' hl
          obtain ⟨g1, g2, g3, g4, g5, g6, g7, g8⟩ := g
          have hsplit : sk = sk.take q.2.2.2.1 ++ (rv :: k0) := by rw [← hk0, List.take_append_drop]
          have g4' : ai_sk ad b r (sk.take q.2.2.2.1 ++ (rv :: k0)) skc := by rw [← hsplit]; exact g4
          obtain ⟨xs1, ys1, rfl, s1, s2⟩ := g4'.app
          obtain ⟨vr, rest, rfl, dr, s3⟩ := s2.cons
          obtain ⟨a, e1, w1, w2, w3⟩ := g5.get ht
          cases ai_ref0 dr hc2.1 w2
          rcases w3 with ⟨-, fs, rfl, -⟩ | ⟨q1, -⟩ | ⟨q1, -⟩ | ⟨q1, -⟩
          · rw [hc2.2.2] at w1
            refine ai_go_ok (vals := .ref a :: xs1.reverse) (rest := rest) hS hMT C hn hq k hx g1 g2 g3 ⟨dr, s1.rev⟩ s3 g5 g6 g7 g8 hP hD hS' hl (fun M2 Qc n1 n2 n3 n4 met => ?_)
            rw [m1] at n1
            cases n1
            have hlen : xs1.reverse.length = q.2.2.2.1 := by
              rw [List.length_reverse, s1.len, List.length_take]
              omega
            exact va_runV (C := rr.1) (As := xs1.reverse) (rest := rest) (Ts := ai_GT) (own := M.1.cls) ⟨C.1, C.2.1, C.2.2.1, C.2.2.2.1, C.2.2.2.2.1⟩ met (cwV q.2.2.2.1 C.2.2.2.2.1 (by rw [← h2]; exact m3) rfl rfl rfl m4 (ai_roomOK C n2 n3)) ⟨ai_PcB, va_recv C.2.2.2.2.2.2.1 hP m2 w1, ai_PcW C hS'⟩ rfl hlen hl.1 (by rw [List.reverse_reverse]) (lv_room n4) hd ⟨C.2.2.2.2.2.2.2.2.1.2.2.1, C.2.2.2.2.2.2.2.2.1.2.2.2⟩
          · omega
          · omega
          · omega
        · cases hq
      · cases hq
    · cases hq
  · rename_i i
    obtain ⟨q, h1, hq⟩ := Option.bind_eq_some_iff.mp hq
    have h2 := List.find?_some h1
    have h2 := ai_beq.mp h2
    have h3 := hML q (List.mem_of_find?_eq_some h1)
    have hrooms := C.2.2.2.2.2.2.2.2.1
    split at hq
    · rename_i hc
      intro r lv skc ws H locs ls hx g hP hD hS' hl
      obtain ⟨g1, g2, g3, g4, g5, g6, g7, g8⟩ := g
      have g4' : ai_sk ad b r (sk.take q.2.2.2.1 ++ sk.drop q.2.2.2.1) skc := by rw [List.take_append_drop]; exact g4
      obtain ⟨xs1, rest, rfl, s1, s3⟩ := g4'.app
      have hlen : xs1.reverse.length = q.2.2.2.1 := by
        rw [List.length_reverse, s1.len, List.length_take]
        omega
      refine ai_go_ok (vals := xs1.reverse) (rest := rest) hS hMT C hn hq k hx g1 g2 g3 s1.rev s3 g5 g6 g7 g8 hP hD hS' hl (fun M2 Qc n1 n2 n3 n4 met => ?_)
      unfold ai_lok at h3
      rcases hc.1 with hk | hk
      · rw [hk] at h3
        obtain ⟨M', m1, m3, m4⟩ := h3
        rw [m1] at n1
        cases n1
        exact va_runS (As := xs1.reverse) (rest := rest) (Ts := ai_GT) (own := M.1.cls) ⟨C.1, C.2.1, C.2.2.1, C.2.2.2.1, C.2.2.2.2.1⟩ met (va_cwS q.2.2.2.1 C.2.2.2.2.1 (by rw [← h2]; exact m3) rfl rfl rfl m4 (ai_roomOK C n2 n3)) ⟨ai_PcB, ai_PcW C hS'⟩ rfl hlen hl.1 (by rw [List.reverse_reverse]) (lv_room n4) hd ⟨hrooms.2.2.1, hrooms.2.2.2⟩
      · rw [hk] at h3
        obtain ⟨M', host, m1, m2, m3, m5, m6, m4⟩ := h3
        rw [m1] at n1
        cases n1
        rw [h2] at m2
        exact va_runSN (As := xs1.reverse) (rest := rest) (Ts := ai_GT) (own := M.1.cls) ⟨C.1, C.2.1, C.2.2.1, C.2.2.2.1, C.2.2.2.2.1⟩ met ⟨va_cnB q.2.2.2.1 C.2.2.2.2.1 m3 rfl rfl rfl (C.2.2.2.2.2.1.1 _ m2) (C.2.2.2.2.1 _ m6) m4 (ai_roomOK C n2 n3), C.2.2.2.2.1 _ m5, trivial⟩ ⟨ai_PcB, ai_PcW C hS'⟩ rfl hlen hl.1 (by rw [List.reverse_reverse]) (lv_room n4) hd ⟨hrooms.2.2.1, hrooms.2.2.2⟩
    · split at hq
      · rename_i hc
        unfold ai_lok at h3
        rw [hc.1] at h3
        obtain ⟨a1, a2, a3, a4⟩ := h3
        rw [h2] at a1
        exact ai_Jmm C ai_min_ok hn hq hc.2.2 (fun H locs ls rest i j hsz hsum kk => va_mmin C.1 C.2.1 (by rw [C.2.2.1, hsz]) C.2.2.2.1 (C.2.2.2.2.1 _ a1) (C.2.2.2.2.1 _ a2) (C.2.2.2.2.1 _ a3) (C.2.2.2.2.1 _ a4) (by omega) (by omega) hrooms.2.2.1 hrooms.2.2.2 hd kk) k
      · split at hq
        · rename_i hc
          unfold ai_lok at h3
          rw [hc.1] at h3
          obtain ⟨a1, a2, a3, a4⟩ := h3
          rw [h2] at a1
          exact ai_Jmm C ai_max_ok hn hq hc.2.2 (fun H locs ls rest i j hsz hsum kk => va_mmax C.1 C.2.1 (by rw [C.2.2.1, hsz]) C.2.2.2.1 (C.2.2.2.2.1 _ a1) (C.2.2.2.2.1 _ a2) (C.2.2.2.2.1 _ a3) (C.2.2.2.2.1 _ a4) (by omega) (by omega) hrooms.2.2.1 hrooms.2.2.2 hd kk) k
        · split at hq
          · rename_i hc
            unfold ai_lok at h3
            obtain ⟨z, hz⟩ : ∃ z, q.2.1 = z + 5 := ⟨q.2.1 - 5, by omega⟩
            rw [hz] at h3
            obtain ⟨a1, a2, a3, a4⟩ := h3
            rw [h2] at a1
            exact ai_ncp_ok C hc.2 a1 a2 a3 a4 hd hq k
          · cases hq
  · cases hq
end AIY
def ai_rs (n0 : Nat) (st : ai_s) : Nat → List (Nat × Nat × Nat × Int × Int × Bool × Bool) → List ai_h
  | _, [] => []
  | j, q :: t => (q.1, q.2.1, q.2.2.1, q.2.2.2.1, q.2.2.2.2.1, q.2.2.2.2.2.1, (if q.2.2.2.2.2.2 = true then (match ai_pv st (q.1, q.2.1, q.2.2.1, 0, 0, false, 0, 0) with
      | some v => (v.2.1, v.2.2.2)
      | none => (n0 + j, 0)) else (n0 + j, 0))) :: ai_rs n0 st (j + 1) t
def ai_nm (n0 : Nat) (k a i : Nat) : Nat → List (Nat × Nat × Nat × Int × Int × Bool × Bool) → Option ai_v
  | _, [] => none
  | j, q :: t => if q.1 = k ∧ q.2.1 = a ∧ q.2.2.1 = i then some (1, n0 + j, 0, 0) else ai_nm n0 k a i (j + 1) t
def ai_hlo (n0 : Nat) (a : ai_a) (lo : List (Nat × ai_v)) : List (Nat × ai_v) := (lo.filter fun q => !(a.2.1.contains q.1)).map fun q => (q.1, (ai_nm n0 0 q.1 0 0 a.1).elim q.2 fun v => (q.2.1, v.2))
def ai_hkn (n0 : Nat) (a : ai_a) (kn : List ai_k) : List ai_k := (kn.filter fun q => decide (ai_lk kn q.1 q.2.1 = some q.2.2) && !(a.2.2.1.any fun w => decide (w.1 = q.1) && decide (w.2.1 ≤ q.2.1) && decide (q.2.1 ≤ w.2.2))).map fun q => (q.1, q.2.1, (ai_nm n0 1 q.1 q.2.1 0 a.1).getD q.2.2)
def ai_isC (i : Instr) : Bool := match i with
  | .invokevirtual _ => true
  | .invokestatic _ => true
  | _ => false
def ai_isR (i : Instr) : Bool := match i with
  | .ireturn => true
  | .lreturn => true
  | .areturn => true
  | .return_ => true
  | _ => false
/-- the fixed tables of a walk: kinds of cells, what may be written, methods, loops, places where a local's values are told apart, methods whose walk is known -/
abbrev ai_K : Type := List ai_c × List (Nat × Nat × Nat) × List ai_m × List (Nat × Nat × Nat) × (Nat → ai_s → Option (List ai_s)) × List ai_g
def ai_one (K : ai_K) (rec : ai_R) (mid d : Nat) (M : ai_m) (ins : Instr) (len : Nat) (cu : List Nat) (st : ai_s) : Option (List ai_s) :=
  (if ai_isC ins = true then ai_call K.1 K.2.1 K.2.2.1 K.2.2.2.2.2 rec d M ins len st.1 st.2.1 st.2.2.1 st.2.2.2.1 st.2.2.2.2.1 st.2.2.2.2.2 else ai_nx K.1 K.2.1 M ins len st.1 st.2.1 st.2.2.1 st.2.2.2.1 st.2.2.2.2.1 st.2.2.2.2.2).bind (ai_all (rec mid M d cu))
def ai_spl (st : ai_s) (v : ai_v) (p : Int × Int) : List ai_s := (List.range ((p.2 - p.1).toNat + 1)).flatMap fun j => match ai_cl st.2.2.2.1 v.2.1 (p.1 + (j : Nat) - v.2.2.2) (p.1 + (j : Nat) - v.2.2.2) with
  | some en' => [(st.1, st.2.1, st.2.2.1, en', st.2.2.2.2.1, st.2.2.2.2.2)]
  | none => []
def ai_sp (st : ai_s) (i : Nat) : Option (List ai_s) := (ai_get st.2.1 i).bind fun v => (ai_i st.2.2.2.1 v).bind fun p => if p.1 = p.2 then none else some (ai_spl st v p)
/-- a list with its rows laid out, for the kernel's sake -/
noncomputable def ai_str {α β : Type} (l : List α) : (List α → β) → β := List.rec (motive := fun _ => (List α → β) → β) (fun k => k []) (fun h _ ih k => ih fun t => k (h :: t)) l
theorem ai_str_eq {α β : Type} (l : List α) : ∀ k : List α → β, ai_str l k = k l := by
  induction l with
  | nil => exact fun _ => rfl
  | cons h t ih => exact fun k => ih (fun t => k (h :: t))
noncomputable def ai_norm {β : Type} (st : ai_s) (k : ai_s → β) : β := ai_str st.2.1 fun lo => ai_str st.2.2.1 fun sk => ai_str st.2.2.2.1 fun en => ai_str st.2.2.2.2.1 fun kn => ai_str st.2.2.2.2.2 fun sb => k (st.1, lo, sk, en, kn, sb)
theorem ai_norm_eq {β : Type} (st : ai_s) (k : ai_s → β) : ai_norm st k = k st := by
  unfold ai_norm
  rw [ai_str_eq, ai_str_eq, ai_str_eq, ai_str_eq, ai_str_eq]
/-- states that come to one place become one: what is old and alike stays, numbers that differ get a new name, all else is forgotten -/
def jn_t (n0 : Nat) (ys : List ai_s) (q : Nat × ai_v) : Nat :=
  if ((decide (q.2.1 = 0) || decide (q.2.1 = 4) || (decide (q.2.2.1 < n0) && decide (q.2.2.2.1 < n0))) && ys.all fun y => decide (ai_get y.2.1 q.1 = some q.2)) = true then 0
  else if ((decide (q.2.1 = 1) || decide (q.2.1 = 2)) && ys.all fun y => (ai_get y.2.1 q.1).any fun w => decide (w.1 = q.2.1)) = true then 1 else 2
def jn_h (n0 : Nat) (ys : List ai_s) : Nat → List (Nat × ai_v) → List ai_h
  | _, [] => []
  | j, q :: t => if Nat.beq (jn_t n0 ys q) 1 = true then (0, q.1, 0, (ai_hu ys fun y => ai_get y.2.1 q.1).1, (ai_hu ys fun y => ai_get y.2.1 q.1).2, false, n0 + j, 0) :: jn_h n0 ys (j + 1) t else jn_h n0 ys j t
def jn_o (n0 : Nat) (ys : List ai_s) : Nat → List (Nat × ai_v) → List (Nat × ai_v)
  | _, [] => []
  | j, q :: t => if Nat.beq (jn_t n0 ys q) 0 = true then q :: jn_o n0 ys j t else if Nat.beq (jn_t n0 ys q) 1 = true then (q.1, (q.2.1, n0 + j, 0, 0)) :: jn_o n0 ys (j + 1) t else jn_o n0 ys j t
def jn_q (n0 : Nat) (ys : List ai_s) (q : ai_k) : Bool := decide (q.2.2.2.1 < n0) && decide (q.2.2.2.2.1 < n0) && ys.all fun x => decide (ai_lk x.2.2.2.2.1 q.1 q.2.1 = some q.2.2)
def jn_p (n0 : Nat) (ys : List ai_s) (kn : List ai_k) : List (Nat × Nat) := (kn.filter fun q => decide (ai_lk kn q.1 q.2.1 = some q.2.2) && !jn_q n0 ys q).map fun q => (q.1, q.2.1)
def jn_1 (go : ai_s → Option (List ai_s)) (tgt : Nat) (st : ai_s) (zs ys : List ai_s) (hs : List ai_h) (lo' : List (Nat × ai_v)) (kn' : List ai_k) : Option (List ai_s) :=
  if (ys.all fun y => ai_lq st.2.2.2.1.length hs (tgt, lo', [], st.2.2.2.1 ++ hs.map ai_en, kn', st.2.2.2.2.2) y) = true then
    (go (tgt, lo', [], st.2.2.2.1 ++ hs.map ai_en, kn', st.2.2.2.2.2)).map fun as => as ++ zs else none
noncomputable def ai_jn (one : List Nat → ai_s → Option (List ai_s)) (go : ai_s → Option (List ai_s)) (tgt : Nat) (cu : List Nat) (st : ai_s) : Option (List ai_s) :=
  (one (tgt :: cu) st).bind fun xs => ai_str (xs.filter fun x => Nat.beq x.1 tgt) fun ys => match ys with
    | [] => some xs
    | y0 :: t => ai_str (jn_h st.2.2.2.1.length (y0 :: t) 0 y0.2.1) fun h1 => ai_str (ai_ki st.2.2.2.1.length st.2.2.2.2.1 (y0 :: t) h1.length (jn_p st.2.2.2.1.length (y0 :: t) y0.2.2.2.2.1)) fun hk =>
      jn_1 go tgt st (xs.filter fun x => !Nat.beq x.1 tgt) (y0 :: t) (h1 ++ hk) (jn_o st.2.2.2.1.length (y0 :: t) 0 y0.2.1) (ai_kk st.2.2.2.1.length h1.length hk ++ y0.2.2.2.2.1.filter (jn_q st.2.2.2.1.length (y0 :: t)))
noncomputable def ai_body0 (K : ai_K) (rec : ai_R) : ai_R := fun mid M d cu st =>
  if cu.any (fun c => Nat.beq c st.1) = true then some [st] else
  match (if (Nat.beq st.1 0 && Nat.ble (ai_gd mid) d) = true then K.2.2.2.2.1 mid st else none) with
  | some xs => some xs
  | none => (M.2.2.2.2.2.1.find? fun q => Nat.beq q.1 st.1).bind fun q =>
    if ai_isR q.2.1 = true then some [(q.1, st.2)]
    else if 1 < st.2.2.2.1.length ∧ ai_z st.2.2.2.1 = true then
      (match (if M.2.2.2.2.1 = true then none else M.2.2.2.2.2.2.2.2.2.2.2.find? fun a => Nat.beq a.1 q.1) with
      | some a => ai_lp (ai_one K rec mid d M q.2.1 q.2.2) cu (q.1, st.2) (ai_rs st.2.2.2.1.length st 0 a.2.1) (ai_hlo st.2.2.2.1.length a.2 st.2.1) (ai_hkn st.2.2.2.1.length a.2 st.2.2.2.2.1) a.2.2.2.2.1 a.2.2.2.2.2
      | none => (match (K.2.2.2.1.find? fun a => Nat.beq a.2.1 q.1 && Nat.beq a.1 mid) with
        | some a => if (Nat.ble 1000 a.2.2 && !M.2.2.2.2.1) = true then ai_jn (ai_one K rec mid d M q.2.1 q.2.2) (rec mid M d cu) (a.2.2 - 1000) cu (q.1, st.2)
          else (match ai_sp (q.1, st.2) a.2.2 with
            | some zs => ai_all (rec mid M d cu) zs
            | none => ai_one K rec mid d M q.2.1 q.2.2 cu (q.1, st.2))
        | none => ai_one K rec mid d M q.2.1 q.2.2 cu (q.1, st.2)))
    else none
noncomputable def ai_body (K : ai_K) (rec : ai_R) : ai_R := fun mid M d cu st => ai_norm st (ai_body0 K rec mid M d cu)
noncomputable def ai_ex (K : ai_K) (n : Nat) : ai_R := Nat.rec (fun _ _ _ _ _ => none) (fun _ rec => ai_body K rec) n
section AIZ
variable {TY : List ai_c} {WR : List (Nat × Nat × Nat)} {w0 : va_W} {ad : List Nat} {M : ai_m} {d : Nat} {p : Program} {l : Launch} {e : Env} {R : Room} {s : State} {m : MethodId} {args : Array Value} {below : List Frame} {meth : Method} {c : Code} {D : va_G} {tys : ai_ty} {A : Nat → Prop} {b L : Nat} {sx : Nat → Int32} {cells slots : Nat} {Q : State → Prop} {r0 : List Int} {K : ai_K} {rec : ai_R}
theorem ai_one_ok (hS : ai_SR K.1 K.2.1 K.2.2.1 rec) (hMT : ∀ M ∈ K.2.2.1, (ai_mok M ∧ plainName M.1.cls = true) ∧ ∀ q ∈ M.2.2.2.2.2.2.2.2.2.2.1, ai_lok K.2.2.1 M.1.cls q) {mid : Nat} (hM : K.2.2.1[mid]? = some M) (C : ai_cx M d p R s m args c D tys A b L sx cells slots) {ins : Instr} {len : Nat} {cu : List Nat} {st : ai_s} {ss : List ai_s} (hn : 1 < st.2.2.2.1.length) (hz : ai_z st.2.2.2.1 = true) (hd : decode M.2.1 st.1 = .ok (ins, len)) (hq : ai_one K rec mid d M ins len cu st = some ss)
    (k : ∀ z ∈ ss, ai_G K.1 K.2.1 w0 ad M p l e R s m args below meth c D tys A b L sx cells slots Q r0 z) : ai_G K.1 K.2.1 w0 ad M p l e R s m args below meth c D tys A b L sx cells slots Q r0 st := by
  obtain ⟨⟨hok, hpl⟩, hML⟩ := hMT M (List.mem_of_getElem? hM)
  unfold ai_one at hq
  obtain ⟨zs, h1, h2⟩ := Option.bind_eq_some_iff.mp hq
  have kz : ∀ z ∈ zs, ai_G K.1 K.2.1 w0 ad M p l e R s m args below meth c D tys A b L sx cells slots Q r0 z := fun z hz => by
    obtain ⟨a, a1, a2⟩ := ai_all_ok h2 z hz
    exact hS mid d cu z a M a1 hM C (fun x hx => k x (a2 x hx))
  split at h1
  · exact ai_call_ok hS (fun M hM => (hMT M hM).1) hML C hn hd h1 kz
  · exact ai_nx_ok C hok hn hz hd h1 kz
theorem ai_sp_ok {i : Nat} {st : ai_s} {zs : List ai_s} (hq : ai_sp st i = some zs) (k : ∀ z ∈ zs, ai_G TY WR w0 ad M p l e R s m args below meth c D tys A b L sx cells slots Q r0 z) : ai_G TY WR w0 ad M p l e R s m args below meth c D tys A b L sx cells slots Q r0 st := by
  unfold ai_sp at hq
  obtain ⟨v, h1, hq⟩ := Option.bind_eq_some_iff.mp hq
  obtain ⟨q, h2, hq⟩ := Option.bind_eq_some_iff.mp hq
  split at hq
  · cases hq
  · injection hq with hq
    subst hq
    intro r lv skc ws H locs ls hx g hP hD hS hl
    obtain ⟨g1, g2, g3, g4, g5, g6, g7, g8⟩ := g
    obtain ⟨n, w, a1, a2⟩ := ai_get_ok g3 h1
    obtain ⟨-, z, i32, i1, rfl, i3, i4, i5⟩ := ai_i_ok g1 a2 h2
    obtain ⟨en1, c1, c2⟩ := ai_cl_ok (lo := q.1 + ((i32.toInt - q.1).toNat : Nat) - v.2.2.2) (hi := q.1 + ((i32.toInt - q.1).toNat : Nat) - v.2.2.2) g1 i1 (by omega) (by omega)
    have hm : ((st.1, st.2.1, st.2.2.1, en1, st.2.2.2.2.1, st.2.2.2.2.2) : ai_s) ∈ ai_spl st v q := by
      unfold ai_spl
      refine List.mem_flatMap.mpr ⟨(i32.toInt - q.1).toNat, List.mem_range.mpr (by omega), ?_⟩
      rw [c1]
      exact List.mem_singleton.mpr rfl
    exact k _ hm r lv skc ws H locs ls hx ⟨c2, g2, g3, g4, g5, g6, g7, g8⟩ hP hD hS hl
theorem ai_jn_ok {one : List Nat → ai_s → Option (List ai_s)} {go : ai_s → Option (List ai_s)} {tgt : Nat} {cu : List Nat} {st : ai_s} {ys : List ai_s} (hone : ∀ (xs : List ai_s) (r1 : List Int), one (tgt :: cu) st = some xs → (∀ x ∈ xs, ai_G TY WR w0 ad M p l e R s m args below meth c D tys A b L sx cells slots Q r1 x) → ai_G TY WR w0 ad M p l e R s m args below meth c D tys A b L sx cells slots Q r1 st) (hgo : ∀ (I : ai_s) (as : List ai_s) (r1 : List Int), go I = some as → (∀ x ∈ as, ai_G TY WR w0 ad M p l e R s m args below meth c D tys A b L sx cells slots Q r1 x) → ai_G TY WR w0 ad M p l e R s m args below meth c D tys A b L sx cells slots Q r1 I) (hn : 1 < st.2.2.2.1.length) (h8 : M.2.2.2.2.1 = true → 8 ≤ st.2.2.2.1.length) (hq : ai_jn one go tgt cu st = some ys) (k : ∀ x ∈ ys, ai_G TY WR w0 ad M p l e R s m args below meth c D tys A b L sx cells slots Q r0 x) : ai_G TY WR w0 ad M p l e R s m args below meth c D tys A b L sx cells slots Q r0 st := by
  unfold ai_jn at hq
  obtain ⟨xs, hxs, hq⟩ := Option.bind_eq_some_iff.mp hq
  rw [ai_str_eq] at hq
  split at hq
  · injection hq with hq
    subst hq
    exact hone xs r0 hxs k
  · rename_i y0 t hf
    rw [ai_str_eq, ai_str_eq] at hq
    obtain ⟨hs, lo', kn', hq⟩ : ∃ (hs : List ai_h) (lo' : List (Nat × ai_v)) (kn' : List ai_k), jn_1 go tgt st (xs.filter fun x => !Nat.beq x.1 tgt) (y0 :: t) hs lo' kn' = some ys := ⟨_, _, _, hq⟩
    unfold jn_1 at hq
    split at hq
    · rename_i hall
      obtain ⟨as, has, hq⟩ := Option.map_eq_some_iff.mp hq
      subst hq
      intro r lv skc ws H locs ls hx g hP hD hS hl
      refine hone xs r hxs (fun x hxx => ?_) r lv skc ws H locs ls ai_x.rf g hP hD hS hl
      by_cases hpc : x.1 = tgt
      · have hxy : x ∈ y0 :: t := by
          rw [← hf]
          exact List.mem_filter.mpr ⟨hxx, ai_beq.mpr hpc⟩
        have hlq := List.all_eq_true.mp hall x hxy
        intro r1 lv1 sk1 ws1 H1 locs1 ls1 hx1 g2 hP1 hD1 hS1 hl1
        obtain ⟨t1, rfl⟩ := hx1
        obtain ⟨vs', lv', a1, a2, a3, a4, -⟩ := ai_lq_ok (I := (tgt, lo', [], st.2.2.2.1 ++ hs.map ai_en, kn', st.2.2.2.2.2)) rfl rfl g.1 rfl hn h8 g.2.1 g2 hlq
        subst a3
        rw [hpc]
        exact hgo _ as (r ++ vs') has (fun z hz => (k z (List.mem_append.mpr (Or.inl hz))).up (hx.tr ⟨vs', rfl⟩)) (r ++ vs') lv' [] ws1 H1 locs1 ls1 ai_x.rf a2 hP1 hD1 hS1 ⟨hl1.1, hl1.2.1, fun q hq => hl1.2.2 q (a4 q hq)⟩
      · refine (k x (List.mem_append.mpr (Or.inr (List.mem_filter.mpr ⟨hxx, ?_⟩)))).up hx
        rw [Bool.not_eq_true']
        exact Bool.eq_false_iff.mpr (fun h => hpc (ai_beq.mp h))
    · cases hq
/-- the methods whose walk is known -/
def ai_SU (K : ai_K) : Prop := ai_SR K.1 K.2.1 K.2.2.1 (fun mid _ d _ st => if (Nat.beq st.1 0 && Nat.ble (ai_gd mid) d) = true then K.2.2.2.2.1 mid st else none)
theorem ai_body_ok (hU : ai_SU K) (hS : ai_SR K.1 K.2.1 K.2.2.1 rec) (hMT : ∀ M ∈ K.2.2.1, (ai_mok M ∧ plainName M.1.cls = true) ∧ ∀ q ∈ M.2.2.2.2.2.2.2.2.2.2.1, ai_lok K.2.2.1 M.1.cls q) : ai_SR K.1 K.2.1 K.2.2.1 (ai_body K rec) := by
  intro mid d cu st ys M hq hM w0 ad p l e R s m args below meth c D tys A b L sx cells slots Q r0 C k
  unfold ai_body at hq
  rw [ai_norm_eq] at hq
  unfold ai_body0 at hq
  split at hq
  · injection hq with hq
    subst hq
    exact k _ (List.mem_singleton.mpr rfl)
  · split at hq
    · rename_i xs hxs
      injection hq with hq
      subst hq
      exact hU mid d cu st xs M hxs hM C k
    · obtain ⟨q, h1, hq⟩ := Option.bind_eq_some_iff.mp hq
      have h2 := List.find?_some h1
      have h2 := ai_beq.mp h2
      have hd := (hMT M (List.mem_of_getElem? hM)).1.1.1 q (List.mem_of_find?_eq_some h1)
      have est : ((q.1, st.2) : ai_s) = st := by rw [h2]
      split at hq
      · injection hq with hq
        subst hq
        rw [← est]
        exact k _ (List.mem_singleton.mpr rfl)
      · split at hq
        · rename_i hc
          split at hq
          · rename_i a ha
            rw [← est]
            exact ai_lp_ok (st := (q.1, st.2)) (fun xs r1 hxs kx => ai_one_ok hS hMT hM C (by
                show 1 < (st.2.2.2.1 ++ _).length
                rw [List.length_append]
                have := hc.1
                omega) (by
                show ai_z (st.2.2.2.1 ++ _) = true
                have hz := hc.2
                unfold ai_z at hz ⊢
                rw [List.getElem?_append_left (by have := hc.1; omega)]
                exact hz) hd hxs kx) hc.1 (fun hsc => by rw [if_pos hsc] at ha; cases ha) hq k
          · split at hq
            · split at hq
              · rename_i hj
                rw [Bool.and_eq_true, Bool.not_eq_true'] at hj
                rw [← est]
                exact ai_jn_ok (st := (q.1, st.2)) (fun xs r1 hxs kx => ai_one_ok (st := (q.1, st.2)) hS hMT hM C hc.1 hc.2 hd hxs kx) (fun I as r1 has kx => hS mid d cu I as M has hM C kx) hc.1 (fun hsc => by rw [hj.2] at hsc; cases hsc) hq k
              · split at hq
                · rename_i zs hz2
                  rw [← est]
                  refine ai_sp_ok hz2 (fun z hz => ?_)
                  obtain ⟨a', a1, a2⟩ := ai_all_ok hq z hz
                  exact hS mid d cu z a' M a1 hM C (fun x hx => k x (a2 x hx))
                · rw [← est]
                  exact ai_one_ok (st := (q.1, st.2)) hS hMT hM C hc.1 hc.2 hd hq k
            · rw [← est]
              exact ai_one_ok (st := (q.1, st.2)) hS hMT hM C hc.1 hc.2 hd hq k
        · cases hq
theorem ai_ex_ok (hU : ai_SU K) (hMT : ∀ M ∈ K.2.2.1, (ai_mok M ∧ plainName M.1.cls = true) ∧ ∀ q ∈ M.2.2.2.2.2.2.2.2.2.2.1, ai_lok K.2.2.1 M.1.cls q) : ∀ n, ai_SR K.1 K.2.1 K.2.2.1 (ai_ex K n)
  | 0 => fun mid d cu st ys M hq => by cases hq
  | n + 1 => ai_body_ok hU (ai_ex_ok hU hMT n) hMT
end AIZ
end
