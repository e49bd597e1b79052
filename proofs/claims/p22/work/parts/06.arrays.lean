/-! arrays -/
/-- the hull of the bounds of the elements lo .. lo + k -/
def ai_hl (pat : List ai_f) (lo : Nat) : Nat → Option (Int × Int)
  | 0 => (ai_pt pat lo).map fun q => (q.2.2.1, q.2.2.2)
  | k + 1 => (ai_hl pat lo k).bind fun w => (ai_pt pat (lo + (k + 1))).map fun q => (min w.1 q.2.2.1, max w.2 q.2.2.2)
theorem ai_hl_ok {pat : List ai_f} {lo : Nat} : ∀ {k : Nat} {w : Int × Int}, ai_hl pat lo k = some w → ∀ j, lo ≤ j → j ≤ lo + k → ∃ q, ai_pt pat j = some q ∧ w.1 ≤ q.2.2.1 ∧ q.2.2.2 ≤ w.2
  | 0, w, h, j, h1, h2 => by
    have e : j = lo := by omega
    subst e
    obtain ⟨q, hq, rfl⟩ := Option.map_eq_some_iff.mp (show (ai_pt pat j).map _ = some w from h)
    exact ⟨q, hq, Int.le_refl _, Int.le_refl _⟩
  | k + 1, w, h, j, h1, h2 => by
    obtain ⟨v, hv, h⟩ := Option.bind_eq_some_iff.mp (show (ai_hl pat lo k).bind _ = some w from h)
    obtain ⟨q, hq, rfl⟩ := Option.map_eq_some_iff.mp h
    by_cases hj : j = lo + (k + 1)
    · subst hj
      exact ⟨q, hq, by dsimp only; omega, by dsimp only; omega⟩
    · obtain ⟨q', h3, h4, h5⟩ := ai_hl_ok hv j h1 (by omega)
      exact ⟨q', h3, by dsimp only; omega, by dsimp only; omega⟩
/-- all the elements lo .. lo + k take what lies within p -/
def ai_ft (pat : List ai_f) (p : Int × Int) (lo : Nat) : Nat → Bool
  | 0 => (ai_pt pat lo).all fun q => decide (q.2.2.1 ≤ p.1) && decide (p.2 ≤ q.2.2.2)
  | k + 1 => ((ai_pt pat (lo + (k + 1))).all fun q => decide (q.2.2.1 ≤ p.1) && decide (p.2 ≤ q.2.2.2)) && ai_ft pat p lo k
theorem ai_ft_ok {pat : List ai_f} {p : Int × Int} {lo : Nat} : ∀ {k : Nat}, ai_ft pat p lo k = true → ∀ (j : Nat) (q : ai_f), lo ≤ j → j ≤ lo + k → ai_pt pat j = some q → q.2.2.1 ≤ p.1 ∧ p.2 ≤ q.2.2.2
  | 0, h, j, q, h1, h2, h3 => by
    have e : j = lo := by omega
    subst e
    have h : ((ai_pt pat j).all fun q => decide (q.2.2.1 ≤ p.1) && decide (p.2 ≤ q.2.2.2)) = true := h
    rw [h3] at h
    simpa using h
  | k + 1, h, j, q, h1, h2, h3 => by
    have h : (((ai_pt pat (lo + (k + 1))).all fun q => decide (q.2.2.1 ≤ p.1) && decide (p.2 ≤ q.2.2.2)) && ai_ft pat p lo k) = true := h
    rw [Bool.and_eq_true] at h
    by_cases hj : j = lo + (k + 1)
    · subst hj
      have h := h.1
      rw [h3] at h
      simpa using h
    · exact ai_ft_ok h.2 j q h1 (by omega) h3
def ai_hull (pat : List ai_f) (lo k : Nat) : Option (Int × Int) := if pat.length = 1 then ai_hl pat 0 0 else ai_hl pat lo k
theorem ai_hull_ok {pat : List ai_f} {lo k : Nat} {w : Int × Int} (h : ai_hull pat lo k = some w) (j : Nat) (h1 : lo ≤ j) (h2 : j ≤ lo + k) : ∃ q, ai_pt pat j = some q ∧ w.1 ≤ q.2.2.1 ∧ q.2.2.2 ≤ w.2 := by
  unfold ai_hull at h
  split at h
  · rename_i hl
    obtain ⟨q, a1, a2, a3⟩ := ai_hl_ok h 0 (by omega) (by omega)
    have e0 : ai_pt pat 0 = ai_pt pat j := by
      unfold ai_pt
      rw [hl, Nat.mod_one, Nat.mod_one]
    exact ⟨q, e0.symm.trans a1, a2, a3⟩
  · exact ai_hl_ok h j h1 h2
def ai_fit (pat : List ai_f) (p : Int × Int) (lo k : Nat) : Bool := if pat.length = 1 then ai_ft pat p 0 0 else ai_ft pat p lo k
theorem ai_fit_ok {pat : List ai_f} {p : Int × Int} {lo k : Nat} (h : ai_fit pat p lo k = true) (j : Nat) (q : ai_f) (h1 : lo ≤ j) (h2 : j ≤ lo + k) (h3 : ai_pt pat j = some q) : q.2.2.1 ≤ p.1 ∧ p.2 ≤ q.2.2.2 := by
  unfold ai_fit at h
  split at h
  · rename_i hl
    have e0 : ai_pt pat 0 = ai_pt pat j := by
      unfold ai_pt
      rw [hl, Nat.mod_one, Nat.mod_one]
    exact ai_ft_ok h 0 q (by omega) (by omega) (e0.trans h3)
  · exact ai_ft_ok h j q h1 h2 h3
theorem ai_idx {i : Int32} {lo hi : Int} {n : Nat} (h1 : lo ≤ i.toInt) (h2 : i.toInt ≤ hi) (h3 : 0 ≤ lo) (h4 : hi < n) : vp_in i n ∧ lo.toNat ≤ i.toNatClampNeg ∧ i.toNatClampNeg ≤ lo.toNat + (hi.toNat - lo.toNat) ∧ i.toNatClampNeg < n := by
  have h : vp_in i n := vp_in_iff.mpr ⟨by omega, by omega⟩
  have e : (i.toNatClampNeg : Int) = i.toInt := by
    show ((i.toInt.toNat : Nat) : Int) = i.toInt
    omega
  exact ⟨h, by omega, by omega, by omega⟩
/-- an element read -/
def ai_ra (TY : List ai_c) (en : List ai_e) (kn : List ai_k) (tg c : Nat) (iv : ai_v) : Option (List ai_e × List ai_k × ai_v) :=
  (TY[c]?).bind fun t => (ai_i en iv).bind fun p => if t.1 = tg ∧ 0 ≤ p.1 ∧ p.2 < t.2.1 then
    (if p.1 = p.2 then (match ai_lk kn c p.1.toNat with
      | some v => some (en, kn, v)
      | none => (ai_hull t.2.2 p.1.toNat 0).map fun w => (ai_nu en w.1 w.2, (c, p.1.toNat, (1, en.length, 0, 0)) :: kn, (1, en.length, 0, 0)))
    else (ai_hull t.2.2 p.1.toNat (p.2.toNat - p.1.toNat)).map fun w => (ai_nu en w.1 w.2, kn, (1, en.length, 0, 0))) else none
theorem ai_ra_ok {TY : List ai_c} {ad : List Nat} {b : Nat} {tys : ai_ty} {r : List Int} {ws : va_W} {en : List ai_e} {kn : List ai_k} {tg c : Nat} {iv : ai_v} {vi : Value} {q : List ai_e × List ai_k × ai_v} (htg : tg = 1 ∨ tg = 2) (h : ai_ok r en) (hw : ai_wd TY ad tys ws) (hk : ai_kn ad b r ws kn) (hv : ai_dv ad b r iv vi) (hq : ai_ra TY en kn tg c iv = some q) :
    ∃ (a : Nat) (cA : ClassId) (n : Nat) (f : Nat → Int32) (i : Int32), vi = .int i ∧ ws[c]? = some (a, .inl (cA, n, .inl f)) ∧ ad[c]? = some a ∧ ai_hasT tys cA (ai_ety tg) ∧ vp_in i n ∧ ∃ r', ai_x r r' ∧ ai_ok r' q.1 ∧ ai_kn ad b r' ws q.2.1 ∧ ai_dv ad b r' q.2.2 (.int (f i.toNatClampNeg)) := by
  unfold ai_ra at hq
  obtain ⟨t, ht, hq⟩ := Option.bind_eq_some_iff.mp hq
  obtain ⟨p, hp, hq⟩ := Option.bind_eq_some_iff.mp hq
  obtain ⟨-, z, i, -, rfl, -, i1, i2⟩ := ai_i_ok h hv hp
  split at hq
  · rename_i hc
    obtain ⟨c1, c2, c3⟩ := hc
    obtain ⟨a, e, w1, w2, w3⟩ := hw.get ht
    rcases w3 with ⟨q1, -⟩ | ⟨-, cA, f, rfl, g1, g2⟩ | ⟨q1, -⟩ | ⟨q1, -⟩
    · omega
    · obtain ⟨x1, x2, x3, x4⟩ := ai_idx i1 i2 c2 c3
      rw [c1] at g1
      refine ⟨a, cA, t.2.1, f, i, rfl, w1, w2, g1, x1, ?_⟩
      have hsl : ai_sl ws c i.toNatClampNeg (.int (f i.toNatClampNeg)) := ⟨a, _, w1, Or.inr ⟨cA, t.2.1, f, rfl, x4, rfl⟩⟩
      have hd : ai_dv ad b (r ++ [(f i.toNatClampNeg).toInt]) (1, en.length, 0, 0) (.int (f i.toNatClampNeg)) := Or.inr (Or.inl ⟨rfl, _, _, ai_last h.1, rfl, by show (f i.toNatClampNeg).toInt = (f i.toNatClampNeg).toInt + 0; omega⟩)
      split at hq
      · rename_i hpp
        have hi : i.toNatClampNeg = p.1.toNat := by omega
        split at hq
        · rename_i v hv'
          cases hq
          obtain ⟨y, y1, y2⟩ := ai_lk_ok hk hv'
          rw [← hi] at y1
          rw [hsl.fun y1]
          exact ⟨r, ai_x.rf, h, hk, y2⟩
        · obtain ⟨w, hw', rfl⟩ := Option.map_eq_some_iff.mp hq
          obtain ⟨qq, k1, k2, k3⟩ := ai_hull_ok hw' i.toNatClampNeg (by omega) (by omega)
          have := g2 _ _ x4 k1
          refine ⟨r ++ [(f i.toNatClampNeg).toInt], ai_x.push, h.nu (by omega) (by omega), ?_, hd⟩
          intro k hkm
          rcases List.mem_cons.mp hkm with rfl | hkm
          · exact ⟨_, by rw [← hi]; exact hsl, hd⟩
          · exact hk.mono ai_x.push k hkm
      · obtain ⟨w, hw', rfl⟩ := Option.map_eq_some_iff.mp hq
        obtain ⟨qq, k1, k2, k3⟩ := ai_hull_ok hw' i.toNatClampNeg (by omega) (by omega)
        have := g2 _ _ x4 k1
        exact ⟨r ++ [(f i.toNatClampNeg).toInt], ai_x.push, h.nu (by omega) (by omega), hk.mono ai_x.push, hd⟩
    · omega
    · omega
  · cases hq
/-- an element written -/
def ai_wa (TY : List ai_c) (WR : List (Nat × Nat × Nat)) (en : List ai_e) (kn : List ai_k) (tg c : Nat) (iv v : ai_v) : Option (List ai_k) :=
  (TY[c]?).bind fun t => (ai_i en iv).bind fun p => (ai_i en v).bind fun w =>
    if t.1 = tg ∧ 0 ≤ p.1 ∧ p.2 < t.2.1 ∧ ai_wr WR c p.1.toNat p.2.toNat = true ∧ ai_fit t.2.2 w p.1.toNat (p.2.toNat - p.1.toNat) = true ∧ (tg = 1 ∨ (0 ≤ w.1 ∧ w.2 ≤ 1)) then
      some (if p.1 = p.2 then (c, p.1.toNat, v) :: ai_dr kn c p.1.toNat p.2.toNat else ai_dr kn c p.1.toNat p.2.toNat) else none
theorem ai_upd_ne {f : Nat → Int32} {k j : Nat} {x : Int32} (h : j ≠ k) : upd f k x j = f j := pk_un h
theorem ai_wa_ok {TY : List ai_c} {WR : List (Nat × Nat × Nat)} {ad : List Nat} {b : Nat} {tys : ai_ty} {r : List Int} {w0 ws : va_W} {en : List ai_e} {kn kn' : List ai_k} {tg c : Nat} {iv v : ai_v} {vi x : Value} (htg : tg = 1 ∨ tg = 2) (h : ai_ok r en) (hw : ai_wd TY ad tys ws) (hk : ai_kn ad b r ws kn) (hfr : ai_fr WR w0 ws) (hi : ai_dv ad b r iv vi) (hv : ai_dv ad b r v x) (hq : ai_wa TY WR en kn tg c iv v = some kn') :
    ∃ (a : Nat) (cA : ClassId) (n : Nat) (f : Nat → Int32) (i j : Int32), vi = .int i ∧ x = .int j ∧ ws[c]? = some (a, .inl (cA, n, .inl f)) ∧ ad[c]? = some a ∧ ai_hasT tys cA (ai_ety tg) ∧ vp_in i n ∧ (tg = 1 ∨ (0 ≤ j.toInt ∧ j.toInt ≤ 1)) ∧
      ai_wd TY ad tys (ws.set c (a, .inl (cA, n, .inl (upd f i.toNatClampNeg j)))) ∧ ai_kn ad b r (ws.set c (a, .inl (cA, n, .inl (upd f i.toNatClampNeg j)))) kn' ∧ ai_fr WR w0 (ws.set c (a, .inl (cA, n, .inl (upd f i.toNatClampNeg j)))) := by
  unfold ai_wa at hq
  obtain ⟨t, ht, hq⟩ := Option.bind_eq_some_iff.mp hq
  obtain ⟨p, hp, hq⟩ := Option.bind_eq_some_iff.mp hq
  obtain ⟨w, hw', hq⟩ := Option.bind_eq_some_iff.mp hq
  obtain ⟨-, z, i, -, rfl, -, i1, i2⟩ := ai_i_ok h hi hp
  obtain ⟨-, z2, j, -, rfl, -, j1, j2⟩ := ai_i_ok h hv hw'
  split at hq
  · rename_i hc
    obtain ⟨c1, c2, c3, c4, c5, c6⟩ := hc
    obtain ⟨a, e, w1, w2, w3⟩ := hw.get ht
    rcases w3 with ⟨q1, -⟩ | ⟨t0, cA, f, rfl, g1, g2⟩ | ⟨q1, -⟩ | ⟨q1, -⟩
    · omega
    · obtain ⟨x1, x2, x3, x4⟩ := ai_idx i1 i2 c2 c3
      have hl : c < ws.length := (List.getElem?_eq_some_iff.mp w1).1
      have hd : ai_kn ad b r (ws.set c (a, .inl (cA, t.2.1, .inl (upd f i.toNatClampNeg j)))) (ai_dr kn c p.1.toNat p.2.toNat) := fun q hq => by
        obtain ⟨m1, m2⟩ := ai_dr_in hq
        obtain ⟨y, y1, y2⟩ := hk q m1
        exact ⟨y, y1.setA (j := 0) w1 (fun hcc _ => ai_upd_ne (by have := m2 hcc; omega)), y2⟩
      refine ⟨a, cA, t.2.1, f, i, j, rfl, rfl, w1, w2, by rw [← c1]; exact g1, x1, ?_, ?_, ?_, ?_⟩
      · rcases c6 with c6 | c6
        · exact Or.inl c6
        · exact Or.inr ⟨by omega, by omega⟩
      · refine hw.set ht w1 (Or.inr (Or.inl ⟨t0, cA, _, rfl, g1, fun k q hk1 hk2 => ?_⟩))
        by_cases hki : k = i.toNatClampNeg
        · subst hki
          have := ai_fit_ok c5 _ q (by omega) (by omega) hk2
          rw [pk_us]
          omega
        · rw [ai_upd_ne hki]
          exact g2 k q hk1 hk2
      · cases hq
        split
        · rename_i hpp
          intro q hq
          rcases List.mem_cons.mp hq with rfl | hq
          · refine ⟨.int j, ⟨a, _, List.getElem?_set_self hl, Or.inr ⟨cA, _, _, rfl, by show p.1.toNat < _; omega, ?_⟩⟩, hv⟩
            show _ = Value.int (upd f _ _ p.1.toNat)
            rw [show p.1.toNat = i.toNatClampNeg by omega, pk_us]
          · exact hd q hq
        · exact hd
      · intro c' i' y hy h0
        refine (hfr c' i' y hy h0).setA (j := 0) w1 (fun hcc _ => ai_upd_ne (fun hii => ?_))
        subst hcc
        subst hii
        rw [ai_wr_in c4 (by omega) (by omega)] at hy
        cases hy
    · omega
    · omega
  · cases hq
