/-! the cells, each of a fixed kind: (0, its class, its fields), (1, its length, its elements' bounds, as often as wanted) of ints, (2, ..) of booleans, (3, length, -) of longs, (4, length, rows) -/
abbrev ai_f : Type := Nat × Nat × Int × Int
abbrev ai_ty : Type := List (ClassId × FieldType)
def ai_fd (ad : List Nat) (f : ai_f) (x : Value) : Prop :=
  (f.1 = 0 ∧ ∃ q, ad[f.2.1]? = some q ∧ x = .ref q) ∨ (f.1 = 1 ∧ ∃ i : Int32, x = .int i ∧ f.2.2.1 ≤ i.toInt ∧ i.toInt ≤ f.2.2.2) ∨ (f.1 = 2 ∧ ∃ i : Int64, x = .long i)
def ai_hasT (tys : ai_ty) (cA : ClassId) (ty : FieldType) : Prop := ∃ k : Nat, tys[k]? = some (cA, ty)
def ai_pt (pat : List ai_f) (i : Nat) : Option ai_f := pat[i % pat.length]?
def ai_ety (n : Nat) : FieldType := if n = 1 then .int else .boolean
def ai_ce (ad : List Nat) (tys : ai_ty) (t : ai_c) (e : va_E) : Prop :=
  (t.1 = 0 ∧ ∃ fs : List Value, e = .inr (t.2.1, fs) ∧ fs.length = t.2.2.length ∧ ∀ (i : Nat) (f : ai_f), t.2.2[i]? = some f → ∃ x, fs[i]? = some x ∧ ai_fd ad f x) ∨
  ((t.1 = 1 ∨ t.1 = 2) ∧ ∃ (cA : ClassId) (f : Nat → Int32), e = .inl (cA, t.2.1, .inl f) ∧ ai_hasT tys cA (ai_ety t.1) ∧ ∀ (i : Nat) (q : ai_f), i < t.2.1 → ai_pt t.2.2 i = some q → q.2.2.1 ≤ (f i).toInt ∧ (f i).toInt ≤ q.2.2.2) ∨
  (t.1 = 3 ∧ ∃ (cA : ClassId) (f : Nat → Int64), e = .inl (cA, t.2.1, .inr (.inl f)) ∧ ai_hasT tys cA .long) ∨
  (t.1 = 4 ∧ ∃ (cA : ClassId) (f : Nat → Option Nat), e = .inl (cA, t.2.1, .inr (.inr (.inr (.inr f)))) ∧ ai_hasT tys cA (.array .int) ∧ ∀ (i : Nat) (q : ai_f), t.2.2[i]? = some q → ∃ a, ad[q.2.1]? = some a ∧ f i = some a)
def ai_wd (TY : List ai_c) (ad : List Nat) (tys : ai_ty) (ws : va_W) : Prop :=
  ws.length = TY.length ∧ ad.length = TY.length ∧ (∀ (k : Nat) (q : Nat × va_E), ws[k]? = some q → ad[k]? = some q.1) ∧ ∀ (k : Nat) (t : ai_c) (q : Nat × va_E), TY[k]? = some t → ws[k]? = some q → ai_ce ad tys t q.2
theorem ai_wd.get {TY : List ai_c} {ad : List Nat} {tys : ai_ty} {ws : va_W} (h : ai_wd TY ad tys ws) {c : Nat} {t : ai_c} (ht : TY[c]? = some t) : ∃ (a : Nat) (e : va_E), ws[c]? = some (a, e) ∧ ad[c]? = some a ∧ ai_ce ad tys t e := by
  have hl : c < ws.length := by rw [h.1]; exact (List.getElem?_eq_some_iff.mp ht).1
  have h1 := List.getElem?_eq_getElem hl
  exact ⟨ws[c].1, ws[c].2, h1, h.2.2.1 _ _ h1, h.2.2.2 _ _ _ ht h1⟩
theorem ai_wd.set {TY : List ai_c} {ad : List Nat} {tys : ai_ty} {ws : va_W} (h : ai_wd TY ad tys ws) {c a : Nat} {t : ai_c} {e e' : va_E} (ht : TY[c]? = some t) (hc : ws[c]? = some (a, e)) (he : ai_ce ad tys t e') : ai_wd TY ad tys (ws.set c (a, e')) := by
  have hl : c < ws.length := (List.getElem?_eq_some_iff.mp hc).1
  refine ⟨by simp [h.1], h.2.1, fun k q hq => ?_, fun k t' q hk hq => ?_⟩
  · by_cases hk : c = k
    · subst hk
      rw [List.getElem?_set_self hl] at hq
      cases hq
      exact h.2.2.1 c (a, e) hc
    · rw [List.getElem?_set_ne hk] at hq
      exact h.2.2.1 k q hq
  · by_cases hck : c = k
    · subst hck
      rw [List.getElem?_set_self hl] at hq
      cases hq
      rw [ht] at hk
      cases hk
      exact he
    · rw [List.getElem?_set_ne hck] at hq
      exact h.2.2.2 k t' q hk hq
/-- what stands at a place of a cell -/
def ai_sl (ws : va_W) (c i : Nat) (x : Value) : Prop := ∃ (a : Nat) (e : va_E), ws[c]? = some (a, e) ∧ ((∃ (ci : Nat) (fs : List Value), e = .inr (ci, fs) ∧ fs[i]? = some x) ∨ ∃ (cA : ClassId) (n : Nat) (f : Nat → Int32), e = .inl (cA, n, .inl f) ∧ i < n ∧ x = .int (f i))
theorem fx_o_sl {w : va_W} {c i : Nat} {t : Int} (h : fx_o w c i = some t) : ∃ j : Int32, ai_sl w c i (.int j) ∧ j.toInt = t := by
  unfold fx_o at h
  split at h
  · rename_i a cA n f hw
    split at h
    · rename_i hi
      injection h with h
      exact ⟨f i, ⟨a, _, hw, Or.inr ⟨cA, n, f, rfl, hi, rfl⟩⟩, h⟩
    · cases h
  · cases h
theorem fx_sl_o {w : va_W} {c i : Nat} {j : Int32} (h : ∃ (a : Nat) (cA : ClassId) (n : Nat) (f : Nat → Int32), w[c]? = some (a, .inl (cA, n, .inl f)) ∧ i < n ∧ f i = j) : fx_o w c i = some j.toInt := by
  obtain ⟨a, cA, n, f, h1, h2, h3⟩ := h
  unfold fx_o
  rw [h1]
  show (if i < n then some (f i).toInt else none) = _
  rw [if_pos h2, h3]
theorem ai_sl.fun {ws : va_W} {c i : Nat} {x y : Value} (h : ai_sl ws c i x) (k : ai_sl ws c i y) : x = y := by
  obtain ⟨a, e, h1, h2⟩ := h
  obtain ⟨a', e', k1, k2⟩ := k
  rw [h1] at k1
  cases k1
  rcases h2 with ⟨ci, fs, rfl, h2⟩ | ⟨cA, n, f, rfl, h2, h3⟩
  · rcases k2 with ⟨ci', fs', q, k2⟩ | ⟨_, _, _, q, _⟩
    · cases q
      rw [h2] at k2
      cases k2
      rfl
    · cases q
  · rcases k2 with ⟨_, _, q, _⟩ | ⟨_, _, _, q, k2, k3⟩
    · cases q
    · cases q
      rw [h3, k3]
theorem ai_sl.setF {ws : va_W} {c i a ci : Nat} {fs : List Value} {v : Value} (hc : ws[c]? = some (a, .inr (ci, fs))) {c' i' : Nat} {x : Value} (h : ai_sl ws c' i' x) (hne : c' = c → i' ≠ i) : ai_sl (ws.set c (a, .inr (ci, fs.set i v))) c' i' x := by
  have hl : c < ws.length := (List.getElem?_eq_some_iff.mp hc).1
  obtain ⟨a', e', h1, h2⟩ := h
  by_cases hk : c' = c
  · subst hk
    rw [hc] at h1
    cases h1
    rcases h2 with ⟨_, _, q, h2⟩ | ⟨_, _, _, q, _⟩
    · cases q
      refine ⟨a, _, List.getElem?_set_self hl, Or.inl ⟨ci, _, rfl, ?_⟩⟩
      rw [List.getElem?_set_ne (Ne.symm (hne rfl))]
      exact h2
    · cases q
  · exact ⟨a', e', by rw [List.getElem?_set_ne (fun q => hk q.symm)]; exact h1, h2⟩
theorem ai_sl.setA {ws : va_W} {c j a n : Nat} {cA : ClassId} {f g : Nat → Int32} (hc : ws[c]? = some (a, .inl (cA, n, .inl f))) {c' i' : Nat} {x : Value} (h : ai_sl ws c' i' x) (hne : c' = c → i' < n → g i' = f i') : ai_sl (ws.set c (a, .inl (cA, n, .inl g))) c' i' x := by
  have hl : c < ws.length := (List.getElem?_eq_some_iff.mp hc).1
  obtain ⟨a', e', h1, h2⟩ := h
  by_cases hk : c' = c
  · subst hk
    rw [hc] at h1
    cases h1
    rcases h2 with ⟨_, _, q, h2⟩ | ⟨_, _, _, q, h2, h3⟩
    · cases q
    · cases q
      exact ⟨a, _, List.getElem?_set_self hl, Or.inr ⟨cA, n, g, rfl, h2, by rw [hne rfl h2]; exact h3⟩⟩
  · exact ⟨a', e', by rw [List.getElem?_set_ne (fun q => hk q.symm)]; exact h1, h2⟩
theorem ai_sl.setL {ws : va_W} {c a n : Nat} {cA : ClassId} {f g : Nat → Int64} (hc : ws[c]? = some (a, .inl (cA, n, .inr (.inl f)))) {c' i' : Nat} {x : Value} (h : ai_sl ws c' i' x) : ai_sl (ws.set c (a, .inl (cA, n, .inr (.inl g)))) c' i' x := by
  have hl : c < ws.length := (List.getElem?_eq_some_iff.mp hc).1
  obtain ⟨a', e', h1, h2⟩ := h
  by_cases hk : c' = c
  · subst hk
    rw [hc] at h1
    cases h1
    rcases h2 with ⟨_, _, q, h2⟩ | ⟨_, _, _, q, h2, h3⟩
    · cases q
    · cases q
  · exact ⟨a', e', by rw [List.getElem?_set_ne (fun q => hk q.symm)]; exact h1, h2⟩
def ai_kn (ad : List Nat) (b : Nat) (r : List Int) (ws : va_W) (kn : List ai_k) : Prop := ∀ q ∈ kn, ∃ x, ai_sl ws q.1 q.2.1 x ∧ ai_dv ad b r q.2.2 x
theorem ai_kn.mono {ad : List Nat} {b : Nat} {r r' : List Int} {ws : va_W} {kn : List ai_k} (h : ai_kn ad b r ws kn) (e : ai_x r r') : ai_kn ad b r' ws kn := fun q hq => by
  obtain ⟨x, h1, h2⟩ := h q hq
  exact ⟨x, h1, h2.mono e⟩
/-- the places that may be written; nothing else changes -/
def ai_wr (WR : List (Nat × Nat × Nat)) (c lo hi : Nat) : Bool := WR.any fun q => (decide (q.1 = c) || decide (q.1 = 1000)) && decide (q.2.1 ≤ lo) && decide (hi < q.2.2)
def ai_fr (WR : List (Nat × Nat × Nat)) (w0 ws : va_W) : Prop := ∀ (c i : Nat) (x : Value), ai_wr WR c i i = false → ai_sl w0 c i x → ai_sl ws c i x
theorem ai_wr_in {WR : List (Nat × Nat × Nat)} {c lo hi i : Nat} (h : ai_wr WR c lo hi = true) (h1 : lo ≤ i) (h2 : i ≤ hi) : ai_wr WR c i i = true := by
  unfold ai_wr at *
  obtain ⟨q, hq, h⟩ := List.any_eq_true.mp h
  simp only [Bool.and_eq_true, Bool.or_eq_true, decide_eq_true_eq] at h
  exact List.any_eq_true.mpr ⟨q, hq, by simp only [Bool.and_eq_true, Bool.or_eq_true, decide_eq_true_eq]; omega⟩
/-- what is known of a place -/
def ai_lk (kn : List ai_k) (c i : Nat) : Option ai_v := (kn.find? fun q => Nat.beq q.2.1 i && Nat.beq q.1 c).map fun q => q.2.2
theorem ai_lk_ok {ad : List Nat} {b : Nat} {r : List Int} {ws : va_W} {kn : List ai_k} (h : ai_kn ad b r ws kn) {c i : Nat} {v : ai_v} (hv : ai_lk kn c i = some v) : ∃ x, ai_sl ws c i x ∧ ai_dv ad b r v x := by
  unfold ai_lk at hv
  obtain ⟨q, hq, rfl⟩ := Option.map_eq_some_iff.mp hv
  have hm := List.mem_of_find?_eq_some hq
  have hp := List.find?_some hq
  simp only [Bool.and_eq_true, ai_beq] at hp
  obtain ⟨x, h1, h2⟩ := h q hm
  rw [hp.2, hp.1] at h1
  exact ⟨x, h1, h2⟩
/-- a field read -/
def ai_rd (TY : List ai_c) (en : List ai_e) (kn : List ai_k) (ci c i : Nat) : Option (List ai_e × List ai_k × ai_v) :=
  (TY[c]?).bind fun t => if t.1 = 0 ∧ t.2.1 = ci then (t.2.2[i]?).bind fun f =>
    if f.1 = 0 then some (en, kn, (0, f.2.1, 0, 0))
    else if f.1 = 1 then (match ai_lk kn c i with
      | some v => some (en, kn, v)
      | none => some (ai_nu en f.2.2.1 f.2.2.2, (c, i, (1, en.length, 0, 0)) :: kn, (1, en.length, 0, 0)))
    else some (ai_nu en (-9223372036854775808) 9223372036854775807, kn, (2, en.length, 0, 0)) else none
theorem ai_rd_ok {TY : List ai_c} {ad : List Nat} {b : Nat} {tys : ai_ty} {r : List Int} {ws : va_W} {en : List ai_e} {kn : List ai_k} {ci c i : Nat} {q : List ai_e × List ai_k × ai_v} (h : ai_ok r en) (hw : ai_wd TY ad tys ws) (hk : ai_kn ad b r ws kn) (hq : ai_rd TY en kn ci c i = some q) :
    ∃ (a : Nat) (fs : List Value) (x : Value), ws[c]? = some (a, .inr (ci, fs)) ∧ ad[c]? = some a ∧ fs[i]? = some x ∧ ∃ r', ai_x r r' ∧ ai_ok r' q.1 ∧ ai_kn ad b r' ws q.2.1 ∧ ai_dv ad b r' q.2.2 x := by
  unfold ai_rd at hq
  obtain ⟨t, ht, hq⟩ := Option.bind_eq_some_iff.mp hq
  split at hq
  · rename_i hc
    obtain ⟨f, hf, hq⟩ := Option.bind_eq_some_iff.mp hq
    obtain ⟨a, e, w1, w2, w3⟩ := hw.get ht
    rcases w3 with ⟨-, fs, rfl, g1, g2⟩ | ⟨q1, -⟩ | ⟨q1, -⟩ | ⟨q1, -⟩
    · obtain ⟨x, k1, k2⟩ := g2 i f hf
      rw [hc.2] at w1
      refine ⟨a, fs, x, w1, w2, k1, ?_⟩
      have hsl : ai_sl ws c i x := ⟨a, _, w1, Or.inl ⟨ci, fs, rfl, k1⟩⟩
      split at hq
      · rename_i f0
        cases hq
        rcases k2 with ⟨-, k2⟩ | ⟨q1, -⟩ | ⟨q1, -⟩
        · exact ⟨r, ai_x.rf, h, hk, Or.inl ⟨rfl, k2⟩⟩
        · omega
        · omega
      · split at hq
        · rename_i f0 f1
          rcases k2 with ⟨q1, -⟩ | ⟨-, j, rfl, j1, j2⟩ | ⟨q1, -⟩
          · omega
          · split at hq
            · rename_i v hv
              cases hq
              obtain ⟨y, y1, y2⟩ := ai_lk_ok hk hv
              rw [hsl.fun y1]
              exact ⟨r, ai_x.rf, h, hk, y2⟩
            · cases hq
              have hd : ai_dv ad b (r ++ [j.toInt]) (1, en.length, 0, 0) (.int j) := Or.inr (Or.inl ⟨rfl, j.toInt, j, ai_last h.1, rfl, by show j.toInt = j.toInt + 0; omega⟩)
              refine ⟨r ++ [j.toInt], ai_x.push, h.nu j1 j2, ?_, hd⟩
              intro k hkm
              rcases List.mem_cons.mp hkm with rfl | hkm
              · exact ⟨_, hsl, hd⟩
              · exact hk.mono ai_x.push k hkm
          · omega
        · rename_i f0 f1
          rcases k2 with ⟨q1, -⟩ | ⟨q1, -⟩ | ⟨-, j, rfl⟩
          · omega
          · omega
          · cases hq
            exact ⟨r ++ [j.toInt], ai_x.push, h.nu (ai_lrg j).1 (ai_lrg j).2, hk.mono ai_x.push, Or.inr (Or.inr (Or.inl ⟨rfl, j.toInt, j, ai_last h.1, rfl, by show j.toInt = j.toInt + 0; omega⟩))⟩
    · omega
    · omega
    · omega
  · cases hq
def ai_dr (kn : List ai_k) (c lo hi : Nat) : List ai_k := kn.filter fun q => !(Nat.beq q.1 c && (Nat.ble lo q.2.1 && Nat.ble q.2.1 hi))
theorem ai_dr_in {kn : List ai_k} {c lo hi : Nat} {q : ai_k} (h : q ∈ ai_dr kn c lo hi) : q ∈ kn ∧ (q.1 = c → q.2.1 < lo ∨ hi < q.2.1) := by
  unfold ai_dr at h
  obtain ⟨h1, h2⟩ := List.mem_filter.mp h
  refine ⟨h1, fun hc => ?_⟩
  have h2 : ¬ (Nat.beq q.1 c && (Nat.ble lo q.2.1 && Nat.ble q.2.1 hi)) = true := fun h => by rw [h] at h2; cases h2
  rw [Bool.and_eq_true, Bool.and_eq_true, ai_beq, Nat.ble_eq, Nat.ble_eq] at h2
  omega
/-- a field written: an int within its bounds, or a long -/
def ai_wf (TY : List ai_c) (WR : List (Nat × Nat × Nat)) (en : List ai_e) (kn : List ai_k) (ci c i : Nat) (v : ai_v) : Option (List ai_k) :=
  (TY[c]?).bind fun t => if t.1 = 0 ∧ t.2.1 = ci ∧ ai_wr WR c i i = true then (t.2.2[i]?).bind fun f =>
    if f.1 = 1 then (ai_i en v).bind fun p => if f.2.2.1 ≤ p.1 ∧ p.2 ≤ f.2.2.2 then some ((c, i, v) :: ai_dr kn c i i) else none
    else if f.1 = 2 ∧ v.1 = 2 then some (ai_dr kn c i i) else none else none
theorem ai_wf_ok {TY : List ai_c} {WR : List (Nat × Nat × Nat)} {ad : List Nat} {b : Nat} {tys : ai_ty} {r : List Int} {w0 ws : va_W} {en : List ai_e} {kn kn' : List ai_k} {ci c i : Nat} {v : ai_v} {x : Value} (h : ai_ok r en) (hw : ai_wd TY ad tys ws) (hk : ai_kn ad b r ws kn) (hfr : ai_fr WR w0 ws) (hv : ai_dv ad b r v x) (hq : ai_wf TY WR en kn ci c i v = some kn') :
    ∃ (a : Nat) (fs : List Value), ws[c]? = some (a, .inr (ci, fs)) ∧ ad[c]? = some a ∧ i < fs.length ∧ ((∃ j : Int32, x = .int j) ∨ ∃ j : Int64, x = .long j) ∧ ai_wd TY ad tys (ws.set c (a, .inr (ci, fs.set i x))) ∧ ai_kn ad b r (ws.set c (a, .inr (ci, fs.set i x))) kn' ∧ ai_fr WR w0 (ws.set c (a, .inr (ci, fs.set i x))) ∧ ((TY[c]?).bind fun t => t.2.2[i]?).map (fun f => f.1) = some (match x with | .int _ => 1 | _ => 2) := by
  unfold ai_wf at hq
  obtain ⟨t, ht, hq⟩ := Option.bind_eq_some_iff.mp hq
  split at hq
  · rename_i hc
    obtain ⟨f, hf, hq⟩ := Option.bind_eq_some_iff.mp hq
    obtain ⟨a, e, w1, w2, w3⟩ := hw.get ht
    rcases w3 with ⟨t0, fs, rfl, g1, g2⟩ | ⟨q1, -⟩ | ⟨q1, -⟩ | ⟨q1, -⟩
    · have hi : i < fs.length := by rw [g1]; exact (List.getElem?_eq_some_iff.mp hf).1
      have w1' : ws[c]? = some (a, .inr (ci, fs)) := by rw [← hc.2.1]; exact w1
      have hl : c < ws.length := (List.getElem?_eq_some_iff.mp w1).1
      have key : ∀ (y : Value), ai_fd ad f y → ai_wd TY ad tys (ws.set c (a, .inr (ci, fs.set i y))) := fun y hy => by
        refine hw.set ht w1' (Or.inl ⟨t0, fs.set i y, by rw [hc.2.1], by simp [g1], fun j g hj => ?_⟩)
        by_cases hij : i = j
        · subst hij
          rw [hf] at hj
          cases hj
          exact ⟨y, List.getElem?_set_self hi, hy⟩
        · rw [List.getElem?_set_ne hij]
          exact g2 j g hj
      have key2 : ∀ (y : Value), ai_fr WR w0 (ws.set c (a, .inr (ci, fs.set i y))) := fun y c' i' z hz h0 => by
        refine (hfr c' i' z hz h0).setF w1' (fun hcc hii => ?_)
        subst hcc
        subst hii
        rw [hc.2.2] at hz
        cases hz
      have key3 : ∀ (y : Value), ai_kn ad b r (ws.set c (a, .inr (ci, fs.set i y))) (ai_dr kn c i i) := fun y q hq => by
        obtain ⟨m1, m2⟩ := ai_dr_in hq
        obtain ⟨z, z1, z2⟩ := hk q m1
        exact ⟨z, z1.setF w1' (fun hcc => by have := m2 hcc; omega), z2⟩
      split at hq
      · rename_i f1
        obtain ⟨p, hp, hq⟩ := Option.bind_eq_some_iff.mp hq
        split at hq
        · rename_i hb
          cases hq
          obtain ⟨-, zz, j, k1, rfl, k3, k4, k5⟩ := ai_i_ok h hv hp
          refine ⟨a, fs, w1', w2, hi, Or.inl ⟨j, rfl⟩, key _ (Or.inr (Or.inl ⟨f1, j, rfl, by omega, by omega⟩)), ?_, key2 _, by rw [ht]; simp [hf, f1]⟩
          intro q hq
          rcases List.mem_cons.mp hq with rfl | hq
          · exact ⟨.int j, ⟨a, _, List.getElem?_set_self hl, Or.inl ⟨ci, _, rfl, List.getElem?_set_self hi⟩⟩, hv⟩
          · exact key3 _ q hq
        · cases hq
      · split at hq
        · rename_i f1 f2
          cases hq
          rcases hv with ⟨q1, -⟩ | ⟨q1, -⟩ | ⟨-, z, j, j1, rfl, j3⟩ | ⟨q1, -⟩ | ⟨q1, -⟩
          · omega
          · omega
          · exact ⟨a, fs, w1', w2, hi, Or.inr ⟨j, rfl⟩, key _ (Or.inr (Or.inr ⟨f2.1, j, rfl⟩)), key3 _, key2 _, by rw [ht]; simp [hf, f2.1]⟩
          · omega
          · omega
        · cases hq
    · omega
    · omega
    · omega
  · cases hq
