/-! a line, out of the facts of a walk's end -/
/-- the token that stands at name p is of kind kb.1, its names are kb.2 and on -/
def sy_tk (x : ai_s) (n p : Nat) : Option (Nat × Nat) := (x.2.2.2.2.2.find? fun q => Nat.ble 300 q.1 && (Nat.blt q.1 305 && (Nat.beq q.2.1 p && (Nat.beq q.2.2.1 n && decide (q.2.2.2.2 = 0))))).map fun q => (q.1 - 300, q.2.2.2.1)
def sy_is (r : List Int) (kb : Nat × Nat) (t : sp_T) : Prop := t.1 = kb.1 ∧ r[kb.2]? = some (t.2.1 : Int) ∧ r[kb.2 + 1]? = some (t.2.2.1 : Int) ∧ r[kb.2 + 2]? = some t.2.2.2
theorem sy_tk_ok {w0 : va_W} {r : List Int} {x : ai_s} {g : Nat → Int} {n p N P : Nat} {kb : Nat × Nat} (g2 : ai_sb w0 r x.2.2.2.2.2) (hg : fx_tape w0 g) (hn : r[n]? = some (N : Int)) (hp : r[p]? = some (P : Int)) (h : sy_tk x n p = some kb) : sy_is r kb (sp_tok g N P) := by
  obtain ⟨q, hfd, rfl⟩ := Option.map_eq_some_iff.mp h
  have hq := List.mem_of_find?_eq_some hfd
  have hc := List.find?_some hfd
  rw [Bool.and_eq_true, Bool.and_eq_true, Bool.and_eq_true, Bool.and_eq_true, ai_beq, ai_beq, decide_eq_true_eq] at hc
  obtain ⟨c1, c2, c3, c4, c5⟩ := hc
  have c1 := Nat.le_of_ble_eq_true c1
  have c2 : q.1 < 305 := Nat.le_of_ble_eq_true c2
  obtain ⟨-, -, -, -, -, -, -, -, -, -, -, e9⟩ := g2 q hq
  obtain ⟨za, zn, zf, ze, zv, a1, a2, a3, a4, a5, a6, a7, a8, a9⟩ := ((e9 (by omega)).2.2.1 g hg).1 c1 c2
  rw [c3, hp] at a1
  rw [c4, hn] at a2
  cases a1
  cases a2
  rw [c5, Int.add_zero, Int.toNat_natCast, Int.toNat_natCast] at a9
  rw [a9]
  exact ⟨rfl, by show r[q.2.2.2.1]? = some (zf.toNat : Int); rw [a3]; congr 1; omega, by show r[q.2.2.2.1 + 1]? = some (ze.toNat : Int); rw [a4]; congr 1; omega, a5⟩
def sy_bd (x : ai_s) (v : Nat) (lo hi : Int) : Option Bool := (x.2.2.2.1[v]?).bind fun e => if lo ≤ e.1 ∧ e.2.1 ≤ hi then some true else if e.2.1 < lo ∨ hi < e.1 then some false else none
theorem sy_bd_ok {r : List Int} {x : ai_s} {v : Nat} {lo hi z : Int} {o : Bool} (g1 : ai_ok r x.2.2.2.1) (hv : r[v]? = some z) (h : sy_bd x v lo hi = some o) : o = true ↔ lo ≤ z ∧ z ≤ hi := by
  obtain ⟨e, he, b1, b2, -⟩ := g1.get hv
  unfold sy_bd at h
  rw [he] at h
  have h : (if lo ≤ e.1 ∧ e.2.1 ≤ hi then some true else if e.2.1 < lo ∨ hi < e.1 then some false else none) = some o := h
  split at h
  · cases h
    exact ⟨fun _ => by omega, fun _ => rfl⟩
  · split at h
    · cases h
      exact ⟨fun hc => (by cases hc), fun hh => (by exfalso; omega)⟩
    · cases h
def sy_le (x : ai_s) (v s : Nat) : Option Bool := (x.2.2.2.1[v]?).bind fun e => if e.2.1 < 0 then some false else if (av_f x 5 v s none 1 || av_f x 4 s v none 0) = true then some false else if 0 ≤ e.1 ∧ (av_f x 4 v s none 1 || av_f x 5 s v none 0) = true then some true else none
theorem sy_le_ok {w0 : va_W} {r : List Int} {x : ai_s} {v s : Nat} {z y : Int} {o : Bool} (g1 : ai_ok r x.2.2.2.1) (g2 : ai_sb w0 r x.2.2.2.2.2) (hv : r[v]? = some z) (hs : r[s]? = some y) (h : sy_le x v s = some o) : o = true ↔ 0 ≤ z ∧ z ≤ y := by
  obtain ⟨e, he, b1, b2, -⟩ := g1.get hv
  unfold sy_le at h
  rw [he] at h
  have h : (if e.2.1 < 0 then some false else if (av_f x 5 v s none 1 || av_f x 4 s v none 0) = true then some false else if 0 ≤ e.1 ∧ (av_f x 4 v s none 1 || av_f x 5 s v none 0) = true then some true else none) = some o := h
  split at h
  · cases h
    exact ⟨fun hc => (by cases hc), fun hh => (by exfalso; omega)⟩
  · split at h
    · rename_i hc
      cases h
      refine ⟨fun hc => (by cases hc), fun hh => ?_⟩
      exfalso
      rw [Bool.or_eq_true] at hc
      rcases hc with hc | hc
      · have := av_f5 g2 hv hs hc
        omega
      · have := av_f4 g2 hs hv hc
        omega
    · split at h
      · rename_i hc
        cases h
        refine ⟨fun _ => ?_, fun _ => rfl⟩
        have h2 := hc.2
        rw [Bool.or_eq_true] at h2
        rcases h2 with h2 | h2
        · have := av_f4 g2 hv hs h2
          omega
        · have := av_f5 g2 hs hv h2
          omega
      · cases h
abbrev sy_r : Type := (Nat × Nat) ⊕ Nat
def sy_ok (r : List Int) (g : Nat → Int) (N tests told : Nat) (as : List Int) : sy_r → sp_R → Prop
  | .inl x, R => ∃ P : Nat, r[x.2]? = some (P : Int) ∧ R = .inl (x.1, P)
  | .inr b, R => ∃ E : Nat, r[b + 1]? = some (E : Int) ∧ R = .inr (sp_tok g N E, tests, told, as)
def sy_stop (kb : Nat × Nat) : Option sy_r := if kb.1 = 3 then some (.inr kb.2) else some (.inl (sp_ft kb.1, kb.2))
def sy_t3 (x : ai_s) (n : Nat) (kb : Nat × Nat) : Option sy_r := if kb.1 = 2 then (sy_bd x (kb.2 + 2) 0 99).bind fun o => if o = true then (sy_tk x n (kb.2 + 1)).bind sy_stop else some (.inl (3, kb.2)) else sy_stop kb
def sy_t2 (x : ai_s) (n s : Nat) (kb : Nat × Nat) : Option sy_r := if kb.1 = 2 then (sy_le x (kb.2 + 2) s).bind fun o => if o = true then (sy_tk x n (kb.2 + 1)).bind (sy_t3 x n) else some (.inl (3, kb.2)) else sy_stop kb
def sy_t1 (x : ai_s) (n : Nat) (kb : Nat × Nat) : Option sy_r := if kb.1 = 2 then (sy_bd x (kb.2 + 2) 1 99).bind fun o => if o = true then (sy_tk x n (kb.2 + 1)).bind (sy_t2 x n (kb.2 + 2)) else some (.inl (3, kb.2)) else some (.inl (sp_ft kb.1, kb.2))
def sy_o1 (x : ai_s) (n : Nat) (most : Int) (kb : Nat × Nat) : Option sy_r := if kb.1 = 2 then (sy_bd x (kb.2 + 2) 0 most).bind fun o => if o = true then (sy_tk x n (kb.2 + 1)).bind sy_stop else some (.inl (3, kb.2)) else some (.inl (sp_ft kb.1, kb.2))
def sy_plan (x : ai_s) (n : Nat) : Nat → Nat × Nat → List Nat → Option (Nat × List Nat × Nat × Nat)
  | 0, _, _ => none
  | f + 1, kb, as => if kb.1 = 2 then (if 8 ≤ as.length then some (5, as, kb) else (sy_bd x (kb.2 + 2) 0 4).bind fun o => if o = true then (sy_tk x n (kb.2 + 1)).bind fun kc => sy_plan x n f kc (as ++ [kb.2 + 2]) else some (3, as, kb)) else some (0, as, kb)
def sy_p1 (pl : Nat × List Nat × Nat × Nat) : Option sy_r := if pl.1 = 0 then sy_stop pl.2.2 else some (.inl (pl.1, pl.2.2.2))
section SYE
variable {w0 : va_W} {r : List Int} {x : ai_s} {g : Nat → Int} {n N tests told : Nat} {as : List Int} {kb : Nat × Nat} {t : sp_T} {y : sy_r}
theorem sy_stop_ok (h : sy_is r kb t) (hy : sy_stop kb = some y) : sy_ok r g N tests told as y (sp_stop g N tests told as t) := by
  obtain ⟨h1, h2, h3, h4⟩ := h
  unfold sy_stop at hy
  unfold sp_stop
  rw [h1]
  split at hy
  · rename_i hk
    cases hy
    exact ⟨t.2.2.1, h3, by rw [if_pos hk]⟩
  · rename_i hk
    cases hy
    exact ⟨t.2.1, h2, by rw [if_neg hk]⟩
theorem sy_t3_ok (g1 : ai_ok r x.2.2.2.1) (g2 : ai_sb w0 r x.2.2.2.2.2) (hg : fx_tape w0 g) (hn : r[n]? = some (N : Int)) (h : sy_is r kb t) (hy : sy_t3 x n kb = some y) : sy_ok r g N tests told as y (sp_t3 g N tests told as t) := by
  have h' := h
  obtain ⟨h1, h2, h3, h4⟩ := h
  unfold sy_t3 at hy
  unfold sp_t3
  split at hy
  · rename_i hk
    rw [if_pos (h1.trans hk)]
    obtain ⟨o, ho, hy⟩ := Option.bind_eq_some_iff.mp hy
    have hb := sy_bd_ok g1 h4 ho
    split at hy
    · rename_i hoo
      rw [if_pos (hb.mp hoo)]
      obtain ⟨kc, hc, hy⟩ := Option.bind_eq_some_iff.mp hy
      exact sy_stop_ok (sy_tk_ok g2 hg hn h3 hc) hy
    · rename_i hoo
      rw [if_neg (fun hc => hoo (hb.mpr hc))]
      cases hy
      exact ⟨t.2.1, h2, rfl⟩
  · rename_i hk
    rw [if_neg (fun hc => hk (h1.symm.trans hc))]
    exact sy_stop_ok h' hy
theorem sy_t2_ok {s : Nat} {z : Int} (g1 : ai_ok r x.2.2.2.1) (g2 : ai_sb w0 r x.2.2.2.2.2) (hg : fx_tape w0 g) (hn : r[n]? = some (N : Int)) (hs : r[s]? = some z) (h : sy_is r kb t) (hy : sy_t2 x n s kb = some y) : sy_ok r g N tests told as y (sp_t2 g N tests told as z t) := by
  have h' := h
  obtain ⟨h1, h2, h3, h4⟩ := h
  unfold sy_t2 at hy
  unfold sp_t2
  split at hy
  · rename_i hk
    rw [if_pos (h1.trans hk)]
    obtain ⟨o, ho, hy⟩ := Option.bind_eq_some_iff.mp hy
    have hb := sy_le_ok g1 g2 h4 hs ho
    split at hy
    · rename_i hoo
      rw [if_pos (hb.mp hoo)]
      obtain ⟨kc, hc, hy⟩ := Option.bind_eq_some_iff.mp hy
      exact sy_t3_ok g1 g2 hg hn (sy_tk_ok g2 hg hn h3 hc) hy
    · rename_i hoo
      rw [if_neg (fun hc => hoo (hb.mpr hc))]
      cases hy
      exact ⟨t.2.1, h2, rfl⟩
  · rename_i hk
    rw [if_neg (fun hc => hk (h1.symm.trans hc))]
    exact sy_stop_ok h' hy
theorem sy_t1_ok (g1 : ai_ok r x.2.2.2.1) (g2 : ai_sb w0 r x.2.2.2.2.2) (hg : fx_tape w0 g) (hn : r[n]? = some (N : Int)) (h : sy_is r kb t) (hy : sy_t1 x n kb = some y) : sy_ok r g N (tests + 1) told as y (sp_t1 g N tests told as t) := by
  obtain ⟨h1, h2, h3, h4⟩ := h
  unfold sy_t1 at hy
  unfold sp_t1
  split at hy
  · rename_i hk
    rw [if_pos (h1.trans hk)]
    obtain ⟨o, ho, hy⟩ := Option.bind_eq_some_iff.mp hy
    have hb := sy_bd_ok g1 h4 ho
    split at hy
    · rename_i hoo
      rw [if_pos (hb.mp hoo)]
      obtain ⟨kc, hc, hy⟩ := Option.bind_eq_some_iff.mp hy
      exact sy_t2_ok g1 g2 hg hn h4 (sy_tk_ok g2 hg hn h3 hc) hy
    · rename_i hoo
      rw [if_neg (fun hc => hoo (hb.mpr hc))]
      cases hy
      exact ⟨t.2.1, h2, rfl⟩
  · rename_i hk
    rw [if_neg (fun hc => hk (h1.symm.trans hc))]
    cases hy
    exact ⟨t.2.1, h2, by rw [h1]⟩
theorem sy_o1_ok {most : Int} (g1 : ai_ok r x.2.2.2.1) (g2 : ai_sb w0 r x.2.2.2.2.2) (hg : fx_tape w0 g) (hn : r[n]? = some (N : Int)) (h : sy_is r kb t) (hy : sy_o1 x n most kb = some y) : sy_ok r g N tests told as y (sp_o1 g N tests told as most t) := by
  obtain ⟨h1, h2, h3, h4⟩ := h
  unfold sy_o1 at hy
  unfold sp_o1
  split at hy
  · rename_i hk
    rw [if_pos (h1.trans hk)]
    obtain ⟨o, ho, hy⟩ := Option.bind_eq_some_iff.mp hy
    have hb := sy_bd_ok g1 h4 ho
    split at hy
    · rename_i hoo
      rw [if_pos (hb.mp hoo)]
      obtain ⟨kc, hc, hy⟩ := Option.bind_eq_some_iff.mp hy
      exact sy_stop_ok (sy_tk_ok g2 hg hn h3 hc) hy
    · rename_i hoo
      rw [if_neg (fun hc => hoo (hb.mpr hc))]
      cases hy
      exact ⟨t.2.1, h2, rfl⟩
  · rename_i hk
    rw [if_neg (fun hc => hk (h1.symm.trans hc))]
    cases hy
    exact ⟨t.2.1, h2, by rw [h1]⟩
def sy_v (r : List Int) (as : List Nat) : List Int := as.map fun a => (r[a]?).getD 0
theorem sy_plan_ok (g1 : ai_ok r x.2.2.2.1) (g2 : ai_sb w0 r x.2.2.2.2.2) (hg : fx_tape w0 g) (hn : r[n]? = some (N : Int)) : ∀ (f : Nat) (kb : Nat × Nat) (t : sp_T) (as : List Nat) (pl : Nat × List Nat × Nat × Nat), sy_is r kb t → sy_plan x n f kb as = some pl → ∃ tk : sp_T, sp_plan g N f t (sy_v r as) = (pl.1, sy_v r pl.2.1, tk) ∧ sy_is r pl.2.2 tk
  | 0, _, _, _, _, _, hy => by cases hy
  | f + 1, kb, t, as, pl, h, hy => by
    have h' := h
    obtain ⟨h1, h2, h3, h4⟩ := h
    unfold sy_plan at hy
    unfold sp_plan
    split at hy
    · rename_i hk
      rw [if_pos (h1.trans hk)]
      have hlen : (sy_v r as).length = as.length := List.length_map _
      rw [hlen]
      split at hy
      · rename_i h8
        rw [if_pos h8]
        cases hy
        exact ⟨t, rfl, h'⟩
      · rename_i h8
        rw [if_neg h8]
        obtain ⟨o, ho, hy⟩ := Option.bind_eq_some_iff.mp hy
        have hb := sy_bd_ok g1 h4 ho
        split at hy
        · rename_i hoo
          rw [if_pos (tp_i_iff.mpr (hb.mp hoo))]
          obtain ⟨kc, hc, hy⟩ := Option.bind_eq_some_iff.mp hy
          obtain ⟨tk, e1, e2⟩ := sy_plan_ok g1 g2 hg hn f kc _ (as ++ [kb.2 + 2]) pl (sy_tk_ok g2 hg hn h3 hc) hy
          refine ⟨tk, ?_, e2⟩
          rw [← e1]
          congr 1
          unfold sy_v
          rw [List.map_append]
          show _ = _ ++ [(r[kb.2 + 2]?).getD 0]
          rw [h4]
          rfl
        · rename_i hoo
          rw [if_neg (fun hc => hoo (hb.mpr (tp_i_iff.mp hc)))]
          cases hy
          exact ⟨t, rfl, h'⟩
    · rename_i hk
      rw [if_neg (fun hc => hk (h1.symm.trans hc))]
      cases hy
      exact ⟨t, rfl, h'⟩
theorem sy_p1_ok {pl : Nat × List Nat × Nat × Nat} {tk : sp_T} {bs : List Int} (h : sy_is r pl.2.2 tk) (hy : sy_p1 pl = some y) : sy_ok r g N tests told bs y (sp_p1 g N tests told (pl.1, bs, tk)) := by
  unfold sy_p1 at hy
  unfold sp_p1
  split at hy
  · rename_i h0
    rw [if_pos (show (pl.1, bs, tk).1 = 0 from h0)]
    exact sy_stop_ok h hy
  · rename_i h0
    rw [if_neg (show ¬ (pl.1, bs, tk).1 = 0 from h0)]
    cases hy
    exact ⟨tk.2.1, h.2.1, rfl⟩
end SYE
