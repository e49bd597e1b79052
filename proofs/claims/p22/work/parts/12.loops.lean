/-! loops: a state that holds at every round -/
def ai_ge (en : List ai_e) (b : Nat) (p : Int) : Nat → Nat → Int → Bool
  | 0, _, _ => false
  | k + 1, a, o => (decide (a = b) && decide (p ≤ o)) || (match en[a]? with
    | some e => ai_ge en b p k e.2.2.2.1 (e.2.2.2.2 + o)
    | none => false)
theorem ai_ge_ok {r : List Int} {en : List ai_e} {b : Nat} {p w : Int} (h : ai_ok r en) (hb : r[b]? = some w) : ∀ {k a : Nat} {o z : Int}, r[a]? = some z → ai_ge en b p k a o = true → w + p ≤ z + o
  | 0, _, _, _, _, hg => by cases hg
  | k + 1, a, o, z, ha, hg => by
    have hg : ((decide (a = b) && decide (p ≤ o)) || (match en[a]? with | some e => ai_ge en b p k e.2.2.2.1 (e.2.2.2.2 + o) | none => false)) = true := hg
    rw [Bool.or_eq_true] at hg
    rcases hg with hg | hg
    · simp only [Bool.and_eq_true, decide_eq_true_eq] at hg
      obtain ⟨rfl, h2⟩ := hg
      rw [ha] at hb
      cases hb
      omega
    · obtain ⟨e, he, -, -, -, w', h4, h5⟩ := h.get ha
      rw [he] at hg
      have := ai_ge_ok h hb h4 hg
      omega
/-- what is forgotten at a loop's head: a local (0, its number, -) or a place (1, cell, place), with bounds: least, greatest, not 0, the name that it isn't below, by how much -/
abbrev ai_h : Type := Nat × Nat × Nat × Int × Int × Bool × Nat × Int
def ai_en (h : ai_h) : ai_e := (h.2.2.2.1, h.2.2.2.2.1, h.2.2.2.2.2.1, h.2.2.2.2.2.2.1, h.2.2.2.2.2.2.2)
def ai_pv (st : ai_s) (h : ai_h) : Option ai_v := if h.1 = 0 then ai_get st.2.1 h.2.1 else ai_lk st.2.2.2.2.1 h.2.1 h.2.2.1
/-- the bounds of an int or of a long -/
def ai_il2 (en : List ai_e) (v : ai_v) : Option (Int × Int) := if v.1 = 1 ∨ v.1 = 2 then (en[v.2.1]?).map fun e => (e.1 + v.2.2.2, e.2.1 + v.2.2.2) else none
theorem ai_il2_ok {ad : List Nat} {b : Nat} {r : List Int} {en : List ai_e} {v : ai_v} {x : Value} {p : Int × Int} (h : ai_ok r en) (hv : ai_dv ad b r v x) (hp : ai_il2 en v = some p) : ∃ z : Int, r[v.2.1]? = some z ∧ p.1 ≤ z + v.2.2.2 ∧ z + v.2.2.2 ≤ p.2 := by
  unfold ai_il2 at hp
  split at hp
  · rename_i h1
    obtain ⟨e, he, rfl⟩ := Option.map_eq_some_iff.mp hp
    obtain ⟨z, hz, h2⟩ := h.name he
    have a1 := h2.1
    have a2 := h2.2.1
    refine ⟨z, hz, ?_, ?_⟩
    · show e.1 + v.2.2.2 ≤ _
      omega
    · show _ ≤ e.2.1 + v.2.2.2
      omega
  · cases hp
def ai_it (n0 : Nat) (st : ai_s) (j : Nat) (h : ai_h) : Bool := match ai_pv st h with
  | some v => (match ai_il2 st.2.2.2.1 v with
    | some p => decide (h.2.2.2.1 ≤ p.1) && decide (p.2 ≤ h.2.2.2.2.1) && (!h.2.2.2.2.2.1 || decide (0 < p.1) || decide (p.2 < 0)) && ((decide (h.2.2.2.2.2.2.1 = n0 + j) && decide (h.2.2.2.2.2.2.2 = 0)) || (decide (h.2.2.2.2.2.2.1 < n0) && ai_ge st.2.2.2.1 h.2.2.2.2.2.2.1 h.2.2.2.2.2.2.2 12 v.2.1 v.2.2.2))
    | none => false)
  | none => false
/-- a value of the head's state, and the one that comes -/
def ai_ck (n0 : Nat) (hs : List ai_h) (k a i : Nat) (v : ai_v) (w : Option ai_v) : Bool :=
  if v.1 = 0 ∨ v.1 = 4 ∨ (v.2.1 < n0 ∧ v.2.2.1 < n0) then decide (w = some v)
  else (w.any fun v1 => decide (v1.1 = v.1)) && decide (v.1 = 1 ∨ v.1 = 2) && decide (v.2.2.2 = 0) && decide (n0 ≤ v.2.1) && (match hs[v.2.1 - n0]? with
    | some h => decide (h.1 = k) && decide (h.2.1 = a) && decide (k = 0 ∨ h.2.2.1 = i)
    | none => false)
def ai_lq (n0 : Nat) (hs : List ai_h) (I st : ai_s) : Bool :=
  (st.2.2.1.isEmpty) && ((List.range hs.length).all fun j => (hs[j]?).all fun h => ai_it n0 st j h) && (I.2.1.all fun q => ai_ck n0 hs 0 q.1 0 q.2 (ai_get st.2.1 q.1)) && (I.2.2.2.2.1.all fun q => ai_ck n0 hs 1 q.1 q.2.1 q.2.2 (ai_lk st.2.2.2.2.1 q.1 q.2.1))
theorem ai_dv_low {ad : List Nat} {b : Nat} {r t u : List Int} {v : ai_v} {x : Value} (h : ai_dv ad b (r ++ t) v x) (hv : v.1 = 0 ∨ v.1 = 4 ∨ (v.2.1 < r.length ∧ v.2.2.1 < r.length)) : ai_dv ad b (r ++ u) v x := by
  rcases h with h | ⟨h, z, i, h1, h2⟩ | ⟨h, z, i, h1, h2⟩ | ⟨h, z, w, i, h1, h2, h3⟩ | h
  · exact Or.inl h
  · rcases hv with q | q | ⟨q, -⟩
    · omega
    · omega
    · rw [List.getElem?_append_left q] at h1
      exact Or.inr (Or.inl ⟨h, z, i, by rw [List.getElem?_append_left q]; exact h1, h2⟩)
  · rcases hv with q | q | ⟨q, -⟩
    · omega
    · omega
    · rw [List.getElem?_append_left q] at h1
      exact Or.inr (Or.inr (Or.inl ⟨h, z, i, by rw [List.getElem?_append_left q]; exact h1, h2⟩))
  · rcases hv with q | q | ⟨q, q2⟩
    · omega
    · omega
    · rw [List.getElem?_append_left q] at h1
      rw [List.getElem?_append_left q2] at h2
      exact Or.inr (Or.inr (Or.inr (Or.inl ⟨h, z, w, i, by rw [List.getElem?_append_left q]; exact h1, by rw [List.getElem?_append_left q2]; exact h2, h3⟩)))
  · exact Or.inr (Or.inr (Or.inr (Or.inr h)))
/-- the values of the forgotten places -/
theorem ai_vals {ad : List Nat} {b : Nat} {r : List Int} {st : ai_s} {P : Nat → ai_h → Int → Prop} (f : ∀ (j : Nat) (h : ai_h), ∃ z, P j h z) : ∀ (hs : List ai_h) (k : Nat), ∃ vs : List Int, vs.length = hs.length ∧ ∀ (j : Nat) (h : ai_h) (z : Int), hs[j]? = some h → vs[j]? = some z → P (k + j) h z
  | [], k => ⟨[], rfl, fun j h z h1 => by simp at h1⟩
  | h :: t, k => by
    obtain ⟨vs, h1, h2⟩ := ai_vals (ad := ad) (b := b) (r := r) (st := st) f t (k + 1)
    obtain ⟨z, hz⟩ := f k h
    refine ⟨z :: vs, by simp [h1], fun j h' z' a1 a2 => ?_⟩
    cases j with
    | zero =>
      cases a1
      cases a2
      exact hz
    | succ j =>
      have := h2 j h' z' (by simpa using a1) (by simpa using a2)
      rw [show k + (j + 1) = k + 1 + j by omega]
      exact this
section AIL
variable {TY : List ai_c} {WR : List (Nat × Nat × Nat)} {w0 : va_W} {ad : List Nat} {M : ai_m} {d : Nat} {p : Program} {l : Launch} {e : Env} {R : Room} {s : State} {m : MethodId} {args : Array Value} {below : List Frame} {meth : Method} {c : Code} {D : va_G} {tys : ai_ty} {A : Nat → Prop} {b L : Nat} {sx : Nat → Int32} {cells slots : Nat} {Q : State → Prop} {r0 : List Int} {pc pc' : Nat} {lo : List (Nat × ai_v)} {sk : List ai_v} {en en' : List ai_e} {kn kn' : List ai_k} {sb sb' : List ai_b} {x y v : ai_v} {ss : List ai_s}
/-- the value at a forgotten place of a state that stands for lv, ws -/
def ai_pz (ad : List Nat) (b : Nat) (r : List Int) (st : ai_s) (lv : List (Nat × Value)) (ws : va_W) (h : ai_h) (z : Int) : Prop := ∀ v, ai_pv st h = some v → ∀ p, ai_il2 st.2.2.2.1 v = some p → (∃ z0, r[v.2.1]? = some z0 ∧ z = z0 + v.2.2.2) ∧ p.1 ≤ z ∧ z ≤ p.2
theorem ai_lq_ok {n0 : Nat} {hs : List ai_h} {I st : ai_s} {r t : List Int} {lv : List (Nat × Value)} {skc : List Value} {ws : va_W} {sc : Bool} (hI : I.2.2.2.1 = en ++ hs.map ai_en) (hIk : I.2.2.1 = []) (h0 : ai_ok r en) (hn : en.length = n0) (h1n : 1 < n0) (h8 : sc = true → 8 ≤ n0) (hsb : ai_sb w0 r I.2.2.2.2.2) (g : ai_gm TY WR w0 ad b L sx tys sc (r ++ t) st lv skc ws) (hq : ai_lq n0 hs I st = true) :
    ∃ (vs : List Int) (lv' : List (Nat × Value)), vs.length = hs.length ∧ ai_gm TY WR w0 ad b L sx tys sc (r ++ vs) I lv' [] ws ∧ skc = [] ∧ (∀ q ∈ lv', q ∈ lv) ∧ ∀ (j : Nat) (h : ai_h) (z : Int), hs[j]? = some h → vs[j]? = some z → ai_pz ad b (r ++ t) st lv ws h z := by
  obtain ⟨g1, g2, g3, g4, g5, g6, g7, g8⟩ := g
  unfold ai_lq at hq
  simp only [Bool.and_eq_true] at hq
  obtain ⟨⟨⟨q1, q2⟩, q3⟩, q4⟩ := hq
  have hr : r.length = n0 := by rw [h0.1]; exact hn
  have hsk : st.2.2.1 = [] := List.isEmpty_iff.mp q1
  rw [hsk] at g4
  have hskc := g4.nil
  -- each place has a value
  have hex : ∀ (v : ai_v) (p : Int × Int) (h : ai_h), ai_pv st h = some v → ai_il2 st.2.2.2.1 v = some p → ∃ z0 : Int, (r ++ t)[v.2.1]? = some z0 ∧ p.1 ≤ z0 + v.2.2.2 ∧ z0 + v.2.2.2 ≤ p.2 := fun v p h hv hp => by
    unfold ai_pv at hv
    split at hv
    · obtain ⟨k, x, k1, k2⟩ := ai_get_ok g3 hv
      exact ai_il2_ok g1 k2 hp
    · obtain ⟨x, k1, k2⟩ := ai_lk_ok g6 hv
      exact ai_il2_ok g1 k2 hp
  obtain ⟨vs, v1, v2⟩ := ai_vals (ad := ad) (b := b) (r := r) (st := st) (P := fun _ h z => ai_pz ad b (r ++ t) st lv ws h z) (fun j h => by
    cases hv : ai_pv st h with
    | none => exact ⟨0, fun v hv' => by rw [hv] at hv'; cases hv'⟩
    | some v =>
      cases hp : ai_il2 st.2.2.2.1 v with
      | none => exact ⟨0, fun v' hv' p hp' => by rw [hv] at hv'; cases hv'; rw [hp] at hp'; cases hp'⟩
      | some p =>
        obtain ⟨z0, i1, i3, i4⟩ := hex v p h hv hp
        exact ⟨z0 + v.2.2.2, fun v' hv' p' hp' => by rw [hv] at hv'; cases hv'; rw [hp] at hp'; cases hp'; exact ⟨⟨z0, i1, rfl⟩, i3, i4⟩⟩) hs 0
  have hat : ∀ (j : Nat) (h : ai_h), hs[j]? = some h → ∃ (v : ai_v) (p : Int × Int) (z : Int), ai_pv st h = some v ∧ ai_il2 st.2.2.2.1 v = some p ∧ vs[j]? = some z ∧ (∃ z0, (r ++ t)[v.2.1]? = some z0 ∧ z = z0 + v.2.2.2) ∧ p.1 ≤ z ∧ z ≤ p.2 ∧ ai_it n0 st j h = true := fun j h hj => by
    have hjl : j < hs.length := (List.getElem?_eq_some_iff.mp hj).1
    have hi := List.all_eq_true.mp q2 j (List.mem_range.mpr hjl)
    rw [hj] at hi
    have hi : ai_it n0 st j h = true := hi
    obtain ⟨z, hz⟩ : ∃ z, vs[j]? = some z := ⟨_, List.getElem?_eq_getElem (by rw [v1]; exact hjl)⟩
    have hi2 := hi
    unfold ai_it at hi2
    split at hi2
    · rename_i v hv
      split at hi2
      · rename_i p hp
        have := v2 j h z hj hz v hv p hp
        exact ⟨v, p, z, hv, hp, hz, this.1, this.2.1, this.2.2, hi⟩
      · cases hi2
    · cases hi2
  have hname : ∀ j z, vs[j]? = some z → (r ++ vs)[n0 + j]? = some z := fun j z hz => by
    rw [List.getElem?_append_right (by omega), show n0 + j - r.length = j by omega]
    exact hz
  -- the names
  have hok : ai_ok (r ++ vs) I.2.2.2.1 := by
    rw [hI]
    refine ⟨by simp [h0.1, v1], fun k z e a1 a2 => ?_⟩
    by_cases hk : k < r.length
    · rw [List.getElem?_append_left hk] at a1
      rw [List.getElem?_append_left (by omega)] at a2
      exact (h0.2 k z e a1 a2).mono ⟨vs, rfl⟩
    · rw [List.getElem?_append_right (by omega)] at a1
      rw [List.getElem?_append_right (by omega), List.getElem?_map] at a2
      obtain ⟨h, hh, rfl⟩ := Option.map_eq_some_iff.mp a2
      rw [hn, show n0 = r.length from hr.symm] at hh
      obtain ⟨v, p, z', b1, b2, b3, ⟨z0, b4, b5⟩, b6, b7, b8⟩ := hat _ h hh
      rw [a1] at b3
      cases b3
      unfold ai_it at b8
      rw [b1] at b8
      dsimp only at b8
      rw [b2] at b8
      simp only [Bool.and_eq_true, Bool.or_eq_true, decide_eq_true_eq, Bool.not_eq_true'] at b8
      obtain ⟨⟨⟨c1, c2⟩, c3⟩, c4⟩ := b8
      refine ⟨?_, ?_, ?_, ?_⟩
      · show h.2.2.2.1 ≤ z
        omega
      · show z ≤ h.2.2.2.2.1
        omega
      · intro hnz
        have hnz : h.2.2.2.2.2.1 = true := hnz
        rcases c3 with (c3 | c3) | c3
        · rw [hnz] at c3
          cases c3
        · omega
        · omega
      · show ∃ w, (r ++ vs)[h.2.2.2.2.2.2.1]? = some w ∧ w + h.2.2.2.2.2.2.2 ≤ z
        rcases c4 with ⟨d1, d2⟩ | ⟨d1, d2⟩
        · refine ⟨z, ?_, by omega⟩
          rw [d1]
          exact hname _ z a1
        · obtain ⟨w, hw⟩ : ∃ w, r[h.2.2.2.2.2.2.1]? = some w := ⟨_, List.getElem?_eq_getElem (by omega)⟩
          have := ai_ge_ok g1 (show (r ++ t)[h.2.2.2.2.2.2.1]? = some w by rw [List.getElem?_append_left (by omega)]; exact hw) b4 d2
          exact ⟨w, by rw [List.getElem?_append_left (by omega)]; exact hw, by omega⟩
  -- a value that is checked
  have hck : ∀ (k a i : Nat) (v : ai_v) (w : Option ai_v) (x : Value), ai_ck n0 hs k a i v w = true → (∀ v1, w = some v1 → ai_dv ad b (r ++ t) v1 x) → (∀ (j : Nat) (h : ai_h) (z : Int), hs[j]? = some h → h.1 = k → h.2.1 = a → (k = 0 ∨ h.2.2.1 = i) → vs[j]? = some z → ∃ (v1 : ai_v) (z0 : Int), w = some v1 ∧ (r ++ t)[v1.2.1]? = some z0 ∧ z = z0 + v1.2.2.2) → ai_dv ad b (r ++ vs) v x := fun k a i v w x hc h1 h2 => by
    unfold ai_ck at hc
    split at hc
    · rename_i hlow
      rw [decide_eq_true_eq] at hc
      exact ai_dv_low (h1 v hc) (by rw [hr]; exact hlow)
    · simp only [Bool.and_eq_true, decide_eq_true_eq] at hc
      obtain ⟨⟨⟨⟨c0, c1⟩, c2⟩, c3⟩, c4⟩ := hc
      split at c4
      · rename_i h hh
        simp only [Bool.and_eq_true, decide_eq_true_eq] at c4
        obtain ⟨vv, p, z, b1, b2, b3, -⟩ := hat _ h hh
        obtain ⟨v1, z0, rfl, k1, k2⟩ := h2 _ h z hh c4.1.1 c4.1.2 c4.2 b3
        have c0 : v1.1 = v.1 := by simpa using c0
        have hd1 := h1 v1 rfl
        have hnm := hname _ z b3
        rw [show n0 + (v.2.1 - n0) = v.2.1 by omega] at hnm
        rcases hd1 with ⟨q, -⟩ | ⟨q, z1, i32, i1, rfl, i3⟩ | ⟨q, z1, i32, i1, rfl, i3⟩ | ⟨q, -⟩ | ⟨q, -⟩
        · omega
        · rw [k1] at i1
          cases i1
          exact Or.inr (Or.inl ⟨by omega, z, i32, hnm, rfl, by omega⟩)
        · rw [k1] at i1
          cases i1
          exact Or.inr (Or.inr (Or.inl ⟨by omega, z, i32, hnm, rfl, by omega⟩))
        · omega
        · omega
      · cases c4
  have hlo : ∀ l : List (Nat × ai_v), (l.all fun q => ai_ck n0 hs 0 q.1 0 q.2 (ai_get st.2.1 q.1)) = true → ∃ lv' : List (Nat × Value), ai_lo ad b (r ++ vs) l lv' ∧ ∀ q ∈ lv', q ∈ lv := fun l => by
    induction l with
    | nil => exact fun _ => ⟨[], trivial, fun q hq => by cases hq⟩
    | cons q l ih =>
      intro ha
      rw [List.all_cons, Bool.and_eq_true] at ha
      obtain ⟨lv', a1, a2⟩ := ih ha.2
      have hc := ha.1
      -- the local's value
      have hval : ∃ (k : Nat) (x : Value), lv[k]? = some (q.1, x) ∧ (∀ v1, ai_get st.2.1 q.1 = some v1 → ai_dv ad b (r ++ t) v1 x) := by
        cases hg : ai_get st.2.1 q.1 with
        | some v1 =>
          obtain ⟨k, x, k1, k2⟩ := ai_get_ok g3 hg
          exact ⟨k, x, k1, fun v' hv' => by cases hv'; exact k2⟩
        | none =>
          exfalso
          rw [hg] at hc
          unfold ai_ck at hc
          split at hc
          · rw [decide_eq_true_eq] at hc
            cases hc
          · simp only [Bool.and_eq_true, decide_eq_true_eq] at hc
            obtain ⟨-, c4⟩ := hc
            split at c4
            · rename_i h hh
              simp only [Bool.and_eq_true, decide_eq_true_eq] at c4
              obtain ⟨vv, p, z, b1, -⟩ := hat _ h hh
              unfold ai_pv at b1
              rw [if_pos c4.1.1, c4.1.2, hg] at b1
              cases b1
            · cases c4
      obtain ⟨k, x, k1, k2⟩ := hval
      refine ⟨(q.1, x) :: lv', ⟨rfl, hck 0 q.1 0 q.2 _ x hc k2 (fun j h z hj e1 e2 _ hz => ?_), a1⟩, fun q' hq' => ?_⟩
      · obtain ⟨vv, p, z', b1, b2, b3, ⟨z0, b4, b5⟩, -⟩ := hat j h hj
        rw [hz] at b3
        cases b3
        have b1' := b1
        unfold ai_pv at b1'
        rw [if_pos e1, e2] at b1'
        exact ⟨vv, z0, b1', b4, b5⟩
      · rcases List.mem_cons.mp hq' with rfl | hq'
        · exact List.mem_of_getElem? k1
        · exact a2 q' hq'
  obtain ⟨lv', l1, l2⟩ := hlo I.2.1 q3
  refine ⟨vs, lv', v1, ⟨hok, hsb.mono ⟨vs, rfl⟩, l1, by rw [hIk]; trivial, g5, fun q hqm => ?_, g7, ?_⟩, hskc, l2, fun j h z hj hz => by have := v2 j h z hj hz; exact this⟩
  · have hc := List.all_eq_true.mp q4 q hqm
    have hval : ∃ x : Value, ai_sl ws q.1 q.2.1 x ∧ (∀ v1, ai_lk st.2.2.2.2.1 q.1 q.2.1 = some v1 → ai_dv ad b (r ++ t) v1 x) := by
      cases hg : ai_lk st.2.2.2.2.1 q.1 q.2.1 with
      | some v1 =>
        obtain ⟨x, k1, k2⟩ := ai_lk_ok g6 hg
        exact ⟨x, k1, fun v' hv' => by cases hv'; exact k2⟩
      | none =>
        exfalso
        rw [hg] at hc
        unfold ai_ck at hc
        split at hc
        · rw [decide_eq_true_eq] at hc
          cases hc
        · simp only [Bool.and_eq_true, decide_eq_true_eq] at hc
          obtain ⟨-, c4⟩ := hc
          split at c4
          · rename_i h hh
            simp only [Bool.and_eq_true, decide_eq_true_eq] at c4
            obtain ⟨vv, p, z, b1, -⟩ := hat _ h hh
            unfold ai_pv at b1
            have e3 : h.2.2.1 = q.2.1 := c4.2.resolve_left (by decide)
            rw [if_neg (by omega), c4.1.2, e3, hg] at b1
            cases b1
          · cases c4
    obtain ⟨x, k1, k2⟩ := hval
    refine ⟨x, k1, hck 1 q.1 q.2.1 q.2.2 _ x hc k2 (fun j h z hj e1 e2 e3 hz => ?_)⟩
    obtain ⟨vv, p, z', b1, b2, b3, ⟨z0, b4, b5⟩, -⟩ := hat j h hj
    rw [hz] at b3
    cases b3
    have b1' := b1
    unfold ai_pv at b1'
    rw [if_neg (by omega), e2, e3.resolve_left (by decide)] at b1'
    exact ⟨vv, z0, b1', b4, b5⟩
  · intro hs z hz
    rw [List.getElem?_append_left (by omega)] at hz
    obtain ⟨p1, p2⟩ := g8 hs z (by rw [List.getElem?_append_left (by omega)]; exact hz)
    refine ⟨p1, fun o ho => ?_⟩
    have p3 := p2 o ho
    rw [List.getElem?_append_left (by have := h8 hs; omega)] at p3 ⊢
    exact p3
end AIL
