/-! what a line's function keeps: bounds, and that it goes on -/
theorem sp_tok_le {g : Nat → Int} {n p : Nat} (hp : p ≤ n) : p ≤ (sp_tok g n p).2.1 ∧ (sp_tok g n p).2.1 ≤ (sp_tok g n p).2.2.1 ∧ (sp_tok g n p).2.2.1 ≤ n ∧ (sp_tok g n p).1 ≤ 4 ∧ ((sp_tok g n p).1 = 3 → (sp_tok g n p).2.1 < (sp_tok g n p).2.2.1) := by
  have h1 := tp_skip_le (g := g) (n := n) (p := p) (lo := 32) (hi := 32)
  unfold sp_tok
  generalize tp_skip g n 32 32 p = F at h1 ⊢
  have h1b := h1.2 hp
  have h2 := tp_skip_le (g := g) (n := n) (p := F) (lo := 97) (hi := 122)
  have h3 := tp_skip_le (g := g) (n := n) (p := F) (lo := 48) (hi := 57)
  have h2b := h2.2 h1b
  have h3b := h3.2 h1b
  have h1a := h1.1
  have h2a := h2.1
  have h3a := h3.1
  by_cases c1 : n ≤ F
  · rw [if_pos c1]
    exact ⟨h1a, Nat.le_refl _, h1b, by show 0 ≤ 4; decide, fun h => absurd (show (0 : Nat) = 3 from h) (by decide)⟩
  · rw [if_neg c1]
    by_cases c2 : g F = 59
    · rw [if_pos c2]
      exact ⟨h1a, Nat.le_succ _, by show F + 1 ≤ n; omega, by show 3 ≤ 4; decide, fun _ => Nat.lt_succ_self _⟩
    · rw [if_neg c2]
      by_cases c3 : tp_i (g F) 97 122 = true
      · rw [if_pos c3]
        exact ⟨h1a, h2a, h2b, by show 1 ≤ 4; decide, fun h => absurd (show (1 : Nat) = 3 from h) (by decide)⟩
      · rw [if_neg c3]
        by_cases c4 : tp_i (g F) 48 57 = true
        · rw [if_pos c4]
          by_cases c5 : 2 < tp_skip g n 48 57 F - F
          · rw [if_pos c5]
            exact ⟨h1a, h3a, h3b, by show 4 ≤ 4; decide, fun h => absurd (show (4 : Nat) = 3 from h) (by decide)⟩
          · rw [if_neg c5]
            exact ⟨h1a, h3a, h3b, by show 2 ≤ 4; decide, fun h => absurd (show (2 : Nat) = 3 from h) (by decide)⟩
        · rw [if_neg c4]
          exact ⟨h1a, Nat.le_refl _, h1b, by show 4 ≤ 4; decide, fun h => absurd (show (4 : Nat) = 3 from h) (by decide)⟩
/-- a line's result: a fault of 1 to 5 within the tape, or the token behind a stop -/
def sp_go (g : Nat → Int) (n p tests told : Nat) (as : List Int) : sp_R → Prop
  | .inl x => 1 ≤ x.1 ∧ x.1 ≤ 5 ∧ x.2 ≤ n
  | .inr S => ∃ e, p < e ∧ e ≤ n ∧ S = (sp_tok g n e, tests, told, as)
theorem sp_ft_ok {k : Nat} : 1 ≤ sp_ft k ∧ sp_ft k ≤ 5 := by
  unfold sp_ft
  split <;> omega
section SPG
variable {g : Nat → Int} {n p q tests told : Nat} {as : List Int}
theorem sp_go.mono {R : sp_R} (h : sp_go g n q tests told as R) (hp : p ≤ q) : sp_go g n p tests told as R := by
  cases R with
  | inl x => exact h
  | inr S =>
    obtain ⟨e, h1, h2⟩ := h
    exact ⟨e, by omega, h2⟩
theorem sp_stop_go (hp : p ≤ n) : sp_go g n p tests told as (sp_stop g n tests told as (sp_tok g n p)) := by
  obtain ⟨h1, h2, h3, -, h5⟩ := sp_tok_le (g := g) hp
  unfold sp_stop
  by_cases c : (sp_tok g n p).1 = 3
  · rw [if_pos c]
    exact ⟨_, by have := h5 c; omega, h3, rfl⟩
  · rw [if_neg c]
    exact ⟨sp_ft_ok.1, sp_ft_ok.2, by show (sp_tok g n p).2.1 ≤ n; omega⟩
theorem sp_t3_go (hp : p ≤ n) : sp_go g n p tests told as (sp_t3 g n tests told as (sp_tok g n p)) := by
  obtain ⟨h1, h2, h3, -, h5⟩ := sp_tok_le (g := g) hp
  unfold sp_t3
  by_cases c : (sp_tok g n p).1 = 2
  · rw [if_pos c]
    split
    · exact (sp_stop_go h3).mono (by omega)
    · exact ⟨by show 1 ≤ 3; decide, by show 3 ≤ 5; decide, by show (sp_tok g n p).2.1 ≤ n; omega⟩
  · rw [if_neg c]
    exact sp_stop_go hp
theorem sp_t2_go {z : Int} (hp : p ≤ n) : sp_go g n p tests told as (sp_t2 g n tests told as z (sp_tok g n p)) := by
  obtain ⟨h1, h2, h3, -, h5⟩ := sp_tok_le (g := g) hp
  unfold sp_t2
  by_cases c : (sp_tok g n p).1 = 2
  · rw [if_pos c]
    split
    · exact (sp_t3_go h3).mono (by omega)
    · exact ⟨by show 1 ≤ 3; decide, by show 3 ≤ 5; decide, by show (sp_tok g n p).2.1 ≤ n; omega⟩
  · rw [if_neg c]
    exact sp_stop_go hp
theorem sp_t1_go (hp : p ≤ n) : sp_go g n p (tests + 1) told as (sp_t1 g n tests told as (sp_tok g n p)) := by
  obtain ⟨h1, h2, h3, -, h5⟩ := sp_tok_le (g := g) hp
  unfold sp_t1
  by_cases c : (sp_tok g n p).1 = 2
  · rw [if_pos c]
    split
    · exact (sp_t2_go h3).mono (by omega)
    · exact ⟨by show 1 ≤ 3; decide, by show 3 ≤ 5; decide, by show (sp_tok g n p).2.1 ≤ n; omega⟩
  · rw [if_neg c]
    exact ⟨sp_ft_ok.1, sp_ft_ok.2, by show (sp_tok g n p).2.1 ≤ n; omega⟩
theorem sp_o1_go {z : Int} (hp : p ≤ n) : sp_go g n p tests told as (sp_o1 g n tests told as z (sp_tok g n p)) := by
  obtain ⟨h1, h2, h3, -, h5⟩ := sp_tok_le (g := g) hp
  unfold sp_o1
  by_cases c : (sp_tok g n p).1 = 2
  · rw [if_pos c]
    split
    · exact (sp_stop_go h3).mono (by omega)
    · exact ⟨by show 1 ≤ 3; decide, by show 3 ≤ 5; decide, by show (sp_tok g n p).2.1 ≤ n; omega⟩
  · rw [if_neg c]
    exact ⟨sp_ft_ok.1, sp_ft_ok.2, by show (sp_tok g n p).2.1 ≤ n; omega⟩
def sp_acts (as : List Int) : Prop := as.length ≤ 8 ∧ ∀ a, a ∈ as → 0 ≤ a ∧ a ≤ 4
theorem sp_plan_go : ∀ (f p : Nat) (as : List Int), p ≤ n → sp_acts as → ∃ (t q : Nat) (bs : List Int), sp_plan g n f (sp_tok g n p) as = (t, bs, sp_tok g n q) ∧ p ≤ q ∧ q ≤ n ∧ sp_acts bs ∧ (t = 0 ∨ t = 3 ∨ t = 5)
  | 0, p, as, hp, ha => ⟨0, p, as, rfl, Nat.le_refl _, hp, ha, Or.inl rfl⟩
  | f + 1, p, as, hp, ha => by
    obtain ⟨h1, h2, h3, -, h5⟩ := sp_tok_le (g := g) hp
    unfold sp_plan
    by_cases c : (sp_tok g n p).1 = 2
    · rw [if_pos c]
      by_cases c8 : 8 ≤ as.length
      · rw [if_pos c8]
        exact ⟨5, p, as, rfl, Nat.le_refl _, hp, ha, Or.inr (Or.inr rfl)⟩
      · rw [if_neg c8]
        by_cases ci : tp_i (sp_tok g n p).2.2.2 0 4 = true
        · rw [if_pos ci]
          have hi := tp_i_iff.mp ci
          obtain ⟨t, q, bs, e1, e2, e3, e4, e5⟩ := sp_plan_go f (sp_tok g n p).2.2.1 (as ++ [(sp_tok g n p).2.2.2]) h3 ⟨by rw [List.length_append]; show as.length + 1 ≤ 8; omega, fun a h => by
            rcases List.mem_append.mp h with h | h
            · exact ha.2 a h
            · rw [List.mem_singleton.mp h]; exact hi⟩
          exact ⟨t, q, bs, e1, by omega, e3, e4, e5⟩
        · rw [if_neg ci]
          exact ⟨3, p, as, rfl, Nat.le_refl _, hp, ha, Or.inr (Or.inl rfl)⟩
    · rw [if_neg c]
      exact ⟨0, p, as, rfl, Nat.le_refl _, hp, ha, Or.inl rfl⟩
end SPG
def sp_inv2 (n : Nat) (S : sp_S) : Prop := sp_inv n S ∧ sp_acts S.2.2.2 ∧ S.1.2.1 ≤ S.1.2.2.1
def sp_next (n : Nat) (S : sp_S) : sp_R → Prop
  | .inl x => 1 ≤ x.1 ∧ x.1 ≤ 5 ∧ x.2 ≤ n
  | .inr S' => sp_inv2 n S' ∧ S.1.2.2.1 < S'.1.2.2.1
theorem sp_next_of {g : Nat → Int} {n tests told : Nat} {as : List Int} {S : sp_S} {R : sp_R} (h : sp_go g n S.1.2.2.1 tests told as R) (h1 : ∃ j, j < 8 ∧ told = 16 * j) (h2 : told / 64 % 2 = 0 → as = []) (h3 : tests ≤ 4) (h4 : sp_acts as) : sp_next n S R := by
  cases R with
  | inl x => exact h
  | inr S' =>
    obtain ⟨e, e1, e2, rfl⟩ := h
    obtain ⟨k1, k2, k3, k4, -⟩ := sp_tok_le (g := g) e2
    exact ⟨⟨⟨h1, h2, h3, k4, by show (sp_tok g n e).2.1 ≤ n; omega, k3⟩, h4, k2⟩, by show S.1.2.2.1 < (sp_tok g n e).2.2.1; omega⟩
theorem sp_line_go {g : Nat → Int} {n : Nat} {S : sp_S} (h : sp_inv2 n S) : sp_next n S (sp_line g n S) := by
  obtain ⟨⟨⟨j, j1, j2⟩, i2, i3, i4, i5, i6⟩, a1, a2⟩ := h
  unfold sp_line
  by_cases c : S.1.1 = 1
  · rw [if_pos c]
    have hw : sp_word g S.1.2.1 S.1.2.2.1 ≤ 7 := by rw [sp_word_P]; exact sp_P_le
    generalize sp_word g S.1.2.1 S.1.2.2.1 = w at hw
    unfold sp_word1
    by_cases c7 : w = 7
    · rw [if_pos c7]
      exact ⟨by show 1 ≤ 2; decide, by show 2 ≤ 5; decide, i5⟩
    · rw [if_neg c7]
      by_cases c4 : w < 4
      · rw [if_pos c4]
        by_cases ct : 4 ≤ S.2.1
        · rw [if_pos ct]
          exact ⟨by show 1 ≤ 5; decide, by show 5 ≤ 5; decide, i5⟩
        · rw [if_neg ct]
          exact sp_next_of (sp_t1_go i6) ⟨j, j1, j2⟩ i2 (by omega) a1
      · rw [if_neg c4]
        by_cases cb : S.2.2.1 / 2 ^ w % 2 = 1
        · rw [if_pos cb]
          exact ⟨by show 1 ≤ 4; decide, by show 4 ≤ 5; decide, i5⟩
        · rw [if_neg cb]
          by_cases c6 : w = 6
          · rw [if_pos c6]
            subst c6
            obtain ⟨t, q, bs, e1, e2, e3, e4, e5⟩ := sp_plan_go (g := g) 9 S.1.2.2.1 [] i6 ⟨Nat.zero_le _, fun a h => by cases h⟩
            rw [e1]
            unfold sp_p1
            by_cases ct : t = 0
            · rw [if_pos (show (t, bs, sp_tok g n q).1 = 0 from ct)]
              exact sp_next_of (tests := S.2.1) (told := S.2.2.1 + 2 ^ 6) (as := bs) ((sp_stop_go e3).mono e2) ⟨j + 4, by omega, by omega⟩ (fun h => by omega) i3 e4
            · rw [if_neg (show ¬ (t, bs, sp_tok g n q).1 = 0 from ct)]
              obtain ⟨k1, k2, k3, k4, -⟩ := sp_tok_le (g := g) e3
              exact ⟨by show 1 ≤ t; omega, by show t ≤ 5; omega, by show (sp_tok g n q).2.1 ≤ n; omega⟩
          · rw [if_neg c6]
            have hw45 : w = 4 ∨ w = 5 := by omega
            rcases hw45 with rfl | rfl
            · exact sp_next_of (sp_o1_go i6) ⟨j + 1, by omega, by omega⟩ (fun h => i2 (by omega)) i3 a1
            · exact sp_next_of (sp_o1_go i6) ⟨j + 2, by omega, by omega⟩ (fun h => i2 (by omega)) i3 a1
  · rw [if_neg c]
    exact ⟨sp_ft_ok.1, sp_ft_ok.2, i5⟩
theorem sp_start {g : Nat → Int} {n : Nat} : sp_inv2 n (sp_tok g n 0, 0, 0, []) := by
  obtain ⟨k1, k2, k3, k4, -⟩ := sp_tok_le (g := g) (Nat.zero_le n)
  exact ⟨⟨⟨0, by decide, rfl⟩, fun _ => rfl, Nat.zero_le _, k4, by show (sp_tok g n 0).2.1 ≤ n; omega, k3⟩, ⟨Nat.zero_le _, fun a h => by cases h⟩, k2⟩
