/-! what a line keeps of the page: moved at most size below t, nothing told from t on -/
def ev_ok (t : Nat) (E : Nat → Int) : Prop := ∀ i, i < 4 → (i < t → E (8 + i) ≤ E (4 + i)) ∧ (t ≤ i → E (8 + i) = 0 ∧ E (12 + i) = 0)
theorem sp_t1_m {g : Nat → Int} {n tests told : Nat} {as : List Int} {t1 : sp_T} {S' : sp_S} (h : sp_t1 g n tests told as t1 = .inr S') : ev_m g n t1 ≤ t1.2.2.2 := by
  unfold sp_t1 at h
  unfold ev_m
  split at h
  · split at h
    · rename_i c
      unfold sp_t2 at h
      split at h
      · rename_i c2
        rw [if_pos c2]
        split at h
        · rename_i c3
          exact c3.2
        · cases h
      · rename_i c2
        rw [if_neg c2]
        omega
    · cases h
  · cases h
theorem ev_line_ok {g : Nat → Int} {n : Nat} {S S' : sp_S} {E : Nat → Int} (hv : sp_inv2 n S) (he : ev_ok S.2.1 E) (h : sp_line g n S = .inr S') : ev_ok S'.2.1 (ev_line g n S E) := by
  have key : ∀ {p tests told : Nat} {as : List Int} {R : sp_R}, sp_go g n p tests told as R → R = .inr S' → S'.2.1 = tests := by
    intro p tests told as R h1 h2
    subst h2
    obtain ⟨e, -, e2, rfl⟩ := h1
    rfl
  have i6 := hv.1.2.2.2.2.2
  unfold sp_line at h
  unfold ev_line ev_word
  generalize sp_word g S.1.2.1 S.1.2.2.1 = w at h
  split at h
  · unfold sp_word1 at h
    split at h
    · cases h
    · split at h
      · rename_i w4
        rw [if_pos w4]
        split at h
        · cases h
        · rename_i ht
          have ht4 : S.2.1 < 4 := by omega
          have hm := sp_t1_m h
          rw [key (sp_t1_go i6) h]
          intro i hi
          obtain ⟨e1, e2⟩ := he i hi
          refine ⟨fun h1 => ?_, fun h1 => ?_⟩
          · by_cases hit : i = S.2.1
            · subst hit
              rw [ev_test_m, ev_test_s]
              exact hm
            · rw [ev_test_ne (by omega) (by omega) (by omega) (by omega), ev_test_ne (by omega) (by omega) (by omega) (by omega)]
              exact e1 (by omega)
          · rw [ev_test_ne (by omega) (by omega) (by omega) (by omega), ev_test_ne (by omega) (by omega) (by omega) (by omega)]
            exact e2 (by omega)
      · rename_i w4
        rw [if_neg w4]
        have up : ∀ {j : Nat} {z : Int}, 16 ≤ j → ev_ok S.2.1 (ev_up E j z) := fun {j z} hj i hi => by
          obtain ⟨e1, e2⟩ := he i hi
          rw [ev_up_ne (by omega), ev_up_ne (by omega), ev_up_ne (by omega)]
          exact ⟨e1, e2⟩
        split at h
        · cases h
        · split at h
          · rename_i w6
            obtain ⟨t, q, bs, e1, e2, e3, e4, e5⟩ := sp_plan_go (g := g) 9 S.1.2.2.1 [] i6 ⟨Nat.zero_le _, fun a h => by cases h⟩
            rw [e1] at h
            unfold sp_p1 at h
            split at h
            · rw [key (sp_stop_go e3) h, if_neg (by omega), if_neg (by omega)]
              exact he
            · cases h
          · rw [key (sp_o1_go i6) h]
            split
            · exact up (by decide)
            · split
              · exact up (by decide)
              · exact he
  · cases h
theorem ev_0_ok : ev_ok 0 ev_0 := fun i hi => ⟨fun h => absurd h (Nat.not_lt_zero _), fun _ => ⟨if_neg (by omega), if_neg (by omega)⟩⟩
theorem ev_run_ok {g : Nat → Int} {n : Nat} : ∀ (f l : Nat) (S : sp_S) (E : Nat → Int), sp_inv2 n S → ev_ok S.2.1 E → ∀ S' l', sp_run g n f l S = .inr (S', l') → ev_ok S'.2.1 (ev_run g n f S E)
  | 0, l, S, E, hv, he, S', l', h => by
    cases h
    exact he
  | f + 1, l, S, E, hv, he, S', l', h => by
    have hgo := sp_line_go (g := g) hv
    have hlo := fun (S2 : sp_S) => ev_line_ok (g := g) (S' := S2) hv he
    have herun : ev_run g n (f + 1) S E = if S.1.1 = 0 then E else match sp_line g n S with
        | .inl _ => E
        | .inr S' => ev_run g n f S' (ev_line g n S E) := rfl
    rw [herun]
    unfold sp_run at h
    split at h
    · rename_i h0
      rw [if_pos h0]
      cases h
      exact he
    · rename_i h0
      rw [if_neg h0]
      generalize sp_line g n S = RR at hgo h hlo
      cases RR with
      | inl y =>
        have h : (Sum.inl y : (Nat × Nat) ⊕ (sp_S × Nat)) = .inr (S', l') := h
        cases h
      | inr S2 =>
        have h : sp_run g n f (l + 1) S2 = .inr (S', l') := h
        exact ev_run_ok f (l + 1) S2 (ev_line g n S E) hgo.1 (hlo S2 rfl) S' l' h
