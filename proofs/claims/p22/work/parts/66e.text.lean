/-! what a text tells is within bounds; text in the law -/
def ev_gd (t : Nat) (E : Nat → Int) : Prop := (∀ i, i < t → (0 ≤ E i ∧ E i ≤ 3) ∧ (1 ≤ E (4 + i) ∧ E (4 + i) ≤ 99) ∧ 0 ≤ E (8 + i) ∧ (0 ≤ E (12 + i) ∧ E (12 + i) ≤ 99)) ∧ (0 ≤ E 16 ∧ E 16 ≤ 20) ∧ (0 ≤ E 17 ∧ E 17 ≤ 99)
theorem sp_t1_gd {g : Nat → Int} {n tests told : Nat} {as : List Int} {t1 : sp_T} {S' : sp_S} (h : sp_t1 g n tests told as t1 = .inr S') : (1 ≤ t1.2.2.2 ∧ t1.2.2.2 ≤ 99) ∧ 0 ≤ ev_m g n t1 ∧ (0 ≤ ev_p g n t1 ∧ ev_p g n t1 ≤ 99) := by
  unfold sp_t1 at h
  unfold ev_m ev_p
  split at h
  · split at h
    · rename_i c
      refine ⟨c, ?_⟩
      unfold sp_t2 at h
      split at h
      · rename_i c2
        rw [if_pos c2]
        split at h
        · rename_i c3
          refine ⟨c3.1, ?_⟩
          unfold sp_t3 at h
          split at h
          · rename_i c4
            rw [if_pos ⟨c2, c4⟩]
            split at h
            · rename_i c5
              exact c5
            · cases h
          · rename_i c4
            rw [if_neg (fun hh => c4 hh.2)]
            omega
        · cases h
      · rename_i c2
        rw [if_neg c2, if_neg (fun hh => c2 hh.1)]
        omega
    · cases h
  · cases h
theorem sp_o1_gd {g : Nat → Int} {n tests told : Nat} {as : List Int} {most : Int} {t1 : sp_T} {S' : sp_S} (h : sp_o1 g n tests told as most t1 = .inr S') : 0 ≤ t1.2.2.2 ∧ t1.2.2.2 ≤ most := by
  unfold sp_o1 at h
  split at h
  · split at h
    · rename_i c
      exact c
    · cases h
  · cases h
theorem ev_line_gd {g : Nat → Int} {n : Nat} {S S' : sp_S} {E : Nat → Int} (hv : sp_inv2 n S) (he : ev_gd S.2.1 E) (h : sp_line g n S = .inr S') : ev_gd S'.2.1 (ev_line g n S E) := by
  have key : ∀ {p tests told : Nat} {as : List Int} {R : sp_R}, sp_go g n p tests told as R → R = .inr S' → S'.2.1 = tests := by
    intro p tests told as R h1 h2
    subst h2
    obtain ⟨e, -, e2, rfl⟩ := h1
    rfl
  have i6 := hv.1.2.2.2.2.2
  have i3 := hv.1.2.2.1
  obtain ⟨he1, he2, he3⟩ := he
  unfold sp_line at h
  unfold ev_line ev_word
  generalize sp_word g S.1.2.1 S.1.2.2.1 = w at h
  split at h
  · unfold sp_word1 at h
    split at h
    · cases h
    · split at h
      · rename_i w4
        rw [if_pos w4]
        split at h
        · cases h
        · rename_i ht
          have ht4 : S.2.1 < 4 := by omega
          obtain ⟨hm1, hm2, hm3⟩ := sp_t1_gd h
          rw [key (sp_t1_go i6) h]
          refine ⟨fun i hi => ?_, ?_, ?_⟩
          · by_cases hit : i = S.2.1
            · subst hit
              rw [ev_test_k, ev_test_s, ev_test_m, ev_test_p]
              exact ⟨⟨by omega, by omega⟩, hm1, hm2, hm3⟩
            · rw [ev_test_ne (j := i) (by omega) (by omega) (by omega) (by omega), ev_test_ne (j := 4 + i) (by omega) (by omega) (by omega) (by omega), ev_test_ne (j := 8 + i) (by omega) (by omega) (by omega) (by omega), ev_test_ne (j := 12 + i) (by omega) (by omega) (by omega) (by omega)]
              exact he1 i (by omega)
          · rw [ev_test_ne (by omega) (by omega) (by omega) (by omega)]
            exact he2
          · rw [ev_test_ne (by omega) (by omega) (by omega) (by omega)]
            exact he3
      · rename_i w4
        rw [if_neg w4]
        split at h
        · cases h
        · split at h
          · rename_i w6
            obtain ⟨t, q, bs, e1, e2, e3, e4, e5⟩ := sp_plan_go (g := g) 9 S.1.2.2.1 [] i6 ⟨Nat.zero_le _, fun a h => by cases h⟩
            rw [e1] at h
            unfold sp_p1 at h
            split at h
            · rw [key (sp_stop_go e3) h, if_neg (by omega), if_neg (by omega)]
              exact ⟨he1, he2, he3⟩
            · cases h
          · have ho := sp_o1_gd h
            rw [key (sp_o1_go i6) h]
            split
            · rename_i c4
              rw [if_pos c4] at ho
              refine ⟨fun i hi => ?_, by rw [ev_up_at]; exact ho, by rw [ev_up_ne (by decide)]; exact he3⟩
              rw [ev_up_ne (j := i) (by omega), ev_up_ne (j := 4 + i) (by omega), ev_up_ne (j := 8 + i) (by omega), ev_up_ne (j := 12 + i) (by omega)]
              exact he1 i hi
            · split
              · rename_i c4 c5
                rw [if_neg c4] at ho
                refine ⟨fun i hi => ?_, by rw [ev_up_ne (by decide)]; exact he2, by rw [ev_up_at]; exact ho⟩
                rw [ev_up_ne (j := i) (by omega), ev_up_ne (j := 4 + i) (by omega), ev_up_ne (j := 8 + i) (by omega), ev_up_ne (j := 12 + i) (by omega)]
                exact he1 i hi
              · exact ⟨he1, he2, he3⟩
  · cases h
theorem ev_run_gd {g : Nat → Int} {n : Nat} : ∀ (f l : Nat) (S : sp_S) (E : Nat → Int), sp_inv2 n S → ev_gd S.2.1 E → ∀ S' l', sp_run g n f l S = .inr (S', l') → ev_gd S'.2.1 (ev_run g n f S E) ∧ sp_inv2 n S'
  | 0, l, S, E, hv, he, S', l', h => by
    cases h
    exact ⟨he, hv⟩
  | f + 1, l, S, E, hv, he, S', l', h => by
    have hgo := sp_line_go (g := g) hv
    have hlo := fun (S2 : sp_S) => ev_line_gd (g := g) (S' := S2) hv he
    have herun : ev_run g n (f + 1) S E = if S.1.1 = 0 then E else match sp_line g n S with
        | .inl _ => E
        | .inr S' => ev_run g n f S' (ev_line g n S E) := rfl
    rw [herun]
    unfold sp_run at h
    split at h
    · rename_i h0
      rw [if_pos h0]
      cases h
      exact ⟨he, hv⟩
    · rename_i h0
      rw [if_neg h0]
      generalize sp_line g n S = RR at hgo h hlo
      cases RR with
      | inl y =>
        have h : (Sum.inl y : (Nat × Nat) ⊕ (sp_S × Nat)) = .inr (S', l') := h
        cases h
      | inr S2 =>
        have h : sp_run g n f (l + 1) S2 = .inr (S', l') := h
        exact ev_run_gd f (l + 1) S2 (ev_line g n S E) hgo.1 (hlo S2 rfl) S' l' h
theorem sp_run_pos {g : Nat → Int} {n : Nat} : ∀ (f l : Nat) (S : sp_S), sp_inv2 n S → match sp_run g n f l S with
    | .inl x => 1 ≤ x.1
    | .inr _ => True
  | 0, l, S, hv => trivial
  | f + 1, l, S, hv => by
    have hgo := sp_line_go (g := g) hv
    unfold sp_run
    by_cases h0 : S.1.1 = 0
    · rw [if_pos h0]
      trivial
    · rw [if_neg h0]
      generalize sp_line g n S = RR at hgo
      cases RR with
      | inl x => exact hgo.1
      | inr S2 => exact sp_run_pos f (l + 1) S2 hgo.1
theorem ev_0_gd : ev_gd 0 ev_0 := ⟨fun i hi => absurd hi (Nat.not_lt_zero _), by unfold ev_0; rw [if_pos rfl]; omega, by unfold ev_0; rw [if_neg (by decide)]; omega⟩
/-- a text without a fault tells a good page, and acts at tests that there are -/
theorem ev_text_gd {g : Nat → Int} {n : Nat} (h : (sp_text g n).1 = 0) (hok : ev_ok (sp_cnt g n) (ev_text g n)) : good (sp_cnt g n) (ev_text g n) ∧ sp_cnt g n ≤ 4 ∧ sp_acn g n ≤ 8 ∧ ∀ j, j < sp_acn g n → ((ev_acts g n).getD j 0 = 4 ∨ (0 ≤ (ev_acts g n).getD j 0 ∧ (ev_acts g n).getD j 0 < (sp_cnt g n : Int))) := by
  have hrun := ev_run_gd (g := g) (n := n) 161 0 (sp_tok g n 0, 0, 0, []) ev_0 sp_start ev_0_gd
  unfold sp_text at h
  unfold ev_text sp_cnt at hok ⊢
  unfold sp_acn ev_acts
  generalize hR : sp_run g n 161 0 (sp_tok g n 0, 0, 0, []) = RR at h hrun hok ⊢
  match RR, h, hrun, hok with
  | .inl x, h, _, _ =>
    exfalso
    have h : x.1 = 0 := h
    have hgo := sp_run_pos (g := g) (n := n) 161 0 (sp_tok g n 0, 0, 0, []) sp_start
    rw [hR] at hgo
    have hgo : 1 ≤ x.1 := hgo
    omega
  | .inr (S, l), h, hrun, hok =>
    obtain ⟨hgd, hv⟩ := hrun S l rfl
    have h : (if (S.2.1 : Int) ≤ sp_high S.2.2.2 then ((6 : Nat), n, (0 : Nat)) else (0, 0, l)).1 = 0 := h
    have hh : ¬ (S.2.1 : Int) ≤ sp_high S.2.2.2 := fun hc => by
      rw [if_pos hc] at h
      exact absurd (show (6 : Nat) = 0 from h) (by decide)
    have hok : ev_ok S.2.1 (ev_run g n 161 (sp_tok g n 0, 0, 0, []) ev_0) := hok
    have hc4 : S.2.1 ≤ 4 := hv.1.2.2.1
    have ha := hv.2.1
    refine ⟨⟨fun i hi => ?_, hgd.2.1, hgd.2.2.1, Int.le_trans hgd.2.2.2 (by decide)⟩, hc4, ha.1, fun j hj => ?_⟩
    · have hi : i < S.2.1 := hi
      obtain ⟨x1, x2, x3, x4⟩ := hgd.1 i hi
      exact ⟨x1, x2, ⟨x3, (hok i (by omega)).1 hi⟩, x4⟩
    · have hj : j < S.2.2.2.length := hj
      show S.2.2.2.getD j 0 = 4 ∨ (0 ≤ S.2.2.2.getD j 0 ∧ S.2.2.2.getD j 0 < (S.2.1 : Int))
      have hm : S.2.2.2.getD j 0 ∈ S.2.2.2 := by
        rw [List.getD_eq_getElem?_getD, List.getElem?_eq_getElem hj]
        exact List.getElem_mem hj
      obtain ⟨b1, b2⟩ := ha.2 _ hm
      by_cases h4 : S.2.2.2.getD j 0 = 4
      · exact Or.inl h4
      · refine Or.inr ⟨b1, ?_⟩
        by_cases hlt : S.2.2.2.getD j 0 < (S.2.1 : Int)
        · exact hlt
        · exact absurd ((sp_high_iff (by omega)).mpr ⟨_, hm, by omega, by omega⟩) hh
