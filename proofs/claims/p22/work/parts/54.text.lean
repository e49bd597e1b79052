/-! a text's answer hangs on its bytes alone -/
section CGR
variable {g g' : Nat → Int} {n : Nat}
theorem sp_stop_c (h : sp_tok g n = sp_tok g' n) : sp_stop g n = sp_stop g' n := by
  funext a b c d
  unfold sp_stop
  rw [h]
theorem sp_t3_c (h : sp_tok g n = sp_tok g' n) : sp_t3 g n = sp_t3 g' n := by
  funext a b c d
  unfold sp_t3
  rw [h, sp_stop_c h]
theorem sp_t2_c (h : sp_tok g n = sp_tok g' n) : sp_t2 g n = sp_t2 g' n := by
  funext a b c d e
  unfold sp_t2
  rw [h, sp_stop_c h, sp_t3_c h]
theorem sp_t1_c (h : sp_tok g n = sp_tok g' n) : sp_t1 g n = sp_t1 g' n := by
  funext a b c d
  unfold sp_t1
  rw [h, sp_t2_c h]
theorem sp_o1_c (h : sp_tok g n = sp_tok g' n) : sp_o1 g n = sp_o1 g' n := by
  funext a b c d e
  unfold sp_o1
  rw [h, sp_stop_c h]
theorem sp_p1_c (h : sp_tok g n = sp_tok g' n) : sp_p1 g n = sp_p1 g' n := by
  funext a b c
  unfold sp_p1
  rw [sp_stop_c h]
theorem sp_plan_c (h : sp_tok g n = sp_tok g' n) : ∀ (f : Nat) (tk : sp_T) (as : List Int), sp_plan g n f tk as = sp_plan g' n f tk as
  | 0, _, _ => rfl
  | f + 1, tk, as => by
    unfold sp_plan
    rw [h, sp_plan_c h f]
theorem sp_word1_c (h : sp_tok g n = sp_tok g' n) : sp_word1 g n = sp_word1 g' n := by
  funext w S
  unfold sp_word1
  rw [h, sp_t1_c h, sp_o1_c h, sp_p1_c h, sp_plan_c h]
theorem sp_line_c (h : sp_tok g n = sp_tok g' n) (h160 : ∀ i, i < 160 → g i = g' i) {S : sp_S} (hS : S.1.2.2.1 ≤ 160) : sp_line g n S = sp_line g' n S := by
  unfold sp_line
  rw [sp_word1_c h, sp_word_congr (g := g) (g' := g') (fun i h1 h2 => h160 i (by omega))]
theorem sp_run_c (h : sp_tok g n = sp_tok g' n) (h160 : ∀ i, i < 160 → g i = g' i) (hn : n ≤ 160) : ∀ (f l : Nat) (S : sp_S), sp_inv2 n S → sp_run g n f l S = sp_run g' n f l S
  | 0, _, _, _ => rfl
  | f + 1, l, S, hv => by
    have hgo := sp_line_go (g := g) hv
    have he : sp_line g n S = sp_line g' n S := sp_line_c h h160 (by have := hv.1.2.2.2.2.2; omega)
    unfold sp_run
    rw [← he]
    generalize sp_line g n S = RR at hgo
    cases RR with
    | inl x => rfl
    | inr S' =>
      show (if S.1.1 = 0 then _ else sp_run g n f (l + 1) S') = (if S.1.1 = 0 then _ else sp_run g' n f (l + 1) S')
      rw [sp_run_c h h160 hn f (l + 1) S' hgo.1]
theorem sp_ret_c (h160 : ∀ i, i < 160 → g i = g' i) (hn : n ≤ 160) : sp_ret g n = sp_ret g' n ∧ sp_text g n = sp_text g' n ∧ sp_cnt g n = sp_cnt g' n ∧ sp_acn g n = sp_acn g' n := by
  have h : sp_tok g n = sp_tok g' n := funext fun p => sp_tok_congr hn h160
  have e : sp_text g n = sp_text g' n := by
    unfold sp_text
    rw [sp_run_c h h160 hn 161 0 _ sp_start, h]
  refine ⟨?_, e, ?_, ?_⟩
  · unfold sp_ret
    rw [e]
  · unfold sp_cnt
    rw [sp_run_c h h160 hn 161 0 _ sp_start, h]
  · unfold sp_acn
    rw [sp_run_c h h160 hn 161 0 _ sp_start, h]
end CGR
/-! text of the class -/
def tx_We : List (Nat × Nat × Nat) := [(0, 9, 10), (26, 1, 11), (28, 0, 4), (29, 0, 4), (30, 0, 4), (31, 0, 4), (32, 0, 4), (33, 0, 8)]
def tx_W : List (Nat × Nat × Nat) := [(0, 9, 10), (1, 0, 4), (2, 0, 4), (3, 0, 4), (4, 0, 4), (5, 0, 4), (6, 0, 8), (25, 0, 2), (26, 1, 11), (28, 0, 4), (29, 0, 4), (30, 0, 4), (31, 0, 4), (32, 0, 4), (33, 0, 8), (34, 0, 1)]
def tx_lo : List (Nat × ai_v) := [(0, (0, 0, 0, 0))]
def tx_0 : ai_s := (0, tx_lo, [], [(0, 0, false, 0, 0), (0, 2555, false, 1, 0)], [], [])
theorem tx_r0 : ((ai_ex (hk []) 20 48 tb_m48 10 [4] tx_0).any fun xs => xs.all fun x => Nat.beq x.1 4 && (decide (x.2.2.1 = [(0, 26, 0, 0)]) && decide (x.2.1 = tx_lo))) = true := by decide +kernel
def tx_e : ai_s := (7, tx_lo, [], [(0, 0, false, 0, 0), (0, 2555, false, 1, 0), (1, 6, false, 2, 0), (0, 160, false, 3, 0)], [(26, 5, (1, 2, 0, 0)), (26, 6, (1, 3, 0, 0))], [])
def tx_eok (x : ai_s) : Bool := Nat.beq x.1 43 && (c6 x 1 (1, 0, 0, 0) && (decide (ai_lk x.2.2.2.2.1 0 9 = some (1, 2, 0, 0)) && match x.2.2.1 with
  | [v] => decide (v = (1, v.2.1, 0, 0)) && av_f x 0 0 3 (some v.2.1) 10
  | _ => false))
theorem tx_re : ((ai_ex (hk tx_We) 200 48 tb_m48 10 [] tx_e).any fun xs => xs.all tx_eok) = true := by decide +kernel
/-- the rows of an evening, as values -/
theorem vi_rows {ad : List Nat} {tys : ai_ty} {ws : va_W} {k n : Nat} {lo hi : Int} (h : ai_wd tb_TY ad tys ws) (hk : tb_TY[k]? = some (1, n, [(1, 0, lo, hi)])) : ∃ K : Nat → Int, ∀ i, i < n → vi ws k i (K i) ∧ lo ≤ K i ∧ K i ≤ hi := by
  obtain ⟨a, e, h1, h2, h3⟩ := h.get hk
  rcases h3 with ⟨q, -⟩ | ⟨-, cA, f, rfl, -, h4⟩ | ⟨q, -⟩ | ⟨q, -⟩
  · exact absurd (id q : (1 : Nat) = 0) (by decide)
  · refine ⟨fun i => (f i).toInt, fun i hi' => ?_⟩
    have h5 := h4 i (1, 0, lo, hi) hi' (by unfold ai_pt; show [((1 : Nat), (0 : Nat), lo, hi)][i % 1]? = _; rw [Nat.mod_one]; rfl)
    exact ⟨⟨f i, ⟨a, _, h1, Or.inr ⟨cA, n, f, rfl, hi', rfl⟩⟩, rfl⟩, h5.1, h5.2⟩
  · exact absurd (id q : (1 : Nat) = 3) (by decide)
  · exact absurd (id q : (1 : Nat) = 4) (by decide)
theorem vi.fun {ws : va_W} {k i : Nat} {z y : Int} (h : vi ws k i z) (h' : vi ws k i y) : z = y := by
  obtain ⟨j, j1, j2⟩ := h
  obtain ⟨j', j1', j2'⟩ := h'
  cases j1.fun j1'
  omega
theorem vi_fd {T : List ai_c} {ad : List Nat} {tys : ai_ty} {ws : va_W} {k ci i : Nat} {F : List ai_f} {lo hi z : Int} (hw : ai_wd T ad tys ws) (h : vi ws k i z) (hT : T[k]? = some (0, ci, F)) (hF : F[i]? = some (1, 0, lo, hi)) : lo ≤ z ∧ z ≤ hi := by
  obtain ⟨y, h1, h2, h3⟩ := pl_f hw hT hF
  obtain ⟨j, j1, j2⟩ := h
  have := j1.fun h1
  cases this
  omega
def tx_o : ai_s := (7, tx_lo, [], [(0, 0, false, 0, 0), (0, 2555, false, 1, 0), (-2147483648, 2147483647, false, 2, 0), (0, 4, false, 3, 0), (0, 8, false, 4, 0), (0, 20, false, 5, 0), (-2147483648, 2147483647, false, 6, 0), (-2147483648, 2147483647, false, 7, 0), (-2147483648, 2147483647, false, 8, 0), (-2147483648, 2147483647, false, 9, 0), (-2147483648, 2147483647, false, 10, 0), (0, 99, false, 11, 0), (0, 99, false, 12, 0), (0, 99, false, 13, 0), (0, 99, false, 14, 0), (0, 99, false, 15, 0), (0, 99, false, 16, 0), (0, 99, false, 17, 0), (0, 99, false, 18, 0), (0, 99, false, 19, 0), (0, 99, false, 20, 0), (0, 99, false, 21, 0), (0, 99, false, 22, 0), (-2147483648, 2147483647, false, 23, 0), (-2147483648, 2147483647, false, 24, 0), (-2147483648, 2147483647, false, 25, 0), (-2147483648, 2147483647, false, 26, 0), (-2147483648, 2147483647, false, 27, 0), (-2147483648, 2147483647, false, 28, 0), (-2147483648, 2147483647, false, 29, 0), (-2147483648, 2147483647, false, 30, 0)], [(26, 5, (1, 0, 0, 0)), (26, 4, (1, 2, 0, 0)), (28, 0, (1, 3, 0, 0)), (28, 3, (1, 4, 0, 0)), (28, 1, (1, 5, 0, 0)), (28, 2, (1, 6, 0, 0)), (29, 0, (1, 7, 0, 0)), (29, 1, (1, 8, 0, 0)), (29, 2, (1, 9, 0, 0)), (29, 3, (1, 10, 0, 0)), (30, 0, (1, 11, 0, 0)), (30, 1, (1, 12, 0, 0)), (30, 2, (1, 13, 0, 0)), (30, 3, (1, 14, 0, 0)), (31, 0, (1, 15, 0, 0)), (31, 1, (1, 16, 0, 0)), (31, 2, (1, 17, 0, 0)), (31, 3, (1, 18, 0, 0)), (32, 0, (1, 19, 0, 0)), (32, 1, (1, 20, 0, 0)), (32, 2, (1, 21, 0, 0)), (32, 3, (1, 22, 0, 0)), (33, 0, (1, 23, 0, 0)), (33, 1, (1, 24, 0, 0)), (33, 2, (1, 25, 0, 0)), (33, 3, (1, 26, 0, 0)), (33, 4, (1, 27, 0, 0)), (33, 5, (1, 28, 0, 0)), (33, 6, (1, 29, 0, 0)), (33, 7, (1, 30, 0, 0))], [])
def tx_rows (x : ai_s) : Bool := lkq x 1 1 (1, 5, 0, 0) && (lkq x 1 2 (1, 6, 0, 0) && (((List.range 4).all fun i => lkq x 2 i (1, 7 + i, 0, 0) && (lkq x 3 i (1, 11 + i, 0, 0) && (lkq x 4 i (1, 15 + i, 0, 0) && lkq x 5 i (1, 19 + i, 0, 0)))) && (List.range 8).all fun i => lkq x 6 i (1, 23 + i, 0, 0)))
def tx_ook (x : ai_s) : Bool := Nat.beq x.1 87 && (c6 x 1 (1, 0, 0, 0) && (decide (ai_lk x.2.2.2.2.1 0 9 = some (1, 0, 0, 0)) && (decide (x.2.2.1 = [(1, 2, 0, 0)]) && (decide (ai_lk x.2.2.2.2.1 1 0 = some (1, 3, 0, 0)) && (decide (ai_lk x.2.2.2.2.1 1 3 = some (1, 4, 0, 0)) && (decide (ai_lk x.2.2.2.2.1 34 0 = some (1, 0, 0, 0)) && (decide (ai_lk x.2.2.2.2.1 25 0 = some (1, 0, 0, 0)) && (decide (ai_lk x.2.2.2.2.1 25 1 = some (1, 0, 0, 0)) && tx_rows x))))))))
theorem tx_ro : ((ai_ex (hk tx_W) 2000 48 tb_m48 10 [] tx_o).any fun xs => xs.all tx_ook) = true := by decide +kernel
