section
/-! .. as pages -/
def good (n : Nat) (E : Nat → Int) : Prop := (∀ i, i < n → (0 ≤ E i ∧ E i ≤ 3) ∧ (1 ≤ E (4 + i) ∧ E (4 + i) ≤ 99) ∧ (0 ≤ E (8 + i) ∧ E (8 + i) ≤ E (4 + i)) ∧ (0 ≤ E (12 + i) ∧ E (12 + i) ≤ 99)) ∧ (0 ≤ E 16 ∧ E 16 ≤ 20) ∧ (0 ≤ E 17 ∧ E 17 ≤ 999)
def ev_pull (E : Nat → Int) (t : Nat) : Nat → Int := fun j => if j = 8 + t then min (E (4 + t)) (E (8 + t) + yl (E t) (E 16) (E (12 + t))) else if j = 12 + t then min 99 (E (12 + t) + 1) else if j = 17 then (if 2 * yl (E t) (E 16) (E (12 + t)) < E 16 then min 999 (E 17 + 1) else E 17) else if j = 16 then E 16 - 1 else E j
def ev_pl (E : Nat → Int) (t : Nat) : Nat → Int := if 1 ≤ E 16 ∧ E (8 + t) < E (4 + t) then ev_pull E t else E
def ev_pr (E : Nat → Int) (t : Nat) : Int := if 1 ≤ E 16 ∧ E (8 + t) < E (4 + t) then min (E (4 + t)) (E (8 + t) + yl (E t) (E 16) (E (12 + t))) - E (8 + t) else -2
theorem ev_pull_ne {E : Nat → Int} {t j : Nat} (h1 : j ≠ 8 + t) (h2 : j ≠ 12 + t) (h3 : j ≠ 17) (h4 : j ≠ 16) : ev_pull E t j = E j := by
  unfold ev_pull
  rw [if_neg h1, if_neg h2, if_neg h3, if_neg h4]
theorem ev_pl_ne {E : Nat → Int} {t j : Nat} (h1 : j ≠ 8 + t) (h2 : j ≠ 12 + t) (h3 : j ≠ 17) (h4 : j ≠ 16) : ev_pl E t j = E j := by
  unfold ev_pl
  split
  · exact ev_pull_ne h1 h2 h3 h4
  · rfl
theorem ev_pull_at {E : Nat → Int} {t : Nat} (ht : t < 4) : ev_pull E t (8 + t) = min (E (4 + t)) (E (8 + t) + yl (E t) (E 16) (E (12 + t))) ∧ ev_pull E t (12 + t) = min 99 (E (12 + t) + 1) ∧ ev_pull E t 17 = (if 2 * yl (E t) (E 16) (E (12 + t)) < E 16 then min 999 (E 17 + 1) else E 17) ∧ ev_pull E t 16 = E 16 - 1 := by
  unfold ev_pull
  refine ⟨if_pos rfl, ?_, ?_, ?_⟩
  · rw [if_neg (by omega), if_pos rfl]
  · rw [if_neg (by omega), if_neg (by omega), if_pos rfl]
  · rw [if_neg (by omega), if_neg (by omega), if_neg (by omega), if_pos rfl]
theorem pl_use {E : Nat → Int} {t : Nat} (ht : t < 4) {v0 v1 v2 v3 w : Int} (h : pl_rel (E t) (E (4 + t)) (E (8 + t)) (E (12 + t)) (E 16) (E 17) v0 v1 v2 v3 w) : v0 = ev_pl E t (8 + t) ∧ v1 = ev_pl E t (12 + t) ∧ v2 = ev_pl E t 17 ∧ v3 = ev_pl E t 16 ∧ w = ev_pr E t := by
  obtain ⟨a1, a2, a3, a4⟩ := ev_pull_at (E := E) ht
  unfold ev_pl ev_pr
  rcases h with ⟨h1, h2, h3, h4, h5, h6, h7⟩ | ⟨h1, h2, h3, h4, h5, h6⟩
  · rw [if_pos ⟨h1, h2⟩, if_pos ⟨h1, h2⟩, a1, a2, a3, a4]
    exact ⟨h3, h4, h5, h6, by rw [h7, h3]⟩
  · rw [if_neg h1, if_neg h1]
    exact ⟨h2, h3, h4, h5, h6⟩
theorem yl_nn {k s p : Int} (hs : 0 ≤ s) : 0 ≤ yl k s p := by
  have := yl_eq k s p
  omega
theorem good_pl {n t : Nat} {E : Nat → Int} (hn : n ≤ 4) (ht : t < n) (h : good n E) : good n (ev_pl E t) := by
  unfold ev_pl
  split
  · rename_i hc
    obtain ⟨h1, h2, h3⟩ := h
    obtain ⟨a1, a2, a3, a4⟩ := ev_pull_at (E := E) (t := t) (by omega)
    have hy := yl_nn (k := E t) (p := E (12 + t)) h2.1
    refine ⟨fun i hi => ?_, ?_, ?_⟩
    · obtain ⟨b1, b2, b3, b4⟩ := h1 i hi
      rw [ev_pull_ne (j := i) (by omega) (by omega) (by omega) (by omega), ev_pull_ne (j := 4 + i) (by omega) (by omega) (by omega) (by omega)]
      by_cases hit : i = t
      · subst hit
        rw [a1, a2]
        exact ⟨b1, b2, by omega, by omega⟩
      · rw [ev_pull_ne (j := 8 + i) (by omega) (by omega) (by omega) (by omega), ev_pull_ne (j := 12 + i) (by omega) (by omega) (by omega) (by omega)]
        exact ⟨b1, b2, b3, b4⟩
    · rw [a4]
      omega
    · rw [a3]
      split <;> omega
  · exact h
theorem wr_no {W : List (Nat × Nat × Nat)} {c i : Nat} (h : ∀ q ∈ W, q.1 ≠ 1000 ∧ (q.1 = c → i < q.2.1 ∨ q.2.2 ≤ i)) : ai_wr W c i i = false := by
  rw [Bool.eq_false_iff]
  intro hw
  unfold ai_wr at hw
  obtain ⟨q, hq, h1⟩ := List.any_eq_true.mp hw
  simp only [Bool.and_eq_true, Bool.or_eq_true, decide_eq_true_eq] at h1
  obtain ⟨a1, a2⟩ := h q hq
  rcases h1.1.1 with h2 | h2
  · have := a2 h2
    omega
  · exact a1 h2
theorem cev_pl {W : List (Nat × Nat × Nat)} {ws ws' : va_W} {c n t : Nat} {E : Nat → Int} (hn : n ≤ 4) (ht : t < n) (h : cev ws c n E) (hf : ai_fr W ws ws') (w1 : ∀ i, ai_wr W (c + 1) i i = false) (w2 : ∀ i, ai_wr W (c + 2) i i = false) (w3 : ∀ i, i ≠ t → ai_wr W (c + 3) i i = false) (w4 : ∀ i, i ≠ t → ai_wr W (c + 4) i i = false) (v3 : vi ws' (c + 3) t (ev_pl E t (8 + t))) (v4 : vi ws' (c + 4) t (ev_pl E t (12 + t))) (v1 : vi ws' c 1 (ev_pl E t 16)) (v2 : vi ws' c 2 (ev_pl E t 17)) : cev ws' c n (ev_pl E t) := by
  refine ⟨fun i hi => ?_, v1, v2⟩
  obtain ⟨a1, a2, a3, a4⟩ := h.1 i hi
  rw [ev_pl_ne (j := i) (by omega) (by omega) (by omega) (by omega), ev_pl_ne (j := 4 + i) (by omega) (by omega) (by omega) (by omega)]
  refine ⟨a1.fr hf (w1 i), a2.fr hf (w2 i), ?_⟩
  by_cases hit : i = t
  · subst hit
    exact ⟨v3, v4⟩
  · rw [ev_pl_ne (j := 8 + i) (by omega) (by omega) (by omega) (by omega), ev_pl_ne (j := 12 + i) (by omega) (by omega) (by omega) (by omega)]
    exact ⟨a3.fr hf (w3 i hit), a4.fr hf (w4 i hit)⟩
/-- the reference's page at pg, as far as its first n tests go -/
def pev (ws : va_W) (pg n : Nat) (E : Nat → Int) : Prop := (∀ i, i < n → vi ws 50 (i + pg) (E i) ∧ vi ws 50 (4 + i + pg) (E (4 + i)) ∧ vi ws 50 (8 + i + pg) (E (8 + i)) ∧ vi ws 50 (12 + i + pg) (E (12 + i))) ∧ vi ws 50 (16 + pg) (E 16 - 10) ∧ vi ws 50 (17 + pg) (E 17)
theorem pev.fr {W : List (Nat × Nat × Nat)} {ws ws' : va_W} {pg n : Nat} {E : Nat → Int} (hn : n ≤ 4) (h : pev ws pg n E) (hf : ai_fr W ws ws') (hw : ∀ j, j < 18 → ai_wr W 50 (j + pg) (j + pg) = false) : pev ws' pg n E := by
  refine ⟨fun i hi => ?_, h.2.1.fr hf (hw 16 (by omega)), h.2.2.fr hf (hw 17 (by omega))⟩
  obtain ⟨a1, a2, a3, a4⟩ := h.1 i hi
  exact ⟨a1.fr hf (hw i (by omega)), a2.fr hf (hw (4 + i) (by omega)), a3.fr hf (hw (8 + i) (by omega)), a4.fr hf (hw (12 + i) (by omega))⟩
theorem pev_pl {W : List (Nat × Nat × Nat)} {ws ws' : va_W} {pg n t : Nat} {E : Nat → Int} (hn : n ≤ 4) (ht : t < n) (h : pev ws pg n E) (hf : ai_fr W ws ws') (hw : ∀ j, j ≠ 8 + t → j ≠ 12 + t → j < 16 → ai_wr W 50 (j + pg) (j + pg) = false) (v3 : vi ws' 50 (8 + t + pg) (ev_pl E t (8 + t))) (v4 : vi ws' 50 (12 + t + pg) (ev_pl E t (12 + t))) (v1 : vi ws' 50 (16 + pg) (ev_pl E t 16 - 10)) (v2 : vi ws' 50 (17 + pg) (ev_pl E t 17)) : pev ws' pg n (ev_pl E t) := by
  refine ⟨fun i hi => ?_, v1, v2⟩
  obtain ⟨a1, a2, a3, a4⟩ := h.1 i hi
  rw [ev_pl_ne (j := i) (by omega) (by omega) (by omega) (by omega), ev_pl_ne (j := 4 + i) (by omega) (by omega) (by omega) (by omega)]
  refine ⟨a1.fr hf (hw i (by omega) (by omega) (by omega)), a2.fr hf (hw (4 + i) (by omega) (by omega) (by omega)), ?_⟩
  by_cases hit : i = t
  · subst hit
    exact ⟨v3, v4⟩
  · rw [ev_pl_ne (j := 8 + i) (by omega) (by omega) (by omega) (by omega), ev_pl_ne (j := 12 + i) (by omega) (by omega) (by omega) (by omega)]
    exact ⟨a3.fr hf (hw (8 + i) (by omega) (by omega) (by omega)), a4.fr hf (hw (12 + i) (by omega) (by omega) (by omega))⟩
/-! the walks -/
def pl_en (t : Nat) : List ai_e := [(0, 0, false, 0, 0), (0, 2555, false, 1, 0), (0, 3, false, 2, 0), (1, 99, false, 3, 0), (0, 99, false, 4, 0), (0, 99, false, 5, 0), (0, 20, false, 6, 0), (0, 999, false, 7, 0), ((t : Int) + 1, 4, false, 8, 0)]
def cp_kn (t : Nat) : List ai_k := [(2, t, (1, 2, 0, 0)), (3, t, (1, 3, 0, 0)), (4, t, (1, 4, 0, 0)), (5, t, (1, 5, 0, 0)), (1, 1, (1, 6, 0, 0)), (1, 2, (1, 7, 0, 0)), (1, 0, (1, 8, 0, 0))]
def cp_st (t : Nat) : ai_s := (0, [(0, (0, 0, 0, 0)), (1, (1, 0, 0, (t : Int)))], [], pl_en t, cp_kn t, [])
def cp_W (t : Nat) : List (Nat × Nat × Nat) := [(1, 1, 3), (4, t, t + 1), (5, t, t + 1)]
def mp_W (t : Nat) : List (Nat × Nat × Nat) := [(50, 8 + t, 9 + t), (50, 12 + t, 13 + t), (50, 16, 18)]
def cp_pl (t : Nat) : List (Nat × Nat) := [(4, t), (5, t), (1, 2), (1, 1)]
noncomputable def cp_r (t : Nat) : Bool := (ai_ex (hk (cp_W t)) 900 60 tb_m60 10 [] (cp_st t)).any fun xs => xs.all fun x => (cp_S t).any fun s => sm_is (cp_pl t) x s
theorem cp_r0 : cp_r 0 = true := by decide +kernel
theorem cp_r1 : cp_r 1 = true := by decide +kernel
theorem cp_r2 : cp_r 2 = true := by decide +kernel
theorem cp_r3 : cp_r 3 = true := by decide +kernel
theorem cp_run (t : Nat) (ht : t < 4) : cp_r t = true := match t, ht with
  | 0, _ => cp_r0
  | 1, _ => cp_r1
  | 2, _ => cp_r2
  | 3, _ => cp_r3
  | t + 4, h => absurd h (by omega)
def pl_bad (pc : Nat) (x : ai_s) : Bool := Nat.beq x.1 pc && decide (x.2.2.1 = [(1, 0, 0, -1)])
def pl_o1 (cl : Nat) : ai_s := (0, [(0, (0, cl, 0, 0)), (1, (1, 2, 0, 0))], [], [(0, 0, false, 0, 0), (0, 2555, false, 1, 0), (-2147483648, -1, false, 2, 0)], [], [])
def pl_o2 (cl : Nat) (k i : Nat) : ai_s := (0, [(0, (0, cl, 0, 0)), (1, (1, 2, 0, 0))], [], [(0, 0, false, 0, 0), (0, 2555, false, 1, 0), (0, 2147483647, false, 2, 0), (0, 4, false, 3, 0)], [(k, i, (1, 3, 0, 0))], [(5, 2, 3, 2, 0)])
theorem cp_o1 : ((ai_ex (hk []) 200 60 tb_m60 10 [] (pl_o1 0)).any fun xs => xs.all (pl_bad 12)) = true := by decide +kernel
theorem cp_o2 : ((ai_ex (hk []) 200 60 tb_m60 10 [] (pl_o2 0 1 0)).any fun xs => xs.all (pl_bad 12)) = true := by decide +kernel
theorem mp_o1 : ((ai_ex (hk []) 200 131 tb_m131 9 [] (pl_o1 49)).any fun xs => xs.all (pl_bad 9)) = true := by decide +kernel
theorem mp_o2 : ((ai_ex (hk []) 200 131 tb_m131 9 [] (pl_o2 49 49 1)).any fun xs => xs.all (pl_bad 9)) = true := by decide +kernel
section PLA
variable {ad : List Nat} {p : Program} {l : Launch} {e : Env} {R : Room} {s : State} {m : MethodId} {args : Array Value} {below : List Frame} {meth : Method} {c : Code} {D : va_G} {tys : ai_ty} {A : Nat → Prop} {b L : Nat} {sx : Nat → Int32} {cells slots : Nat} {Q : State → Prop}
theorem int_dv {n : Nat} {o z : Int} {i : Int32} {r : List Int} (hr : r[n]? = some z) (hi : i.toInt = z + o) : ai_dv ad b r (1, n, 0, o) (.int i) := Or.inr (Or.inl ⟨rfl, z, i, hr, rfl, hi⟩)
/-- one int on the stack -/
theorem sk1 {r : List Int} {v : ai_v} {sk : List Value} (hv : v.1 = 1) (h : ai_sk ad b r [v] sk) : ∃ i : Int32, sk = [.int i] ∧ i.toInt = vn r v := by
  obtain ⟨x, ys, rfl, h1, h2⟩ := h.cons
  rw [h2.nil]
  rcases h1 with ⟨q, -⟩ | ⟨-, z, i, h3, rfl, h5⟩ | ⟨q, -⟩ | ⟨q, -⟩ | ⟨q, -⟩
  · omega
  · refine ⟨i, rfl, ?_⟩
    unfold vn
    rw [nm_of h3]
    exact h5
  all_goals omega
/-- what a pull of the class's evening leaves -/
def cp_P (ad : List Nat) (tys : ai_ty) (n : Nat) (E : Nat → Int) (z : Int) (ws ws' : va_W) (z' : Int32) : Prop := ai_wd tb_TY ad tys ws' ∧ (if 0 ≤ z ∧ z < n then ai_fr (cp_W z.toNat) ws ws' ∧ cev ws' 1 n (ev_pl E z.toNat) ∧ z'.toInt = ev_pr E z.toNat else ai_fr [] ws ws' ∧ z'.toInt = -1)
theorem cp_all {n a : Nat} {E : Nat → Int} {z : Int32} {ws : va_W} (C : ai_cx tb_m60 10 p R s m args c D tys A b L sx cells slots) (hw : ai_wd tb_TY ad tys ws) (ha : ad[0]? = some a) (hn4 : n ≤ 4) (hn : vi ws 1 0 n) (hc : cev ws 1 n E) (hg : good n E)
    (k : ∀ (pcr : Nat) (ws' : va_W) (z' : Int32) (lv' : List (Nat × Value)), pcr ∈ [12, 37] → cp_P ad tys n E z.toInt ws ws' z' → hG tb_m60 p l e R s m args below meth c D A cells slots Q pcr lv' [.int z'] ws') : hG tb_m60 p l e R s m args below meth c D A cells slots Q 0 [(0, .ref a), (1, .int z)] [] ws := by
  have hz1 := Int32.le_toInt z
  have hz2 := Int32.toInt_lt z
  by_cases hin : 0 ≤ z.toInt ∧ z.toInt < n
  · obtain ⟨t, ht⟩ : ∃ t : Nat, z.toInt = (t : Int) := ⟨z.toInt.toNat, by omega⟩
    have htn : t < n := by omega
    obtain ⟨v1, v2, v3, v4⟩ := hc.1 t htn
    obtain ⟨b1, b2, b3, b4⟩ := hg.1 t htn
    obtain ⟨b5, b6⟩ := hg.2
    refine hsum (st := cp_st t) (cp_run t (by omega)) rfl C (r := [0, 0, E t, E (4 + t), E (8 + t), E (12 + t), E 16, E 17, (n : Int)]) ⟨en_mk (by simp only [cp_st, pl_en, en_b, and_true]; omega) rfl, sb0, ⟨rfl, Or.inl ⟨rfl, a, ha, rfl⟩, rfl, int_dv (z := 0) rfl (by omega), trivial⟩, trivial, hw, kc (v1.kn (n := 2) (t := E t) rfl (by omega)) (kc (v2.kn (n := 3) (t := E (4 + t)) rfl (by omega)) (kc (v3.kn (n := 4) (t := E (8 + t)) rfl (by omega)) (kc (v4.kn (n := 5) (t := E (12 + t)) rfl (by omega)) (kc (hc.2.1.kn (n := 6) (t := E 16) rfl (by omega)) (kc (hc.2.2.kn (n := 7) (t := E 17) rfl (by omega)) (kc (hn.kn (n := 8) (t := (n : Int)) rfl (by omega)) k0)))))), fun _ _ _ _ h => h, fun h => by cases h⟩ (fun x hx r' lv' sk' ws' hx' hb hl hs hlo hsk hw' hv hf _ => ?_)
    have core := cp_core hx hb hl (by rw [nm_x hx' (k := 4) rfl, nm_x hx' (k := 3) rfl]; exact b3.2) (nm_x hx' (k := 0) rfl)
    have hpc : x.1 = 37 := List.all_eq_true.mp (show ((cp_S t).all fun x => Nat.beq x.1 37) = true by rfl) x hx |> ai_beq.mp
    unfold pl_out at core
    split at core
    · rename_i w0 w1 w2 w3 w hvs hss
      rw [hvs] at hv
      rw [hss] at hsk
      rw [nm_x hx' (k := 2) rfl, nm_x hx' (k := 3) rfl, nm_x hx' (k := 4) rfl, nm_x hx' (k := 5) rfl, nm_x hx' (k := 6) rfl, nm_x hx' (k := 7) rfl] at core
      obtain ⟨u0, u1, u2, u3, u4⟩ := pl_use (by omega) core
      obtain ⟨q0, q1, q2, q3, -⟩ := hv
      have hw1 : w.1 = 1 := by
        have h1 := List.all_eq_true.mp (show ((cp_S t).all fun x => x.2.2.1.all fun v => Nat.beq v.1 1) = true by rfl) x hx
        rw [hss] at h1
        exact ai_beq.mp (List.all_eq_true.mp h1 w List.mem_cons_self)
      obtain ⟨i, rfl, hi⟩ := sk1 hw1 hsk
      rw [hpc]
      refine k 37 ws' i lv' (by decide) ⟨hw', ?_⟩
      rw [if_pos hin]
      have htt : z.toInt.toNat = t := by omega
      rw [htt]
      refine ⟨hf, cev_pl hn4 htn hc hf (fun i => wr_no fun q hq => ?_) (fun i => wr_no fun q hq => ?_) (fun i hi => wr_no fun q hq => ?_) (fun i hi => wr_no fun q hq => ?_) ?_ ?_ ?_ ?_, by rw [hi]; exact u4⟩
      · unfold cp_W at hq
        simp only [List.mem_cons, List.not_mem_nil, or_false] at hq
        rcases hq with rfl | rfl | rfl <;> dsimp only <;> omega
      · unfold cp_W at hq
        simp only [List.mem_cons, List.not_mem_nil, or_false] at hq
        rcases hq with rfl | rfl | rfl <;> dsimp only <;> omega
      · unfold cp_W at hq
        simp only [List.mem_cons, List.not_mem_nil, or_false] at hq
        rcases hq with rfl | rfl | rfl <;> dsimp only <;> omega
      · unfold cp_W at hq
        simp only [List.mem_cons, List.not_mem_nil, or_false] at hq
        rcases hq with rfl | rfl | rfl <;> dsimp only <;> omega
      · rw [← u0]; exact q0
      · rw [← u1]; exact q1
      · rw [← u3, Int.add_zero]; exact q3
      · rw [← u2]; exact q2
    · exact core.elim
  · have fin : ∀ {st : ai_s} {r : List Int}, ((ai_ex (hk []) 200 60 tb_m60 10 [] st).any fun xs => xs.all (pl_bad 12)) = true → st.1 = 0 → r[0]? = some 0 → ai_gm tb_TY [] ws ad b L sx tys tb_m60.2.2.2.2.1 r st [(0, .ref a), (1, .int z)] [] ws → hG tb_m60 p l e R s m args below meth c D A cells slots Q 0 [(0, .ref a), (1, .int z)] [] ws := fun {st r} hrun h0 hr0 gm => by
      obtain ⟨xs, y1, y2⟩ := ai_anyE hrun
      suffices key : hG tb_m60 p l e R s m args below meth c D A cells slots Q st.1 [(0, .ref a), (1, .int z)] [] ws by
        rw [h0] at key
        exact key
      refine hseg (st := st) y1 rfl C gm (fun x hx r' lv' sk' ws' hx' g' => ?_)
      obtain ⟨g1, g2, g3, g4, g5, g6, g7, g8⟩ := g'
      have hb := List.all_eq_true.mp y2 x hx
      unfold pl_bad at hb
      rw [Bool.and_eq_true, ai_beq, decide_eq_true_eq] at hb
      rw [hb.2] at g4
      obtain ⟨i, rfl, hi⟩ := sk1 rfl g4
      rw [hb.1]
      refine k 12 ws' i lv' (by decide) ⟨g5, ?_⟩
      rw [if_neg hin]
      refine ⟨g7, ?_⟩
      rw [hi]
      unfold vn
      rw [nm_x hx' hr0]
      rfl
    by_cases hneg : z.toInt < 0
    · exact fin (r := [0, 0, z.toInt]) cp_o1 rfl rfl ⟨en_mk (by simp only [pl_o1, en_b, and_true]; omega) rfl, sb0, ⟨rfl, Or.inl ⟨rfl, a, ha, rfl⟩, rfl, int_dv (z := z.toInt) rfl (by omega), trivial⟩, trivial, hw, k0, fun _ _ _ _ h => h, fun h => by cases h⟩
    · exact fin (r := [0, 0, z.toInt, (n : Int)]) cp_o2 rfl rfl ⟨en_mk (by simp only [pl_o2, en_b, and_true]; omega) rfl, f5 (za := z.toInt) (zb := (n : Int)) rfl rfl (by omega), ⟨rfl, Or.inl ⟨rfl, a, ha, rfl⟩, rfl, int_dv (z := z.toInt) rfl (by omega), trivial⟩, trivial, hw, kc (hn.kn (n := 3) (t := (n : Int)) rfl (by omega)) k0, fun _ _ _ _ h => h, fun h => by cases h⟩
/-- what a pull on the reference's page 0 leaves -/
def mp_P (ad : List Nat) (tys : ai_ty) (n : Nat) (E : Nat → Int) (z : Int) (ws ws' : va_W) (z' : Int32) : Prop := ai_wd tb_TY ad tys ws' ∧ (if 0 ≤ z ∧ z < n then ai_fr (mp_W z.toNat) ws ws' ∧ pev ws' 0 n (ev_pl E z.toNat) ∧ z'.toInt = ev_pr E z.toNat else ai_fr [] ws ws' ∧ z'.toInt = -1)
end PLA
end
section
/-! rests: how strong after so many -/
def ev_rest (E : Nat → Int) (n : Nat) : Nat → Int := ev_up E 16 (min 20 (E 16 + 2 * (n : Int)))
theorem vi.eq {ws : va_W} {k i : Nat} {z y : Int} (h : vi ws k i z) (e : z = y) : vi ws k i y := by
  rw [← e]
  exact h
section RST
variable {ad : List Nat} {p : Program} {l : Launch} {e : Env} {R : Room} {s : State} {m : MethodId} {args : Array Value} {below : List Frame} {meth : Method} {c : Code} {D : va_G} {tys : ai_ty} {A : Nat → Prop} {b L : Nat} {sx : Nat → Int32} {cells slots : Nat} {Q : State → Prop}
theorem lo_int {r : List Int} {i : Nat} {v : ai_v} {lo : List (Nat × ai_v)} {lv : List (Nat × Value)} (hv : v.1 = 1) (h : ai_lo ad b r ((i, v) :: lo) lv) : ∃ (z : Int32) (lv2 : List (Nat × Value)), lv = (i, .int z) :: lv2 ∧ z.toInt = vn r v ∧ ai_lo ad b r lo lv2 := by
  cases lv with
  | nil => exact h.elim
  | cons y ys =>
    obtain ⟨h1, h2, h3⟩ := h
    obtain ⟨y1, y2⟩ := y
    rcases h2 with ⟨q, -⟩ | ⟨-, z, j, h4, h5, h6⟩ | ⟨q, -⟩ | ⟨q, -⟩ | ⟨q, -⟩
    · exact absurd (hv.symm.trans q) (by decide)
    · cases h1
      cases h5
      refine ⟨j, ys, rfl, ?_, h3⟩
      unfold vn
      rw [nm_of h4]
      exact h6
    all_goals exact absurd (hv.symm.trans q) (by decide)
theorem lo_ref {r : List Int} {i cl a : Nat} {lo : List (Nat × ai_v)} {lv : List (Nat × Value)} (ha : ad[cl]? = some a) (h : ai_lo ad b r ((i, (0, cl, 0, 0)) :: lo) lv) : ∃ lv2 : List (Nat × Value), lv = (i, .ref a) :: lv2 ∧ ai_lo ad b r lo lv2 := by
  cases lv with
  | nil => exact h.elim
  | cons y ys =>
    obtain ⟨h1, h2, h3⟩ := h
    obtain ⟨y1, y2⟩ := y
    rcases h2 with ⟨-, q, q1, q2⟩ | ⟨q, -⟩ | ⟨q, -⟩ | ⟨q, -⟩ | ⟨q, -⟩
    · cases h1
      cases q2
      rw [Option.some.inj (q1.symm.trans ha)]
      exact ⟨ys, rfl, h3⟩
    all_goals exact absurd (show (0 : Nat) = _ from q) (by decide)
theorem lo_nil {r : List Int} {lv : List (Nat × Value)} (h : ai_lo ad b r [] lv) : lv = [] := by
  cases lv with
  | nil => rfl
  | cons y ys => exact h.elim
def cr_W : List (Nat × Nat × Nat) := [(1, 1, 1 + 1)]
def cr_lo : List (Nat × ai_v) := [(0, (0, 0, 0, 0)), (1, (1, 2, 0, 0)), (2, (1, 3, 0, 0))]
def cr_0 : ai_s := (0, [(0, (0, 0, 0, 0)), (1, (1, 2, 0, 0))], [], [(0, 0, false, 0, 0), (0, 2555, false, 1, 0), (0, 20, false, 2, 0)], [], [])
def cr_h : ai_s := (14, cr_lo, [], [(0, 0, false, 0, 0), (0, 2555, false, 1, 0), (0, 20, false, 2, 0), (0, 20, false, 3, 0), (0, 20, false, 4, 0)], [(1, 1, (1, 4, 0, 0))], [])
def cr_i : ai_s := (26, cr_lo, [], [(0, 0, false, 0, 0), (0, 2555, false, 1, 0), (0, 20, false, 2, 0), (0, 19, false, 3, 0)], [], [])
def cr_n (lo hi : Int) : ai_s := (0, [(0, (0, 0, 0, 0)), (1, (1, 2, 0, 0))], [], [(0, 0, false, 0, 0), (0, 2555, false, 1, 0), (lo, hi, false, 2, 0)], [], [])
def cr_S0 : List sm_t := [(14, [(0, (0, 0, 0, 0)), (1, (1, 2, 0, 0)), (2, (1, 0, 0, 0))], [], [], [(0, 0, false, 0, 0), (0, 2555, false, 1, 0), (0, 20, false, 2, 0)], [])]
def cr_SH : List sm_t := [
  (39, [], [(1, 4, 0, 0)], [(1, 4, 0, 0)], [(0, 0, false, 0, 0), (0, 2555, false, 1, 0), (0, 20, false, 2, 0), (0, 20, false, 3, 0), (0, 20, false, 4, 0)], [(5, 3, 2, 3, 0)]),
  (26, [(0, (0, 0, 0, 0)), (1, (1, 2, 0, 0)), (2, (1, 3, 0, 0))], [], [(1, 5, 0, 20)], [(0, 0, false, 0, 0), (0, 2555, false, 1, 0), (1, 20, false, 2, 0), (0, 19, false, 3, 0), (0, 20, false, 4, 0), (-18, 0, false, 5, 0)], [(141, 0, 4, 5, -18), (4, 3, 2, 3, 0)])]
def cr_SI : List sm_t := [(14, [(0, (0, 0, 0, 0)), (1, (1, 2, 0, 0)), (2, (1, 3, 0, 1))], [], [], [(0, 0, false, 0, 0), (0, 2555, false, 1, 0), (0, 20, false, 2, 0), (0, 19, false, 3, 0)], [])]
theorem cr_r0 : ((ai_ex (hk []) 60 61 tb_m61 10 [14] cr_0).any fun xs => xs.all fun x => cr_S0.any fun t => sm_is [] x t) = true := by decide +kernel
theorem cr_rh : ((ai_ex (hk cr_W) 90 61 tb_m61 10 [26] cr_h).any fun xs => xs.all fun x => cr_SH.any fun t => sm_is [(1, 1)] x t) = true := by decide +kernel
theorem cr_ri : ((ai_ex (hk []) 20 61 tb_m61 10 [14] cr_i).any fun xs => xs.all fun x => cr_SI.any fun t => sm_is [] x t) = true := by decide +kernel
theorem cr_n1 : ((ai_ex (hk []) 60 61 tb_m61 10 [14] (cr_n (-2147483648) (-1))).any fun xs => xs.all (pl_bad 11)) = true := by decide +kernel
theorem cr_n2 : ((ai_ex (hk []) 60 61 tb_m61 10 [14] (cr_n 21 2147483647)).any fun xs => xs.all (pl_bad 11)) = true := by decide +kernel
set_option maxHeartbeats 1000000 in
theorem cr_loop {a N : Nat} {s0 : Int} {zn : Int32} {ws0 : va_W} (C : ai_cx tb_m61 10 p R s m args c D tys A b L sx cells slots) (ha : ad[0]? = some a) (b0 : 0 ≤ s0 ∧ s0 ≤ 20) (hN : N ≤ 20) (hzn : zn.toInt = N)
    (k : ∀ (ws' : va_W) (z' : Int32) (lv' : List (Nat × Value)), ai_wd tb_TY ad tys ws' → ai_fr cr_W ws0 ws' → vi ws' 1 1 (min 20 (s0 + 2 * (N : Int))) → z'.toInt = min 20 (s0 + 2 * (N : Int)) → hG tb_m61 p l e R s m args below meth c D A cells slots Q 39 lv' [.int z'] ws') :
    ∀ (f i : Nat) (zi : Int32) (ws : va_W), i + f = N → zi.toInt = i → ai_wd tb_TY ad tys ws → ai_fr cr_W ws0 ws → vi ws 1 1 (min 20 (s0 + 2 * (i : Int))) → hG tb_m61 p l e R s m args below meth c D A cells slots Q 14 [(0, .ref a), (1, .int zn), (2, .int zi)] [] ws := by
  intro f
  induction f with
  | zero =>
    intro i zi ws hif hzi hw hfr hv0
    have more : ∀ (r' : List Int) (lv' : List (Nat × Value)) (sk' : List Value) (ws' : va_W), ai_x [0, 0, (N : Int), (i : Int), min 20 (s0 + 2 * (i : Int))] r' → ai_lo ad b r' cr_lo lv' → ai_sk ad b r' [] sk' → ai_wd tb_TY ad tys ws' → ai_fr cr_W ws ws' → i < N → vi ws' 1 1 (min 20 (s0 + 2 * ((i : Int) + 1))) → hG tb_m61 p l e R s m args below meth c D A cells slots Q 26 lv' sk' ws' := fun _ _ _ _ _ _ _ _ _ h => absurd h (by omega)
    refine hsum (st := cr_h) cr_rh rfl C (r := [0, 0, (N : Int), (i : Int), min 20 (s0 + 2 * (i : Int))]) ⟨en_mk (by simp only [cr_h, en_b, and_true]; omega) rfl, sb0, ⟨rfl, Or.inl ⟨rfl, a, ha, rfl⟩, rfl, int_dv (z := (N : Int)) rfl (by omega), rfl, int_dv (z := (i : Int)) rfl (by omega), trivial⟩, trivial, hw, kc (hv0.kn (n := 4) (t := min 20 (s0 + 2 * (i : Int))) rfl (by omega)) k0, fun _ _ _ _ h => h, fun h => by cases h⟩ (fun x hx r' lv' sk' ws' hx' hb hl hs hlo hsk hw' hv hf _ => ?_)
    unfold cr_SH at hx
    rcases List.mem_cons.mp hx with rfl | hx
    · -- the end
      simp (config := { decide := true }) only [bnd_b, lin_b, lin_q, Nat.reduceAdd, Nat.zero_add, Nat.reduceEqDiff, reduceIte, and_true, Int.add_zero] at hb hl
      have hx2 := nm_x hx' (k := 2) rfl
      have hx3 := nm_x hx' (k := 3) rfl
      have hx4 := nm_x hx' (k := 4) rfl
      have hx0 := nm_x hx' (k := 0) rfl
      obtain ⟨w1, -⟩ := hv
      obtain ⟨z', rfl, hz'⟩ := sk1 rfl hsk
      unfold vn at hz'
      have hiN : i = N := by omega
      subst hiN
      exact k ws' z' lv' hw' (hfr.tr hf) (w1.eq (by dsimp only; omega)) (by rw [hz']; dsimp only; omega)
    rcases List.mem_cons.mp hx with rfl | hx
    · -- one rest more
      simp (config := { decide := true }) only [bnd_b, lin_b, lin_q, Nat.reduceAdd, Nat.zero_add, Nat.reduceEqDiff, reduceIte, and_true, Int.add_zero] at hb hl
      have hx2 := nm_x hx' (k := 2) rfl
      have hx3 := nm_x hx' (k := 3) rfl
      have hx4 := nm_x hx' (k := 4) rfl
      have hx0 := nm_x hx' (k := 0) rfl
      obtain ⟨w1, -⟩ := hv
      exact more r' lv' sk' ws' hx' hlo hsk hw' hf (by omega) (w1.eq (by dsimp only; omega))
    · cases hx
  | succ f ih =>
    intro i zi ws hif hzi hw hfr hv0
    have more : ∀ (r' : List Int) (lv' : List (Nat × Value)) (sk' : List Value) (ws' : va_W), ai_x [0, 0, (N : Int), (i : Int), min 20 (s0 + 2 * (i : Int))] r' → ai_lo ad b r' cr_lo lv' → ai_sk ad b r' [] sk' → ai_wd tb_TY ad tys ws' → ai_fr cr_W ws ws' → i < N → vi ws' 1 1 (min 20 (s0 + 2 * ((i : Int) + 1))) → hG tb_m61 p l e R s m args below meth c D A cells slots Q 26 lv' sk' ws' := by
      intro r' lv' sk' ws' hx' hlo hsk hw' hf hlt hv
      obtain ⟨lv1, rfl, pz1⟩ := lo_ref ha hlo
      obtain ⟨z1, lv2, rfl, e1, pz2⟩ := lo_int rfl pz1
      obtain ⟨z2, lv3, rfl, e2, pz3⟩ := lo_int rfl pz2
      cases lo_nil pz3
      cases hsk.nil
      unfold vn at e1 e2
      rw [nm_x hx' (k := 2) rfl] at e1
      rw [nm_x hx' (k := 3) rfl] at e2
      dsimp only at e1 e2
      refine hsum (st := cr_i) cr_ri rfl C (r := [0, 0, (N : Int), (i : Int)]) ⟨en_mk (by simp only [cr_i, en_b, and_true]; omega) rfl, sb0, ⟨rfl, Or.inl ⟨rfl, a, ha, rfl⟩, rfl, int_dv (z := (N : Int)) rfl (by omega), rfl, int_dv (z := (i : Int)) rfl (by omega), trivial⟩, trivial, hw', k0, fun _ _ _ _ h => h, fun h => by cases h⟩ (fun x hx r2 lv4 sk4 ws2 hx2 hb hl hs hlo2 hsk2 hw2 hv2 hf2 _ => ?_)
      rw [List.mem_singleton.mp hx] at hlo2 hsk2 ⊢
      obtain ⟨lv1, rfl, pz1⟩ := lo_ref ha hlo2
      obtain ⟨y1, lv2, rfl, d1, pz2⟩ := lo_int rfl pz1
      obtain ⟨y2, lv3, rfl, d2, pz3⟩ := lo_int rfl pz2
      cases lo_nil pz3
      cases hsk2.nil
      unfold vn at d1 d2
      rw [nm_x hx2 (k := 2) rfl] at d1
      rw [nm_x hx2 (k := 3) rfl] at d2
      dsimp only at d1 d2
      have hy1 : y1 = zn := Int32.toInt_inj.mp (by omega)
      subst hy1
      exact ih (i + 1) y2 ws2 (by omega) (by omega) hw2 ((hfr.tr hf).tr (wsub_ok (V := []) rfl hf2)) ((hv.fr hf2 rfl).eq (by omega))
    refine hsum (st := cr_h) cr_rh rfl C (r := [0, 0, (N : Int), (i : Int), min 20 (s0 + 2 * (i : Int))]) ⟨en_mk (by simp only [cr_h, en_b, and_true]; omega) rfl, sb0, ⟨rfl, Or.inl ⟨rfl, a, ha, rfl⟩, rfl, int_dv (z := (N : Int)) rfl (by omega), rfl, int_dv (z := (i : Int)) rfl (by omega), trivial⟩, trivial, hw, kc (hv0.kn (n := 4) (t := min 20 (s0 + 2 * (i : Int))) rfl (by omega)) k0, fun _ _ _ _ h => h, fun h => by cases h⟩ (fun x hx r' lv' sk' ws' hx' hb hl hs hlo hsk hw' hv hf _ => ?_)
    unfold cr_SH at hx
    rcases List.mem_cons.mp hx with rfl | hx
    · -- the end
      simp (config := { decide := true }) only [bnd_b, lin_b, lin_q, Nat.reduceAdd, Nat.zero_add, Nat.reduceEqDiff, reduceIte, and_true, Int.add_zero] at hb hl
      have hx2 := nm_x hx' (k := 2) rfl
      have hx3 := nm_x hx' (k := 3) rfl
      have hx4 := nm_x hx' (k := 4) rfl
      have hx0 := nm_x hx' (k := 0) rfl
      obtain ⟨w1, -⟩ := hv
      obtain ⟨z', rfl, hz'⟩ := sk1 rfl hsk
      unfold vn at hz'
      have hiN : i = N := by omega
      subst hiN
      exact k ws' z' lv' hw' (hfr.tr hf) (w1.eq (by dsimp only; omega)) (by rw [hz']; dsimp only; omega)
    rcases List.mem_cons.mp hx with rfl | hx
    · -- one rest more
      simp (config := { decide := true }) only [bnd_b, lin_b, lin_q, Nat.reduceAdd, Nat.zero_add, Nat.reduceEqDiff, reduceIte, and_true, Int.add_zero] at hb hl
      have hx2 := nm_x hx' (k := 2) rfl
      have hx3 := nm_x hx' (k := 3) rfl
      have hx4 := nm_x hx' (k := 4) rfl
      have hx0 := nm_x hx' (k := 0) rfl
      obtain ⟨w1, -⟩ := hv
      exact more r' lv' sk' ws' hx' hlo hsk hw' hf (by omega) (w1.eq (by dsimp only; omega))
    · cases hx

def cr_P (ad : List Nat) (tys : ai_ty) (s0 z : Int) (ws ws' : va_W) (z' : Int32) : Prop := ai_wd tb_TY ad tys ws' ∧ (if 0 ≤ z ∧ z ≤ 20 then ai_fr cr_W ws ws' ∧ vi ws' 1 1 (min 20 (s0 + 2 * z)) ∧ z'.toInt = min 20 (s0 + 2 * z) else ai_fr [] ws ws' ∧ z'.toInt = -1)
theorem cr_all {a : Nat} {s0 : Int} {z : Int32} {ws : va_W} (C : ai_cx tb_m61 10 p R s m args c D tys A b L sx cells slots) (hw : ai_wd tb_TY ad tys ws) (ha : ad[0]? = some a) (b0 : 0 ≤ s0 ∧ s0 ≤ 20) (hv0 : vi ws 1 1 (s0))
    (k : ∀ (pcr : Nat) (ws' : va_W) (z' : Int32) (lv' : List (Nat × Value)), pcr ∈ [11, 39] → cr_P ad tys s0 z.toInt ws ws' z' → hG tb_m61 p l e R s m args below meth c D A cells slots Q pcr lv' [.int z'] ws') : hG tb_m61 p l e R s m args below meth c D A cells slots Q 0 [(0, .ref a), (1, .int z)] [] ws := by
  have hz1 := Int32.le_toInt z
  have hz2 := Int32.toInt_lt z
  by_cases hin : 0 ≤ z.toInt ∧ z.toInt ≤ 20
  · obtain ⟨N, hNz⟩ : ∃ N : Nat, z.toInt = (N : Int) := ⟨z.toInt.toNat, by omega⟩
    refine hsum (st := cr_0) cr_r0 rfl C (r := [0, 0, z.toInt]) ⟨en_mk (by simp only [cr_0, en_b, and_true]; omega) rfl, sb0, ⟨rfl, Or.inl ⟨rfl, a, ha, rfl⟩, rfl, int_dv (z := z.toInt) rfl (by omega), trivial⟩, trivial, hw, k0, fun _ _ _ _ h => h, fun h => by cases h⟩ (fun x hx r2 lv4 sk4 ws2 hx2 hb hl hs hlo2 hsk2 hw2 hv2 hf2 _ => ?_)
    rw [List.mem_singleton.mp hx] at hlo2 hsk2 ⊢
    obtain ⟨lv1, rfl, pz1⟩ := lo_ref ha hlo2
    obtain ⟨y1, lv2, rfl, d1, pz2⟩ := lo_int rfl pz1
    obtain ⟨y2, lv3, rfl, d2, pz3⟩ := lo_int rfl pz2
    cases lo_nil pz3
    cases hsk2.nil
    unfold vn at d1 d2
    rw [nm_x hx2 (k := 2) rfl] at d1
    rw [nm_x hx2 (k := 0) rfl] at d2
    dsimp only at d1 d2
    have hy1 : y1 = z := Int32.toInt_inj.mp (by omega)
    subst hy1
    refine cr_loop (ws0 := ws) C ha b0 (N := N) (by omega) hNz (fun ws' z' lv' hw' hf hv hz => ?_) N 0 y2 ws2 (by omega) (by omega) hw2 (wsub_ok (V := []) rfl hf2) ((hv0.fr hf2 rfl).eq (by omega))
    refine k 39 ws' z' lv' (by decide) ⟨hw', ?_⟩
    rw [if_pos hin]
    exact ⟨hf, hv.eq (by omega), by omega⟩
  · have fin : ∀ {lo hi : Int}, ((ai_ex (hk []) 60 61 tb_m61 10 [14] (cr_n lo hi)).any fun xs => xs.all (pl_bad 11)) = true → lo ≤ z.toInt → z.toInt ≤ hi → hG tb_m61 p l e R s m args below meth c D A cells slots Q 0 [(0, .ref a), (1, .int z)] [] ws := fun {lo hi} hrun h1 h2 => by
      obtain ⟨xs, y1, y2⟩ := ai_anyE hrun
      refine hseg (st := cr_n lo hi) (r := [0, 0, z.toInt]) y1 rfl C ⟨en_mk (by simp only [cr_n, en_b, and_true]; omega) rfl, sb0, ⟨rfl, Or.inl ⟨rfl, a, ha, rfl⟩, rfl, int_dv (z := z.toInt) rfl (by omega), trivial⟩, trivial, hw, k0, fun _ _ _ _ h => h, fun h => by cases h⟩ (fun x hx r' lv' sk' ws' hx' g' => ?_)
      obtain ⟨g1, g2, g3, g4, g5, g6, g7, g8⟩ := g'
      have hb := List.all_eq_true.mp y2 x hx
      unfold pl_bad at hb
      rw [Bool.and_eq_true, ai_beq, decide_eq_true_eq] at hb
      rw [hb.2] at g4
      obtain ⟨i, rfl, hi⟩ := sk1 rfl g4
      rw [hb.1]
      refine k 11 ws' i lv' (by decide) ⟨g5, ?_⟩
      rw [if_neg hin]
      refine ⟨g7, ?_⟩
      rw [hi]
      unfold vn
      rw [nm_x hx' (k := 0) rfl]
      rfl
    by_cases hneg : z.toInt < 0
    · exact fin cr_n1 (by omega) (by omega)
    · exact fin cr_n2 (by omega) (by omega)
def mr_W : List (Nat × Nat × Nat) := [(50, 16, 16 + 1)]
def mr_lo : List (Nat × ai_v) := [(0, (0, 49, 0, 0)), (1, (1, 2, 0, 0)), (2, (1, 3, 0, 0))]
def mr_0 : ai_s := (0, [(0, (0, 49, 0, 0)), (1, (1, 2, 0, 0))], [], [(0, 0, false, 0, 0), (0, 2555, false, 1, 0), (0, 20, false, 2, 0)], [], [])
def mr_h : ai_s := (16, mr_lo, [], [(0, 0, false, 0, 0), (0, 2555, false, 1, 0), (0, 20, false, 2, 0), (0, 20, false, 3, 0), (0, 20, false, 4, 0)], [(50, 16, (1, 4, 0, -10))], [])
def mr_i : ai_s := (26, mr_lo, [], [(0, 0, false, 0, 0), (0, 2555, false, 1, 0), (0, 20, false, 2, 0), (0, 19, false, 3, 0)], [], [])
def mr_n (lo hi : Int) : ai_s := (0, [(0, (0, 49, 0, 0)), (1, (1, 2, 0, 0))], [], [(0, 0, false, 0, 0), (0, 2555, false, 1, 0), (lo, hi, false, 2, 0)], [], [])
def mr_S0 : List sm_t := [(16, [(0, (0, 49, 0, 0)), (1, (1, 2, 0, 0)), (2, (1, 0, 0, 0))], [], [], [(0, 0, false, 0, 0), (0, 2555, false, 1, 0), (0, 20, false, 2, 0)], [])]
def mr_SH : List sm_t := [
  (37, [], [(1, 4, 0, 0)], [(1, 4, 0, -10)], [(0, 0, false, 0, 0), (0, 2555, false, 1, 0), (0, 20, false, 2, 0), (0, 20, false, 3, 0), (0, 20, false, 4, 0)], [(5, 3, 2, 3, 0)]),
  (26, [(0, (0, 49, 0, 0)), (1, (1, 2, 0, 0)), (2, (1, 3, 0, 0))], [], [(1, 4, 0, -8)], [(0, 0, false, 0, 0), (0, 2555, false, 1, 0), (1, 20, false, 2, 0), (0, 19, false, 3, 0), (0, 18, false, 4, 0)], [(4, 3, 2, 3, 0)]),
  (26, [(0, (0, 49, 0, 0)), (1, (1, 2, 0, 0)), (2, (1, 3, 0, 0))], [], [(1, 0, 0, 10)], [(0, 0, false, 0, 0), (0, 2555, false, 1, 0), (1, 20, false, 2, 0), (0, 19, false, 3, 0), (19, 20, false, 4, 0)], [(4, 3, 2, 3, 0)])]
def mr_SI : List sm_t := [(16, [(0, (0, 49, 0, 0)), (1, (1, 2, 0, 0)), (2, (1, 3, 0, 1))], [], [], [(0, 0, false, 0, 0), (0, 2555, false, 1, 0), (0, 20, false, 2, 0), (0, 19, false, 3, 0)], [])]
theorem mr_r0 : ((ai_ex (hk []) 60 133 tb_m133 10 [16] mr_0).any fun xs => xs.all fun x => mr_S0.any fun t => sm_is [] x t) = true := by decide +kernel
theorem mr_rh : ((ai_ex (hk mr_W) 90 133 tb_m133 10 [26] mr_h).any fun xs => xs.all fun x => mr_SH.any fun t => sm_is [(50, 16)] x t) = true := by decide +kernel
theorem mr_ri : ((ai_ex (hk []) 20 133 tb_m133 10 [16] mr_i).any fun xs => xs.all fun x => mr_SI.any fun t => sm_is [] x t) = true := by decide +kernel
theorem mr_n1 : ((ai_ex (hk []) 60 133 tb_m133 10 [16] (mr_n (-2147483648) (-1))).any fun xs => xs.all (pl_bad 13)) = true := by decide +kernel
theorem mr_n2 : ((ai_ex (hk []) 60 133 tb_m133 10 [16] (mr_n 21 2147483647)).any fun xs => xs.all (pl_bad 13)) = true := by decide +kernel
set_option maxHeartbeats 1000000 in
theorem mr_loop {a N : Nat} {s0 : Int} {zn : Int32} {ws0 : va_W} (C : ai_cx tb_m133 10 p R s m args c D tys A b L sx cells slots) (ha : ad[49]? = some a) (b0 : 0 ≤ s0 ∧ s0 ≤ 20) (hN : N ≤ 20) (hzn : zn.toInt = N)
    (k : ∀ (ws' : va_W) (z' : Int32) (lv' : List (Nat × Value)), ai_wd tb_TY ad tys ws' → ai_fr mr_W ws0 ws' → vi ws' 50 16 (min 20 (s0 + 2 * (N : Int)) - 10) → z'.toInt = min 20 (s0 + 2 * (N : Int)) → hG tb_m133 p l e R s m args below meth c D A cells slots Q 37 lv' [.int z'] ws') :
    ∀ (f i : Nat) (zi : Int32) (ws : va_W), i + f = N → zi.toInt = i → ai_wd tb_TY ad tys ws → ai_fr mr_W ws0 ws → vi ws 50 16 (min 20 (s0 + 2 * (i : Int)) - 10) → hG tb_m133 p l e R s m args below meth c D A cells slots Q 16 [(0, .ref a), (1, .int zn), (2, .int zi)] [] ws := by
  intro f
  induction f with
  | zero =>
    intro i zi ws hif hzi hw hfr hv0
    have more : ∀ (r' : List Int) (lv' : List (Nat × Value)) (sk' : List Value) (ws' : va_W), ai_x [0, 0, (N : Int), (i : Int), min 20 (s0 + 2 * (i : Int))] r' → ai_lo ad b r' mr_lo lv' → ai_sk ad b r' [] sk' → ai_wd tb_TY ad tys ws' → ai_fr mr_W ws ws' → i < N → vi ws' 50 16 (min 20 (s0 + 2 * ((i : Int) + 1)) - 10) → hG tb_m133 p l e R s m args below meth c D A cells slots Q 26 lv' sk' ws' := fun _ _ _ _ _ _ _ _ _ h => absurd h (by omega)
    refine hsum (st := mr_h) mr_rh rfl C (r := [0, 0, (N : Int), (i : Int), min 20 (s0 + 2 * (i : Int))]) ⟨en_mk (by simp only [mr_h, en_b, and_true]; omega) rfl, sb0, ⟨rfl, Or.inl ⟨rfl, a, ha, rfl⟩, rfl, int_dv (z := (N : Int)) rfl (by omega), rfl, int_dv (z := (i : Int)) rfl (by omega), trivial⟩, trivial, hw, kc (hv0.kn (n := 4) (t := min 20 (s0 + 2 * (i : Int))) rfl (by omega)) k0, fun _ _ _ _ h => h, fun h => by cases h⟩ (fun x hx r' lv' sk' ws' hx' hb hl hs hlo hsk hw' hv hf _ => ?_)
    unfold mr_SH at hx
    rcases List.mem_cons.mp hx with rfl | hx
    · -- the end
      simp (config := { decide := true }) only [bnd_b, lin_b, lin_q, Nat.reduceAdd, Nat.zero_add, Nat.reduceEqDiff, reduceIte, and_true, Int.add_zero] at hb hl
      have hx2 := nm_x hx' (k := 2) rfl
      have hx3 := nm_x hx' (k := 3) rfl
      have hx4 := nm_x hx' (k := 4) rfl
      have hx0 := nm_x hx' (k := 0) rfl
      obtain ⟨w1, -⟩ := hv
      obtain ⟨z', rfl, hz'⟩ := sk1 rfl hsk
      unfold vn at hz'
      have hiN : i = N := by omega
      subst hiN
      exact k ws' z' lv' hw' (hfr.tr hf) (w1.eq (by dsimp only; omega)) (by rw [hz']; dsimp only; omega)
    rcases List.mem_cons.mp hx with rfl | hx
    · -- one rest more
      simp (config := { decide := true }) only [bnd_b, lin_b, lin_q, Nat.reduceAdd, Nat.zero_add, Nat.reduceEqDiff, reduceIte, and_true, Int.add_zero] at hb hl
      have hx2 := nm_x hx' (k := 2) rfl
      have hx3 := nm_x hx' (k := 3) rfl
      have hx4 := nm_x hx' (k := 4) rfl
      have hx0 := nm_x hx' (k := 0) rfl
      obtain ⟨w1, -⟩ := hv
      exact more r' lv' sk' ws' hx' hlo hsk hw' hf (by omega) (w1.eq (by dsimp only; omega))
    rcases List.mem_cons.mp hx with rfl | hx
    · -- one rest more
      simp (config := { decide := true }) only [bnd_b, lin_b, lin_q, Nat.reduceAdd, Nat.zero_add, Nat.reduceEqDiff, reduceIte, and_true, Int.add_zero] at hb hl
      have hx2 := nm_x hx' (k := 2) rfl
      have hx3 := nm_x hx' (k := 3) rfl
      have hx4 := nm_x hx' (k := 4) rfl
      have hx0 := nm_x hx' (k := 0) rfl
      obtain ⟨w1, -⟩ := hv
      exact more r' lv' sk' ws' hx' hlo hsk hw' hf (by omega) (w1.eq (by dsimp only; omega))
    · cases hx
  | succ f ih =>
    intro i zi ws hif hzi hw hfr hv0
    have more : ∀ (r' : List Int) (lv' : List (Nat × Value)) (sk' : List Value) (ws' : va_W), ai_x [0, 0, (N : Int), (i : Int), min 20 (s0 + 2 * (i : Int))] r' → ai_lo ad b r' mr_lo lv' → ai_sk ad b r' [] sk' → ai_wd tb_TY ad tys ws' → ai_fr mr_W ws ws' → i < N → vi ws' 50 16 (min 20 (s0 + 2 * ((i : Int) + 1)) - 10) → hG tb_m133 p l e R s m args below meth c D A cells slots Q 26 lv' sk' ws' := by
      intro r' lv' sk' ws' hx' hlo hsk hw' hf hlt hv
      obtain ⟨lv1, rfl, pz1⟩ := lo_ref ha hlo
      obtain ⟨z1, lv2, rfl, e1, pz2⟩ := lo_int rfl pz1
      obtain ⟨z2, lv3, rfl, e2, pz3⟩ := lo_int rfl pz2
      cases lo_nil pz3
      cases hsk.nil
      unfold vn at e1 e2
      rw [nm_x hx' (k := 2) rfl] at e1
      rw [nm_x hx' (k := 3) rfl] at e2
      dsimp only at e1 e2
      refine hsum (st := mr_i) mr_ri rfl C (r := [0, 0, (N : Int), (i : Int)]) ⟨en_mk (by simp only [mr_i, en_b, and_true]; omega) rfl, sb0, ⟨rfl, Or.inl ⟨rfl, a, ha, rfl⟩, rfl, int_dv (z := (N : Int)) rfl (by omega), rfl, int_dv (z := (i : Int)) rfl (by omega), trivial⟩, trivial, hw', k0, fun _ _ _ _ h => h, fun h => by cases h⟩ (fun x hx r2 lv4 sk4 ws2 hx2 hb hl hs hlo2 hsk2 hw2 hv2 hf2 _ => ?_)
      rw [List.mem_singleton.mp hx] at hlo2 hsk2 ⊢
      obtain ⟨lv1, rfl, pz1⟩ := lo_ref ha hlo2
      obtain ⟨y1, lv2, rfl, d1, pz2⟩ := lo_int rfl pz1
      obtain ⟨y2, lv3, rfl, d2, pz3⟩ := lo_int rfl pz2
      cases lo_nil pz3
      cases hsk2.nil
      unfold vn at d1 d2
      rw [nm_x hx2 (k := 2) rfl] at d1
      rw [nm_x hx2 (k := 3) rfl] at d2
      dsimp only at d1 d2
      have hy1 : y1 = zn := Int32.toInt_inj.mp (by omega)
      subst hy1
      exact ih (i + 1) y2 ws2 (by omega) (by omega) hw2 ((hfr.tr hf).tr (wsub_ok (V := []) rfl hf2)) ((hv.fr hf2 rfl).eq (by omega))
    refine hsum (st := mr_h) mr_rh rfl C (r := [0, 0, (N : Int), (i : Int), min 20 (s0 + 2 * (i : Int))]) ⟨en_mk (by simp only [mr_h, en_b, and_true]; omega) rfl, sb0, ⟨rfl, Or.inl ⟨rfl, a, ha, rfl⟩, rfl, int_dv (z := (N : Int)) rfl (by omega), rfl, int_dv (z := (i : Int)) rfl (by omega), trivial⟩, trivial, hw, kc (hv0.kn (n := 4) (t := min 20 (s0 + 2 * (i : Int))) rfl (by omega)) k0, fun _ _ _ _ h => h, fun h => by cases h⟩ (fun x hx r' lv' sk' ws' hx' hb hl hs hlo hsk hw' hv hf _ => ?_)
    unfold mr_SH at hx
    rcases List.mem_cons.mp hx with rfl | hx
    · -- the end
      simp (config := { decide := true }) only [bnd_b, lin_b, lin_q, Nat.reduceAdd, Nat.zero_add, Nat.reduceEqDiff, reduceIte, and_true, Int.add_zero] at hb hl
      have hx2 := nm_x hx' (k := 2) rfl
      have hx3 := nm_x hx' (k := 3) rfl
      have hx4 := nm_x hx' (k := 4) rfl
      have hx0 := nm_x hx' (k := 0) rfl
      obtain ⟨w1, -⟩ := hv
      obtain ⟨z', rfl, hz'⟩ := sk1 rfl hsk
      unfold vn at hz'
      have hiN : i = N := by omega
      subst hiN
      exact k ws' z' lv' hw' (hfr.tr hf) (w1.eq (by dsimp only; omega)) (by rw [hz']; dsimp only; omega)
    rcases List.mem_cons.mp hx with rfl | hx
    · -- one rest more
      simp (config := { decide := true }) only [bnd_b, lin_b, lin_q, Nat.reduceAdd, Nat.zero_add, Nat.reduceEqDiff, reduceIte, and_true, Int.add_zero] at hb hl
      have hx2 := nm_x hx' (k := 2) rfl
      have hx3 := nm_x hx' (k := 3) rfl
      have hx4 := nm_x hx' (k := 4) rfl
      have hx0 := nm_x hx' (k := 0) rfl
      obtain ⟨w1, -⟩ := hv
      exact more r' lv' sk' ws' hx' hlo hsk hw' hf (by omega) (w1.eq (by dsimp only; omega))
    rcases List.mem_cons.mp hx with rfl | hx
    · -- one rest more
      simp (config := { decide := true }) only [bnd_b, lin_b, lin_q, Nat.reduceAdd, Nat.zero_add, Nat.reduceEqDiff, reduceIte, and_true, Int.add_zero] at hb hl
      have hx2 := nm_x hx' (k := 2) rfl
      have hx3 := nm_x hx' (k := 3) rfl
      have hx4 := nm_x hx' (k := 4) rfl
      have hx0 := nm_x hx' (k := 0) rfl
      obtain ⟨w1, -⟩ := hv
      exact more r' lv' sk' ws' hx' hlo hsk hw' hf (by omega) (w1.eq (by dsimp only; omega))
    · cases hx

def mr_P (ad : List Nat) (tys : ai_ty) (s0 z : Int) (ws ws' : va_W) (z' : Int32) : Prop := ai_wd tb_TY ad tys ws' ∧ (if 0 ≤ z ∧ z ≤ 20 then ai_fr mr_W ws ws' ∧ vi ws' 50 16 (min 20 (s0 + 2 * z) - 10) ∧ z'.toInt = min 20 (s0 + 2 * z) else ai_fr [] ws ws' ∧ z'.toInt = -1)
theorem mr_all {a : Nat} {s0 : Int} {z : Int32} {ws : va_W} (C : ai_cx tb_m133 10 p R s m args c D tys A b L sx cells slots) (hw : ai_wd tb_TY ad tys ws) (ha : ad[49]? = some a) (b0 : 0 ≤ s0 ∧ s0 ≤ 20) (hv0 : vi ws 50 16 (s0 - 10))
    (k : ∀ (pcr : Nat) (ws' : va_W) (z' : Int32) (lv' : List (Nat × Value)), pcr ∈ [13, 37] → mr_P ad tys s0 z.toInt ws ws' z' → hG tb_m133 p l e R s m args below meth c D A cells slots Q pcr lv' [.int z'] ws') : hG tb_m133 p l e R s m args below meth c D A cells slots Q 0 [(0, .ref a), (1, .int z)] [] ws := by
  have hz1 := Int32.le_toInt z
  have hz2 := Int32.toInt_lt z
  by_cases hin : 0 ≤ z.toInt ∧ z.toInt ≤ 20
  · obtain ⟨N, hNz⟩ : ∃ N : Nat, z.toInt = (N : Int) := ⟨z.toInt.toNat, by omega⟩
    refine hsum (st := mr_0) mr_r0 rfl C (r := [0, 0, z.toInt]) ⟨en_mk (by simp only [mr_0, en_b, and_true]; omega) rfl, sb0, ⟨rfl, Or.inl ⟨rfl, a, ha, rfl⟩, rfl, int_dv (z := z.toInt) rfl (by omega), trivial⟩, trivial, hw, k0, fun _ _ _ _ h => h, fun h => by cases h⟩ (fun x hx r2 lv4 sk4 ws2 hx2 hb hl hs hlo2 hsk2 hw2 hv2 hf2 _ => ?_)
    rw [List.mem_singleton.mp hx] at hlo2 hsk2 ⊢
    obtain ⟨lv1, rfl, pz1⟩ := lo_ref ha hlo2
    obtain ⟨y1, lv2, rfl, d1, pz2⟩ := lo_int rfl pz1
    obtain ⟨y2, lv3, rfl, d2, pz3⟩ := lo_int rfl pz2
    cases lo_nil pz3
    cases hsk2.nil
    unfold vn at d1 d2
    rw [nm_x hx2 (k := 2) rfl] at d1
    rw [nm_x hx2 (k := 0) rfl] at d2
    dsimp only at d1 d2
    have hy1 : y1 = z := Int32.toInt_inj.mp (by omega)
    subst hy1
    refine mr_loop (ws0 := ws) C ha b0 (N := N) (by omega) hNz (fun ws' z' lv' hw' hf hv hz => ?_) N 0 y2 ws2 (by omega) (by omega) hw2 (wsub_ok (V := []) rfl hf2) ((hv0.fr hf2 rfl).eq (by omega))
    refine k 37 ws' z' lv' (by decide) ⟨hw', ?_⟩
    rw [if_pos hin]
    exact ⟨hf, hv.eq (by omega), by omega⟩
  · have fin : ∀ {lo hi : Int}, ((ai_ex (hk []) 60 133 tb_m133 10 [16] (mr_n lo hi)).any fun xs => xs.all (pl_bad 13)) = true → lo ≤ z.toInt → z.toInt ≤ hi → hG tb_m133 p l e R s m args below meth c D A cells slots Q 0 [(0, .ref a), (1, .int z)] [] ws := fun {lo hi} hrun h1 h2 => by
      obtain ⟨xs, y1, y2⟩ := ai_anyE hrun
      refine hseg (st := mr_n lo hi) (r := [0, 0, z.toInt]) y1 rfl C ⟨en_mk (by simp only [mr_n, en_b, and_true]; omega) rfl, sb0, ⟨rfl, Or.inl ⟨rfl, a, ha, rfl⟩, rfl, int_dv (z := z.toInt) rfl (by omega), trivial⟩, trivial, hw, k0, fun _ _ _ _ h => h, fun h => by cases h⟩ (fun x hx r' lv' sk' ws' hx' g' => ?_)
      obtain ⟨g1, g2, g3, g4, g5, g6, g7, g8⟩ := g'
      have hb := List.all_eq_true.mp y2 x hx
      unfold pl_bad at hb
      rw [Bool.and_eq_true, ai_beq, decide_eq_true_eq] at hb
      rw [hb.2] at g4
      obtain ⟨i, rfl, hi⟩ := sk1 rfl g4
      rw [hb.1]
      refine k 13 ws' i lv' (by decide) ⟨g5, ?_⟩
      rw [if_neg hin]
      refine ⟨g7, ?_⟩
      rw [hi]
      unfold vn
      rw [nm_x hx' (k := 0) rfl]
      rfl
    by_cases hneg : z.toInt < 0
    · exact fin mr_n1 (by omega) (by omega)
    · exact fin mr_n2 (by omega) (by omega)
end RST
end
