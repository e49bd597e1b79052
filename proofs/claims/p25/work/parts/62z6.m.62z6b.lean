section
def cd_S0 (k : Nat) : List sm_t := [
  (134, [(0, (0, 0, 0, 0)), (5, (1, 0, 0, 0)), (6, (1, 5, 0, 0))], [], [], [(0, 0, false, 0, 0), (0, 2555, false, 1, 0), (0, 2, false, 2, 0), (-2147483648, 2147483647, false, 3, 0), (0, 20, false, 4, 0), (0, 20, false, 5, 0), (0, 40, false, 6, 0), (0, 2, false, 7, 0)], [(5, 5, 4, 5, 0)]),
  (134, [(0, (0, 0, 0, 0)), (5, (1, 0, 0, 1)), (6, (1, 5, 0, 0))], [], [], [(0, 0, false, 0, 0), (0, 2555, false, 1, 0), (0, 2, false, 2, 0), (-2147483648, 2147483647, false, 3, 0), (1, 20, false, 4, 0), (0, 19, false, 5, 0), (0, 40, false, 6, 0), (0, 2, false, 7, 0), (-2147483648, 2147483647, false, 8, 0)], [(5, 5, 4, 5, -1), (1, 3, 5, 8, 0), (4, 5, 4, 5, 0)]),
  (134, [(0, (0, 0, 0, 0)), (5, (1, 0, 0, 1)), (6, (1, 5, 0, 0))], [], [], [(0, 0, false, 0, 0), (0, 2555, false, 1, 0), (0, 2, false, 2, 0), (-2147483648, 2147483647, false, 3, 0), (2, 20, false, 4, 0), (0, 18, false, 5, 0), (0, 40, false, 6, 0), (0, 2, false, 7, 0), (-2147483648, 2147483647, false, 8, 0)], [(4, 5, 4, 5, -1), (1, 3, 5, 8, 0), (4, 5, 4, 5, 0)])]
def cd_S1 (k : Nat) : List sm_t := [
  (134, [(0, (0, 0, 0, 0)), (5, (1, 0, 0, 0)), (6, (1, 5, 0, 0))], [], [], [(0, 0, false, 0, 0), (0, 2555, false, 1, 0), (0, 2, false, 2, 0), (-2147483648, 2147483647, false, 3, 0), (0, 20, false, 4, 0), (0, 20, false, 5, 0), (0, 40, false, 6, 0), (0, 2, false, 7, 0)], [(5, 5, 4, 5, 0), (140, 7, 2, 7, 0)]),
  (134, [(0, (0, 0, 0, 0)), (5, (1, 0, 0, 3)), (6, (1, 5, 0, 0))], [], [], [(0, 0, false, 0, 0), (0, 2555, false, 1, 0), (0, 2, false, 2, 0), (-2147483648, 2147483647, false, 3, 0), (1, 20, false, 4, 0), (0, 19, false, 5, 0), (0, 40, false, 6, 0), (0, 2, false, 7, 0), (-2147483648, 2147483647, false, 8, 0)], [(5, 5, 4, 5, -1), (140, 7, 2, 7, 0), (140, 7, 0, 7, -1), (1, 3, 5, 8, 0), (4, 5, 4, 5, 0), (140, 7, 2, 7, 0)]),
  (134, [(0, (0, 0, 0, 0)), (5, (1, 0, 0, 3)), (6, (1, 5, 0, 0))], [], [], [(0, 0, false, 0, 0), (0, 2555, false, 1, 0), (0, 2, false, 2, 0), (-2147483648, 2147483647, false, 3, 0), (2, 20, false, 4, 0), (0, 18, false, 5, 0), (0, 40, false, 6, 0), (0, 2, false, 7, 0), (-2147483648, 2147483647, false, 8, 0)], [(4, 5, 4, 5, -1), (140, 7, 2, 7, 0), (140, 7, 0, 7, -1), (1, 3, 5, 8, 0), (4, 5, 4, 5, 0), (140, 7, 2, 7, 0)])]
def cd_S2 (k : Nat) : List sm_t := [
  (134, [(0, (0, 0, 0, 0)), (5, (1, 0, 0, 0)), (6, (1, 5, 0, 0))], [], [], [(0, 0, false, 0, 0), (0, 2555, false, 1, 0), (0, 2, false, 2, 0), (-2147483648, 2147483647, false, 3, 0), (0, 20, false, 4, 0), (0, 20, false, 5, 0), (0, 40, false, 6, 0), (0, 2, false, 7, 0)], [(5, 5, 4, 5, 0)]),
  (134, [(0, (0, 0, 0, 0)), (5, (1, 0, 0, 2)), (6, (1, 5, 0, 0))], [], [], [(0, 0, false, 0, 0), (0, 2555, false, 1, 0), (0, 2, false, 2, 0), (-2147483648, 2147483647, false, 3, 0), (1, 20, false, 4, 0), (0, 19, false, 5, 0), (0, 40, false, 6, 0), (0, 2, false, 7, 0), (-2147483648, -1, false, 8, 0)], [(5, 5, 4, 5, -1), (140, 2, 0, 2, -1), (4, 2, 2, 2, 1), (5, 2, 2, 2, 0), (140, 2, 0, 2, -1), (1, 3, 5, 8, 0), (4, 5, 4, 5, 0)]),
  (134, [(0, (0, 0, 0, 0)), (5, (1, 0, 0, 2)), (6, (1, 5, 0, 0))], [], [], [(0, 0, false, 0, 0), (0, 2555, false, 1, 0), (0, 2, false, 2, 0), (-2147483648, 2147483647, false, 3, 0), (2, 20, false, 4, 0), (0, 18, false, 5, 0), (0, 40, false, 6, 0), (0, 2, false, 7, 0), (-2147483648, -1, false, 8, 0)], [(4, 5, 4, 5, -1), (140, 2, 0, 2, -1), (4, 2, 2, 2, 1), (5, 2, 2, 2, 0), (140, 2, 0, 2, -1), (1, 3, 5, 8, 0), (4, 5, 4, 5, 0)]),
  (97, [(0, (0, 0, 0, 0)), (1, (1, 0, 0, (k : Int))), (2, (1, 2, 0, 0)), (3, (1, 3, 0, 0)), (4, (1, 4, 0, 0)), (5, (1, 0, 0, 0)), (6, (1, 5, 0, 0)), (7, (1, 5, 0, 0)), (8, (1, 9, 0, 0))], [], [], [(0, 0, false, 0, 0), (0, 2555, false, 1, 0), (0, 2, false, 2, 0), (-2147483648, 2147483647, false, 3, 0), (1, 20, false, 4, 0), (0, 19, false, 5, 0), (1, 40, false, 6, 0), (0, 2, false, 7, 0), (0, 39, false, 8, 0), (-2147483648, 2147483647, false, 9, 0)], [(1045 + k, 8, 8, 9, 0), (4, 8, 6, 8, 0), (140, 2, 0, 2, -1), (4, 2, 2, 2, 1), (5, 2, 2, 2, 0), (140, 2, 0, 2, -1), (1, 3, 5, 8, 0), (4, 5, 4, 5, 0)]),
  (134, [(0, (0, 0, 0, 0)), (5, (1, 0, 0, 2)), (6, (1, 5, 0, 0))], [], [], [(0, 0, false, 0, 0), (0, 2555, false, 1, 0), (0, 2, false, 2, 0), (-2147483648, 2147483647, false, 3, 0), (1, 20, false, 4, 0), (0, 19, false, 5, 0), (0, 40, false, 6, 0), (0, 2, false, 7, 0), (0, 2147483647, false, 8, 0)], [(5, 5, 4, 5, -1), (5, 8, 6, 8, 0), (140, 2, 0, 2, -1), (4, 2, 2, 2, 1), (5, 2, 2, 2, 0), (140, 2, 0, 2, -1), (1, 3, 5, 8, 0), (4, 5, 4, 5, 0)]),
  (134, [(0, (0, 0, 0, 0)), (5, (1, 0, 0, 2)), (6, (1, 5, 0, 0))], [], [], [(0, 0, false, 0, 0), (0, 2555, false, 1, 0), (0, 2, false, 2, 0), (-2147483648, 2147483647, false, 3, 0), (2, 20, false, 4, 0), (0, 18, false, 5, 0), (0, 40, false, 6, 0), (0, 2, false, 7, 0), (0, 2147483647, false, 8, 0)], [(4, 5, 4, 5, -1), (5, 8, 6, 8, 0), (140, 2, 0, 2, -1), (4, 2, 2, 2, 1), (5, 2, 2, 2, 0), (140, 2, 0, 2, -1), (1, 3, 5, 8, 0), (4, 5, 4, 5, 0)])]
def cd_S97 : List sm_t := [(103, [(0, (0, 0, 0, 0)), (1, (1, 7, 0, 0)), (2, (1, 2, 0, 0)), (3, (1, 3, 0, 0)), (4, (1, 4, 0, 0)), (5, (1, 0, 0, 0)), (6, (1, 5, 0, 0)), (7, (1, 5, 0, 0)), (8, (1, 6, 0, 0))], [(1, 6, 0, 0), (0, 7, 0, 0)], [], [(0, 0, false, 0, 0), (0, 2555, false, 1, 0), (0, 2, false, 2, 0), (-2147483648, 2147483647, false, 3, 0), (0, 20, false, 4, 0), (0, 19, false, 5, 0), (-2147483648, 2147483647, false, 6, 0), (0, 3, false, 7, 0)], [])]
def cd_S106a : List sm_t := [(114, [], [(1, 8, 0, 0)], [], [(0, 0, false, 0, 0), (0, 2555, false, 1, 0), (0, 2, false, 2, 0), (-2147483648, 2147483647, false, 3, 0), (0, 20, false, 4, 0), (0, 19, false, 5, 0), (-2147483648, 2147483647, false, 6, 0), (0, 3, false, 7, 0), (-39, -20, false, 8, 0)], [(0, 0, 5, 8, 20)])]
def cd_S106b : List sm_t := [(121, [(0, (0, 0, 0, 0)), (1, (1, 7, 0, 0)), (2, (1, 2, 0, 0)), (3, (1, 3, 0, 0)), (4, (1, 4, 0, 0)), (5, (1, 0, 0, 0)), (6, (1, 5, 0, 0)), (7, (1, 5, 0, 0)), (8, (1, 6, 0, 0))], [(1, 6, 0, 0), (0, 7, 0, 0)], [], [(0, 0, false, 0, 0), (0, 2555, false, 1, 0), (0, 2, false, 2, 0), (-2147483648, 2147483647, false, 3, 0), (0, 20, false, 4, 0), (0, 19, false, 5, 0), (-2147483648, 2147483647, false, 6, 0), (0, 3, false, 7, 0)], [])]
def cd_S124 : List sm_t := [(49, [(0, (0, 0, 0, 0)), (1, (1, 7, 0, 0)), (2, (1, 2, 0, 0)), (3, (1, 3, 0, 0)), (4, (1, 4, 0, 0)), (5, (1, 0, 0, 0)), (6, (1, 5, 0, 1)), (7, (1, 5, 0, 1))], [], [], [(0, 0, false, 0, 0), (0, 2555, false, 1, 0), (0, 2, false, 2, 0), (-2147483648, 2147483647, false, 3, 0), (0, 20, false, 4, 0), (0, 19, false, 5, 0), (-2147483648, 2147483647, false, 6, 0), (0, 3, false, 7, 0), (-2147483648, 2147483647, false, 8, 0)], [])]
/-! the loops of read: what they come to -/
def rd_by (l la : Int) (len : Nat) (x : Int) : Int := if l = -1 then 1 else if l = la then (if 0 ≤ x ∧ x < len then 0 else 2) else 3
/-- from the i-th on, q more: refused at an i, or the page then, how many were pulled at, the fault -/
def rd (n : Nat) (l la f : Int) (len : Nat) (X : Nat → Int) : Nat → Nat → (Nat → Int) → Nat ⊕ ((Nat → Int) × Nat × Int)
  | 0, i, E => .inr (E, i, 0)
  | q + 1, i, E => if rd_by l la len (f + i) = 0 then (if 0 ≤ X (f + i).toNat ∧ X (f + i).toNat < n ∧ 1 ≤ E 16 ∧ E (8 + (X (f + i).toNat).toNat) < E (4 + (X (f + i).toNat).toNat) then rd n l la f len X q (i + 1) (ev_pl E (X (f + i).toNat).toNat) else .inl i) else .inr (E, i, rd_by l la len (f + i))
theorem rd_go {n : Nat} {l la f : Int} {len : Nat} {X : Nat → Int} {q i : Nat} {E : Nat → Int} {x : Int} (h : rd_by l la len (f + i) = 0) (hx : X (f + i).toNat = x) (hc : ev_can n E x) : rd n l la f len X (q + 1) i E = rd n l la f len X q (i + 1) (ev_pl E x.toNat) := by
  subst hx
  show (if rd_by l la len (f + i) = 0 then _ else _) = _
  unfold ev_can at hc
  rw [if_pos h, if_pos hc]
theorem rd_no {n : Nat} {l la f : Int} {len : Nat} {X : Nat → Int} {q i : Nat} {E : Nat → Int} {x : Int} (h : rd_by l la len (f + i) = 0) (hx : X (f + i).toNat = x) (hc : ¬ ev_can n E x) : rd n l la f len X (q + 1) i E = .inl i := by
  subst hx
  show (if rd_by l la len (f + i) = 0 then _ else _) = _
  unfold ev_can at hc
  rw [if_pos h, if_neg hc]
theorem rd_end {n : Nat} {l la f : Int} {len : Nat} {X : Nat → Int} {q i : Nat} {E : Nat → Int} {y : Int} (h : rd_by l la len (f + i) = y) (hy : y ≠ 0) : rd n l la f len X (q + 1) i E = .inr (E, i, y) := by
  subst h
  show (if rd_by l la len (f + i) = 0 then _ else _) = _
  rw [if_neg hy]
theorem fx_vi' {ad : List Nat} {tys : ai_ty} {ws : va_W} {k i n : Nat} {z : Int} {pat : List ai_f} (hw : ai_wd tb_TY ad tys ws) (hT : tb_TY[k]? = some (1, n, pat)) (h : vi ws k i z) : fx_o ws k i = some z := by
  obtain ⟨j, h1, h2⟩ := h
  rw [← h2]
  exact sl_fx hw hT h1
/-- a row's int that the walk has told -/
theorem fx_row {ws : va_W} {r : List Int} {sb : List ai_b} {c a v : Nat} {o : Int} {x : Int} (hs : ai_sb ws r sb) (hq : (1000 + c, a, a, v, o) ∈ sb) (hx : fx_o ws c (nm r a + o).toNat = some x) : nm r v = x := by
  obtain ⟨-, -, -, -, -, -, -, -, -, -, -, e9⟩ := hs _ hq
  obtain ⟨za, zr, f1, f2, f3, f4⟩ := (e9 (show 100 ≤ 1000 + c by omega)).1 (show 1000 ≤ 1000 + c by omega)
  rw [nm_of f1] at hx
  rw [nm_of f2]
  refine f4 x ?_
  show fx_o ws (1000 + c - 1000) (za + o).toNat = some x
  rw [Nat.add_sub_cancel_left]
  exact hx
theorem fr_sub {V W : List (Nat × Nat × Nat)} {u v : va_W} (h : ∀ (c i : Nat), (∀ q ∈ W, ¬ (q.1 = c ∧ q.2.1 ≤ i ∧ i < q.2.2)) → ∀ q ∈ V, q.1 ≠ 1000 ∧ (q.1 = c → i < q.2.1 ∨ q.2.2 ≤ i)) (hf : ai_fr V u v) : ai_fr W u v := fun c i x hw hx => hf c i x (wr_no (h c i fun q hq hc => by
  have : ai_wr W c i i = true := by
    unfold ai_wr
    refine List.any_eq_true.mpr ⟨q, hq, ?_⟩
    simp only [Bool.and_eq_true, Bool.or_eq_true, decide_eq_true_eq]
    exact ⟨⟨Or.inl hc.1, hc.2.1⟩, hc.2.2⟩
  rw [this] at hw
  cases hw)) hx
def cd_lo (k : Nat) : List (Nat × ai_v) := [(0, (0, 0, 0, 0)), (1, (1, 0, 0, (k : Int))), (2, (1, 2, 0, 0)), (3, (1, 3, 0, 0)), (4, (1, 4, 0, 0)), (5, (1, 0, 0, 0)), (6, (1, 5, 0, 0)), (7, (1, 5, 0, 0))]
def cd_en : List ai_e := [(0, 0, false, 0, 0), (0, 2555, false, 1, 0), (0, 2, false, 2, 0), (-2147483648, 2147483647, false, 3, 0), (0, 20, false, 4, 0), (0, 20, false, 5, 0), (0, 40, false, 6, 0), (0, 2, false, 7, 0)]
def cd_h0 (k : Nat) : ai_s := (49, cd_lo k, [], cd_en, [(42, k, (1, 0, 0, -1)), (43, k, (1, 6, 0, 0))], [])
def cd_h1 (k : Nat) : ai_s := (49, cd_lo k, [], cd_en, [(42, k, (1, 7, 0, 0)), (43, k, (1, 6, 0, 0))], [(140, 7, 2, 7, 0)])
def cd_h2 (k : Nat) : ai_s := (49, cd_lo k, [], cd_en, [(42, k, (1, 2, 0, 0)), (43, k, (1, 6, 0, 0))], [])
noncomputable def cd_run (S : Nat → List sm_t) (h : Nat → ai_s) (k : Nat) : Bool := (ai_ex (hk []) 200 91 tb_m91 10 [97, 134] (h k)).any fun xs => xs.all fun x => (S k).any fun t => sm_is [] x t
theorem cd_r0 : ((List.range 4).all (cd_run cd_S0 cd_h0)) = true := by decide +kernel
theorem cd_r1 : ((List.range 4).all (cd_run cd_S1 cd_h1)) = true := by decide +kernel
theorem cd_r2 : ((List.range 4).all (cd_run cd_S2 cd_h2)) = true := by decide +kernel
def cd_l9 : List (Nat × ai_v) := [(0, (0, 0, 0, 0)), (1, (1, 7, 0, 0)), (2, (1, 2, 0, 0)), (3, (1, 3, 0, 0)), (4, (1, 4, 0, 0)), (5, (1, 0, 0, 0)), (6, (1, 5, 0, 0)), (7, (1, 5, 0, 0)), (8, (1, 6, 0, 0))]
def cd_e9 : List ai_e := [(0, 0, false, 0, 0), (0, 2555, false, 1, 0), (0, 2, false, 2, 0), (-2147483648, 2147483647, false, 3, 0), (0, 20, false, 4, 0), (0, 19, false, 5, 0), (-2147483648, 2147483647, false, 6, 0), (0, 3, false, 7, 0)]
theorem cd_r97 : ((ai_ex (hk []) 20 91 tb_m91 10 [103] (97, cd_l9, [], cd_e9, [], [])).any fun xs => xs.all fun x => cd_S97.any fun t => sm_is [] x t) = true := by decide +kernel
theorem cd_r106a : ((ai_ex (hk []) 20 91 tb_m91 10 [] (106, cd_l9, [(1, 0, 0, 0)], cd_e9, [], [])).any fun xs => xs.all fun x => cd_S106a.any fun t => sm_is [] x t) = true := by decide +kernel
theorem cd_r106b : ((ai_ex (hk []) 20 91 tb_m91 10 [121] (106, cd_l9, [(1, 0, 0, 1)], cd_e9, [], [])).any fun xs => xs.all fun x => cd_S106b.any fun t => sm_is [] x t) = true := by decide +kernel
theorem cd_r124 : ((ai_ex (hk []) 20 91 tb_m91 10 [49] (124, cd_l9, [(1, 8, 0, 0)], cd_e9 ++ [(-2147483648, 2147483647, false, 8, 0)], [], [])).any fun xs => xs.all fun x => cd_S124.any fun t => sm_is [] x t) = true := by decide +kernel
def cd_W : List (Nat × Nat × Nat) := [(7, 1, 3), (10, 0, 4), (11, 0, 4)]
section RDC
variable {ad : List Nat} {p : Program} {l : Launch} {e : Env} {R : Room} {s : State} {m : MethodId} {args : Array Value} {below : List Frame} {meth : Method} {c : Code} {D : va_G} {tys : ai_ty} {A : Nat → Prop} {b L : Nat} {sx : Nat → Int32} {cells slots : Nat} {Q : State → Prop}
theorem cd_T {k : Nat} (hk : k < 4) : tb_TY[45 + k]? = some (1, 40, [(1, 0, -2147483648, 2147483647)]) := match k, hk with
  | 0, _ => rfl
  | 1, _ => rfl
  | 2, _ => rfl
  | 3, _ => rfl
  | k + 4, h => absurd h (by omega)
/-- from where the test is read: a pull at it, or it is refused -/
theorem cd_pull {a a7 k n N i : Nat} {la f : Int} {E : Nat → Int} {zk zl zf zm z5 z6 z7 zt : Int32} {ws : va_W} (C : ai_cx tb_m91 10 p R s m args c D tys A b L sx cells slots) (ha : ad[0]? = some a) (ha7 : ad[7]? = some a7) (hk : k < 4) (hn4 : n ≤ 4) (hN : N ≤ 20) (hi : i < N) (hla : 0 ≤ la ∧ la ≤ 2) (ek : zk.toInt = k) (el : zl.toInt = la) (ef : zf.toInt = f) (em : zm.toInt = N) (e5 : z5.toInt = 0) (e6 : z6.toInt = i) (e7 : z7.toInt = i) (hw : ai_wd tb_TY ad tys ws) (hn : vi ws 7 0 n) (hc : cev ws 7 n E) (hg : good n E)
    (k1 : ∀ (ws' : va_W) (z' : Int32) (lv' : List (Nat × Value)), ¬ ev_can n E zt.toInt → ai_wd tb_TY ad tys ws' → ai_fr [] ws ws' → z'.toInt = -20 - i → hG tb_m91 p l e R s m args below meth c D A cells slots Q 114 lv' [.int z'] ws')
    (k2 : ∀ (ws' : va_W) (y5 y6 y7 : Int32), ev_can n E zt.toInt → ai_wd tb_TY ad tys ws' → ai_fr (pa_W zt.toInt.toNat) ws ws' → cev ws' 7 n (ev_pl E zt.toInt.toNat) → y5.toInt = 0 → y6.toInt = i + 1 → y7.toInt = i + 1 → hG tb_m91 p l e R s m args below meth c D A cells slots Q 49 [(0, .ref a), (1, .int zk), (2, .int zl), (3, .int zf), (4, .int zm), (5, .int y5), (6, .int y6), (7, .int y7)] [] ws') :
    hG tb_m91 p l e R s m args below meth c D A cells slots Q 97 [(0, .ref a), (1, .int zk), (2, .int zl), (3, .int zf), (4, .int zm), (5, .int z5), (6, .int z6), (7, .int z7), (8, .int zt)] [] ws := by
  have bf := ai_irg zf
  have bt := ai_irg zt
  have gm : ∀ {w : va_W} {V : List (Nat × Nat × Nat)} {y5 y6 y7 y1 y2 y3 y4 y8 : Int32} {sk : List ai_v} {sv : List Value} {rr : List Int} {ee : List ai_e} {pc : Nat}, ai_wd tb_TY ad tys w → y1.toInt = k → y2.toInt = la → y3.toInt = f → y4.toInt = N → y5.toInt = 0 → y6.toInt = i → y7.toInt = i → y8.toInt = zt.toInt → ai_ok ([0, 0, la, f, (N : Int), (i : Int), zt.toInt, (k : Int)] ++ rr) (cd_e9 ++ ee) → ai_sk ad b ([0, 0, la, f, (N : Int), (i : Int), zt.toInt, (k : Int)] ++ rr) sk sv → ai_gm tb_TY V w ad b L sx tys tb_m91.2.2.2.2.1 ([0, 0, la, f, (N : Int), (i : Int), zt.toInt, (k : Int)] ++ rr) (pc, cd_l9, sk, cd_e9 ++ ee, [], []) [(0, .ref a), (1, .int y1), (2, .int y2), (3, .int y3), (4, .int y4), (5, .int y5), (6, .int y6), (7, .int y7), (8, .int y8)] sv w := fun {w V y5 y6 y7 y1 y2 y3 y4 y8 sk sv rr ee pc} h h1 h2 h3 h4 h5 h6 h7 h8 hok hsk => ⟨hok, sb0, ⟨rfl, Or.inl ⟨rfl, a, ha, rfl⟩, rfl, int_dv (z := (k : Int)) rfl (by omega), rfl, int_dv (z := la) rfl (by omega), rfl, int_dv (z := f) rfl (by omega), rfl, int_dv (z := (N : Int)) rfl (by omega), rfl, int_dv (z := 0) rfl (by omega), rfl, int_dv (z := (i : Int)) rfl (by omega), rfl, int_dv (z := (i : Int)) rfl (by omega), rfl, int_dv (z := zt.toInt) rfl (by omega), trivial⟩, hsk, h, k0, fun _ _ _ _ h => h, fun h => by cases h⟩
  have ok0 : ai_ok ([0, 0, la, f, (N : Int), (i : Int), zt.toInt, (k : Int)] ++ []) (cd_e9 ++ []) := en_mk (by simp only [cd_e9, List.append_nil, en_b, and_true]; omega) rfl
  have un : ∀ {r' : List Int} {lv' : List (Nat × Value)} {rr : List Int}, ai_x ([0, 0, la, f, (N : Int), (i : Int), zt.toInt, (k : Int)] ++ rr) r' → ai_lo ad b r' cd_l9 lv' → ∃ y1 y2 y3 y4 y5 y6 y7 y8 : Int32, lv' = [(0, .ref a), (1, .int y1), (2, .int y2), (3, .int y3), (4, .int y4), (5, .int y5), (6, .int y6), (7, .int y7), (8, .int y8)] ∧ y1.toInt = k ∧ y2.toInt = la ∧ y3.toInt = f ∧ y4.toInt = N ∧ y5.toInt = 0 ∧ y6.toInt = i ∧ y7.toInt = i ∧ y8.toInt = zt.toInt := fun {r' lv' rr} hx' hlo => by
    obtain ⟨lv1, rfl, pz1⟩ := lo_ref ha hlo
    obtain ⟨y1, lv2, rfl, d1, pz2⟩ := lo_int rfl pz1
    obtain ⟨y2, lv3, rfl, d2, pz3⟩ := lo_int rfl pz2
    obtain ⟨y3, lv4, rfl, d3, pz4⟩ := lo_int rfl pz3
    obtain ⟨y4, lv5, rfl, d4, pz5⟩ := lo_int rfl pz4
    obtain ⟨y5, lv6, rfl, d5, pz6⟩ := lo_int rfl pz5
    obtain ⟨y6, lv7, rfl, d6, pz7⟩ := lo_int rfl pz6
    obtain ⟨y7, lv8, rfl, d7, pz8⟩ := lo_int rfl pz7
    obtain ⟨y8, lv9, rfl, d8, pz9⟩ := lo_int rfl pz8
    cases lo_nil pz9
    unfold vn at d1 d2 d3 d4 d5 d6 d7 d8
    rw [nm_x hx' (k := 7) rfl] at d1
    rw [nm_x hx' (k := 2) rfl] at d2
    rw [nm_x hx' (k := 3) rfl] at d3
    rw [nm_x hx' (k := 4) rfl] at d4
    rw [nm_x hx' (k := 0) rfl] at d5
    rw [nm_x hx' (k := 5) rfl] at d6 d7
    rw [nm_x hx' (k := 6) rfl] at d8
    dsimp only at d1 d2 d3 d4 d5 d6 d7 d8
    exact ⟨y1, y2, y3, y4, y5, y6, y7, y8, rfl, by omega, by omega, by omega, by omega, by omega, by omega, by omega, by omega⟩
  have sk2 : ∀ {r' : List Int} {sk' : List Value} {rr : List Int}, ai_x ([0, 0, la, f, (N : Int), (i : Int), zt.toInt, (k : Int)] ++ rr) r' → ai_sk ad b r' [(1, 6, 0, 0), (0, 7, 0, 0)] sk' → ∃ y : Int32, sk' = [.int y, .ref a7] ∧ y.toInt = zt.toInt := fun {r' sk' rr} hx' hsk => by
    obtain ⟨x1, s1, rfl, d1, g4⟩ := hsk.cons
    obtain ⟨x2, s2, rfl, d2, g4⟩ := g4.cons
    cases g4.nil
    obtain ⟨z2, rfl, hz2⟩ := dvn d1 (hx'.at rfl)
    rcases d2 with ⟨-, q, q1, q2⟩ | ⟨q, -⟩ | ⟨q, -⟩ | ⟨q, -⟩ | ⟨q, -⟩
    · refine ⟨z2, ?_, by omega⟩
      rw [q2, Option.some.inj (q1.symm.trans ha7)]
    all_goals exact absurd q (by decide)
  refine hsum (st := (97, cd_l9, [], cd_e9 ++ [], [], [])) cd_r97 rfl C (gm (pc := 97) (rr := []) (V := []) hw ek el ef em e5 e6 e7 rfl ok0 trivial) (fun x hx r' lv' sk' ws1 hx' hb hl hs hlo hsk hw1 hv hf1 _ => ?_)
  rw [List.mem_singleton.mp hx] at hlo hsk ⊢
  obtain ⟨y1, y2, y3, y4, y5, y6, y7, y8, rfl, d1, d2, d3, d4, d5, d6, d7, d8⟩ := un hx' hlo
  obtain ⟨zt', rfl, ht'⟩ := sk2 hx' hsk
  have hzt : zt' = zt := Int32.toInt_inj.mp ht'
  subst hzt
  have hn1 := hn.fr hf1 rfl
  have hc1 : cev ws1 7 n E := hc.fr hf1 rfl
  refine hcallZ (q := (144, 0, 12, 1, 0)) (M' := tb_m12) (cl := 7) (a := a7) (As := [.int zt']) (rest := []) (rets := [29]) (P := cc_P ad tys n E zt'.toInt ws1) C (by decide) (tv_m91.1.1.1 (103, .invokevirtual 144, 3) (List.mem_of_getElem? (i := 55) rfl)) (tv_m91.2 _ (List.mem_of_getElem? (i := 10) rfl)) rfl rfl rfl rfl (by decide) (Nat.le_of_ble_eq_true rfl) rfl rfl rfl rfl hw1 ha7 (by decide) ?_ ?_ ?_ ?_
  · intro pcr hp
    rw [List.mem_singleton.mp hp]
    exact tv_m12.1.1.1 (29, .ireturn, 1) (List.mem_of_getElem? (i := 15) rfl)
  · rintro w z ⟨-, -, h⟩
    rcases h with h | h
    · exact Or.inr h.2
    · exact Or.inl h.2
  · intro p2 e2 R2 s2 m2 args2 below2 meth2 c2 Q2 C2 kk
    exact cc_all C2 hw1 ha7 hn4 hn1 hc1 hg (fun pcr w z' lv2 hp hP => kk pcr w z' lv2 hp hP)
  · rintro ws2 z ⟨hw2, hf2, hcan⟩
    have f12 : ai_fr [] ws ws2 := hf1.tr hf2
    rcases hcan with ⟨hcan, rfl⟩ | ⟨hcan, rfl⟩
    · refine hsum (st := (106, cd_l9, [(1, 0, 0, 1)], cd_e9 ++ [], [], [])) cd_r106b rfl C (gm (pc := 106) (rr := []) (V := []) hw2 d1 d2 d3 d4 d5 d6 d7 d8 ok0 ⟨int_dv (z := 0) rfl (by decide), trivial⟩) (fun x hx r' lv' sk' ws3 hx' hb hl hs hlo hsk hw3 hv hf3 _ => ?_)
      rw [List.mem_singleton.mp hx] at hlo hsk ⊢
      obtain ⟨u1, u2, u3, u4, u5, u6, u7, u8, rfl, d1, d2, d3, d4, d5, d6, d7, d8⟩ := un hx' hlo
      obtain ⟨zt2, rfl, ht2⟩ := sk2 hx' hsk
      have hzt : zt2 = zt' := Int32.toInt_inj.mp ht2
      subst hzt
      have f13 : ai_fr [] ws ws3 := f12.tr hf3
      have hc3 : cev ws3 7 n E := hc.fr f13 rfl
      obtain ⟨t, ht⟩ : ∃ t : Nat, zt2.toInt = (t : Int) := ⟨zt2.toInt.toNat, by have := hcan.1; omega⟩
      have htt : zt2.toInt.toNat = t := by omega
      refine hcallI (q := (147, 0, 13, 1, 0)) (M' := tb_m13) (cl := 7) (a := a7) (As := [.int zt2]) (rest := []) (rets := [94]) (P := pa_P ad tys n E t ws3) C (by decide) (tv_m91.1.1.1 (121, .invokevirtual 147, 3) (List.mem_of_getElem? (i := 64) rfl)) (tv_m91.2 _ (List.mem_of_getElem? (i := 11) rfl)) rfl rfl rfl rfl (by decide) (Nat.le_of_ble_eq_true rfl) rfl rfl rfl rfl hw3 ha7 (by decide) ?_ ?_ ?_
      · intro pcr hp
        rw [List.mem_singleton.mp hp]
        exact tv_m13.1.1.1 (94, .ireturn, 1) (List.mem_of_getElem? (i := 59) rfl)
      · intro p2 e2 R2 s2 m2 args2 below2 meth2 c2 Q2 C2 kk
        refine pa_all C2 hw3 ha7 hn4 hc3 hg ht (by have := hcan.2.1; omega) hcan.2.2.1 (by have := hcan.2.2.2; rw [htt] at this; exact this) (fun pcr w z' lv2 hp hP => kk pcr w z' lv2 hp hP)
      · rintro ws4 z' ⟨hw4, hf4, hc4⟩
        have bz := ai_irg z'
        refine hsum (st := (124, cd_l9, [(1, 8, 0, 0)], cd_e9 ++ [(-2147483648, 2147483647, false, 8, 0)], [], [])) cd_r124 rfl C (gm (pc := 124) (rr := [z'.toInt]) (V := []) hw4 d1 d2 d3 d4 d5 d6 d7 d8 (en_mk (by simp only [cd_e9, List.cons_append, List.nil_append, en_b, and_true]; omega) rfl) ⟨int_dv (z := z'.toInt) rfl (by omega), trivial⟩) (fun x hx r' lv' sk' ws5 hx' hb hl hs hlo hsk hw5 hv hf5 _ => ?_)
        rw [List.mem_singleton.mp hx] at hlo hsk ⊢
        cases hsk.nil
        obtain ⟨lv1, rfl, pz1⟩ := lo_ref ha hlo
        obtain ⟨q1, lv2, rfl, g1, pz2⟩ := lo_int rfl pz1
        obtain ⟨q2, lv3, rfl, g2, pz3⟩ := lo_int rfl pz2
        obtain ⟨q3, lv4, rfl, g3, pz4⟩ := lo_int rfl pz3
        obtain ⟨q4, lv5, rfl, g4, pz5⟩ := lo_int rfl pz4
        obtain ⟨q5, lv6, rfl, g5, pz6⟩ := lo_int rfl pz5
        obtain ⟨q6, lv7, rfl, g6, pz7⟩ := lo_int rfl pz6
        obtain ⟨q7, lv8, rfl, g7, pz8⟩ := lo_int rfl pz7
        cases lo_nil pz8
        unfold vn at g1 g2 g3 g4 g5 g6 g7
        rw [nm_x hx' (k := 7) rfl] at g1
        rw [nm_x hx' (k := 2) rfl] at g2
        rw [nm_x hx' (k := 3) rfl] at g3
        rw [nm_x hx' (k := 4) rfl] at g4
        rw [nm_x hx' (k := 0) rfl] at g5
        rw [nm_x hx' (k := 5) rfl] at g6 g7
        dsimp only at g1 g2 g3 g4 g5 g6 g7
        have r1 : q1 = zk := Int32.toInt_inj.mp (by omega)
        have r2 : q2 = zl := Int32.toInt_inj.mp (by omega)
        have r3 : q3 = zf := Int32.toInt_inj.mp (by omega)
        have r4 : q4 = zm := Int32.toInt_inj.mp (by omega)
        subst r1 r2 r3 r4
        have hfin : ai_fr (pa_W zt2.toInt.toNat) ws ws5 := by
          rw [htt]
          exact ((wsub_ok (V := []) rfl f13).tr hf4).tr (wsub_ok (V := []) rfl hf5)
        refine k2 ws5 q5 q6 q7 hcan hw5 hfin ?_ (by omega) (by omega) (by omega)
        rw [htt]
        exact hc4.fr hf5 rfl
    · refine hsum (st := (106, cd_l9, [(1, 0, 0, 0)], cd_e9 ++ [], [], [])) cd_r106a rfl C (gm (pc := 106) (rr := []) (V := []) hw2 d1 d2 d3 d4 d5 d6 d7 d8 ok0 ⟨int_dv (z := 0) rfl (by decide), trivial⟩) (fun x hx r' lv' sk' ws3 hx' hb hl hs hlo hsk hw3 hv hf3 _ => ?_)
      have hx2 := List.mem_singleton.mp hx
      subst hx2
      simp (config := { decide := true }) only [bnd_b, lin_b, lin_q, Nat.reduceAdd, Nat.zero_add, Nat.reduceEqDiff, reduceIte, and_true, Int.add_zero] at hb hl
      have h0 := nm_x hx' (k := 0) rfl
      have h5 := nm_x hx' (k := 5) rfl
      obtain ⟨z', rfl, hz'⟩ := sk1 rfl hsk
      unfold vn at hz'
      dsimp only at hz'
      exact k1 ws3 z' lv' hcan hw3 (f12.tr hf3) (by omega)
end RDC
end
section
theorem f140 {w0 : va_W} {r : List Int} {a a' : Nat} {o za zb : Int} (ha : r[a]? = some za) (hb : r[a']? = some zb) (h : za ≠ zb + o) : ai_sb w0 r [(140, a, a', a, o)] := fun q hq => by
  rw [List.mem_singleton.mp hq]
  exact ⟨za, zb, za, ha, hb, ha, fun h => absurd (show (140 : Nat) = 0 from h) (by decide), fun h => absurd (show (140 : Nat) = 1 from h) (by decide), fun h => absurd (show (140 : Nat) = 2 from h) (by decide), fun h => absurd (show (140 : Nat) = 4 from h) (by decide), fun h => absurd (show (140 : Nat) = 5 from h) (by decide), fun _ => ⟨fun h => absurd (show (1000 : Nat) ≤ 140 from h) (by decide), fun _ => ⟨za, za, ha, ha, fun h => absurd (show (140 : Nat) < 132 from h) (by decide), fun h => absurd (show (200 : Nat) ≤ 140 from h) (by decide), fun h => absurd (show (500 : Nat) ≤ 140 from h) (by decide), fun _ => ⟨zb, hb, h⟩, fun h => absurd (show (140 : Nat) = 141 from h) (by decide), fun h => absurd (show (140 : Nat) = 142 from h) (by decide), fun h => absurd (show (150 : Nat) ≤ 140 from h) (by decide)⟩, fun _ _ => ⟨fun h => absurd (show (300 : Nat) ≤ 140 from h) (by decide), fun h => absurd (show (310 : Nat) ≤ 140 from h) (by decide), fun h => absurd (show (320 : Nat) ≤ 140 from h) (by decide), fun h => absurd (show (400 : Nat) ≤ 140 from h) (by decide), fun h => absurd (show (140 : Nat) = 330 from h) (by decide)⟩, fun h => absurd (show (140 : Nat) = 350 from h) (by decide)⟩⟩
theorem pa_sub {t : Nat} (ht : t < 4) {u v : va_W} (hf : ai_fr (pa_W t) u v) : ai_fr cd_W u v := fr_sub (fun c i h q hq => by
  have h1 := h (7, 1, 3) (by unfold cd_W; simp)
  have h2 := h (10, 0, 4) (by unfold cd_W; simp)
  have h3 := h (11, 0, 4) (by unfold cd_W; simp)
  dsimp only at h1 h2 h3
  unfold pa_W at hq
  simp only [List.mem_cons, List.not_mem_nil, or_false] at hq
  rcases hq with rfl | rfl | rfl <;> dsimp only <;> omega) hf
section RDL
variable {ad : List Nat} {p : Program} {l : Launch} {e : Env} {R : Room} {s : State} {m : MethodId} {args : Array Value} {below : List Frame} {meth : Method} {c : Code} {D : va_G} {tys : ai_ty} {A : Nat → Prop} {b L : Nat} {sx : Nat → Int32} {cells slots : Nat} {Q : State → Prop}
set_option maxHeartbeats 2000000 in
theorem cd_loop {a a7 k n len N : Nat} {ln la f : Int} {X : Nat → Int} {zk zl zf zm : Int32} {ws0 : va_W} {res : Nat ⊕ ((Nat → Int) × Nat × Int)} (C : ai_cx tb_m91 10 p R s m args c D tys A b L sx cells slots) (ha : ad[0]? = some a) (ha7 : ad[7]? = some a7) (hk : k < 4) (hn4 : n ≤ 4) (hN : N ≤ 20) (hla : 0 ≤ la ∧ la ≤ 2) (hln : ln = -1 ∨ (0 ≤ ln ∧ ln ≤ 2)) (hlen : len ≤ 40) (ek : zk.toInt = k) (el : zl.toInt = la) (ef : zf.toInt = f) (em : zm.toInt = N)
    (k1 : ∀ (ws' : va_W) (z' : Int32) (lv' : List (Nat × Value)) (i' : Nat), res = .inl i' → ai_wd tb_TY ad tys ws' → ai_fr cd_W ws0 ws' → z'.toInt = -20 - i' → hG tb_m91 p l e R s m args below meth c D A cells slots Q 114 lv' [.int z'] ws')
    (k2 : ∀ (ws' : va_W) (E' : Nat → Int) (i' : Nat) (y : Int) (z5 z6 : Int32), res = .inr (E', i', y) → ai_wd tb_TY ad tys ws' → ai_fr cd_W ws0 ws' → cev ws' 7 n E' → good n E' → i' ≤ 20 → (0 ≤ y ∧ y ≤ 3) → z5.toInt = y → z6.toInt = i' → hG tb_m91 p l e R s m args below meth c D A cells slots Q 134 [(0, .ref a), (5, .int z5), (6, .int z6)] [] ws') :
    ∀ (q i : Nat) (E : Nat → Int) (z5 z6 z7 : Int32) (ws : va_W), i + q = N → z5.toInt = 0 → z6.toInt = i → z7.toInt = i → rd n ln la f len X q i E = res → ai_wd tb_TY ad tys ws → ai_fr cd_W ws0 ws → vi ws 7 0 n → vi ws 42 k ln → vi ws 43 k len → (∀ j, j < len → vi ws (45 + k) j (X j)) → cev ws 7 n E → good n E →
      hG tb_m91 p l e R s m args below meth c D A cells slots Q 49 [(0, .ref a), (1, .int zk), (2, .int zl), (3, .int zf), (4, .int zm), (5, .int z5), (6, .int z6), (7, .int z7)] [] ws := by
  intro q
  induction q with
  | zero =>
    intro i E z5 z6 z7 ws hiq e5 e6 e7 hres hw hfr hn hv42 hv43 hX hc hg
    have bf := ai_irg zf
    have stop : ∀ {r' : List Int} {lv' : List (Nat × Value)} {sk' : List Value} {ws' : va_W}, nm r' 0 = 0 → nm r' 5 = i → ai_lo ad b r' [(0, (0, 0, 0, 0)), (5, (1, 0, 0, 0)), (6, (1, 5, 0, 0))] lv' → ai_sk ad b r' [] sk' → ai_wd tb_TY ad tys ws' → ai_fr [] ws ws' → hG tb_m91 p l e R s m args below meth c D A cells slots Q 134 lv' sk' ws' := fun {r' lv' sk' ws'} h0 h5 hlo hsk hw' hf => by
      obtain ⟨lv1, rfl, pz1⟩ := lo_ref ha hlo
      obtain ⟨y5, lv2, rfl, g5, pz2⟩ := lo_int rfl pz1
      obtain ⟨y6, lv3, rfl, g6, pz3⟩ := lo_int rfl pz2
      cases lo_nil pz3
      cases hsk.nil
      unfold vn at g5 g6
      dsimp only at g5 g6
      exact k2 ws' E i 0 y5 y6 hres.symm hw' (hfr.tr (wsub_ok (V := []) rfl hf)) (hc.fr hf rfl) hg (by omega) (by omega) (by omega) (by omega)
    by_cases c0 : ln = -1
    · refine hsum (st := cd_h0 k) (List.all_eq_true.mp cd_r0 k (List.mem_range.mpr hk)) rfl C (r := [0, 0, la, f, (N : Int), (i : Int), (len : Int), 0]) ⟨en_mk (by simp only [cd_h0, cd_en, en_b, and_true]; omega) rfl, sb0, ⟨rfl, Or.inl ⟨rfl, a, ha, rfl⟩, rfl, int_dv (z := 0) rfl (by omega), rfl, int_dv (z := la) rfl (by omega), rfl, int_dv (z := f) rfl (by omega), rfl, int_dv (z := (N : Int)) rfl (by omega), rfl, int_dv (z := 0) rfl (by omega), rfl, int_dv (z := (i : Int)) rfl (by omega), rfl, int_dv (z := (i : Int)) rfl (by omega), trivial⟩, trivial, hw, kc (hv42.kn (n := 0) (t := 0) rfl (by omega)) (kc (hv43.kn (n := 6) (t := (len : Int)) rfl (by omega)) k0), fun _ _ _ _ h => h, fun h => by cases h⟩ (fun x hx r' lv' sk' ws' hx' hb hl hs hlo hsk hw' hv hf _ => ?_)
      have h0 := nm_x hx' (k := 0) rfl
      have h2 := nm_x hx' (k := 2) rfl
      have h3 := nm_x hx' (k := 3) rfl
      have h4 := nm_x hx' (k := 4) rfl
      have h5 := nm_x hx' (k := 5) rfl
      have h6 := nm_x hx' (k := 6) rfl
      unfold cd_S0 at hx
      rcases List.mem_cons.mp hx with rfl | hx
      · simp (config := { decide := true }) only [bnd_b, lin_b, lin_q, Nat.reduceAdd, Nat.zero_add, Nat.reduceEqDiff, reduceIte, and_true, Int.add_zero] at hb hl
        exact stop h0 h5 hlo hsk hw' hf
      rcases List.mem_cons.mp hx with rfl | hx
      · simp (config := { decide := true }) only [bnd_b, lin_b, lin_q, Nat.reduceAdd, Nat.zero_add, Nat.reduceEqDiff, reduceIte, and_true, Int.add_zero] at hb hl
        exfalso
        omega
      rcases List.mem_cons.mp hx with rfl | hx
      · simp (config := { decide := true }) only [bnd_b, lin_b, lin_q, Nat.reduceAdd, Nat.zero_add, Nat.reduceEqDiff, reduceIte, and_true, Int.add_zero] at hb hl
        exfalso
        omega
      · cases hx
    by_cases c1 : ln = la
    · refine hsum (st := cd_h2 k) (List.all_eq_true.mp cd_r2 k (List.mem_range.mpr hk)) rfl C (r := [0, 0, la, f, (N : Int), (i : Int), (len : Int), 0]) ⟨en_mk (by simp only [cd_h2, cd_en, en_b, and_true]; omega) rfl, sb0, ⟨rfl, Or.inl ⟨rfl, a, ha, rfl⟩, rfl, int_dv (z := 0) rfl (by omega), rfl, int_dv (z := la) rfl (by omega), rfl, int_dv (z := f) rfl (by omega), rfl, int_dv (z := (N : Int)) rfl (by omega), rfl, int_dv (z := 0) rfl (by omega), rfl, int_dv (z := (i : Int)) rfl (by omega), rfl, int_dv (z := (i : Int)) rfl (by omega), trivial⟩, trivial, hw, kc (hv42.kn (n := 2) (t := la) rfl (by omega)) (kc (hv43.kn (n := 6) (t := (len : Int)) rfl (by omega)) k0), fun _ _ _ _ h => h, fun h => by cases h⟩ (fun x hx r' lv' sk' ws' hx' hb hl hs hlo hsk hw' hv hf _ => ?_)
      have h0 := nm_x hx' (k := 0) rfl
      have h2 := nm_x hx' (k := 2) rfl
      have h3 := nm_x hx' (k := 3) rfl
      have h4 := nm_x hx' (k := 4) rfl
      have h5 := nm_x hx' (k := 5) rfl
      have h6 := nm_x hx' (k := 6) rfl
      unfold cd_S2 at hx
      rcases List.mem_cons.mp hx with rfl | hx
      · simp (config := { decide := true }) only [bnd_b, lin_b, lin_q, Nat.reduceAdd, Nat.zero_add, Nat.reduceEqDiff, reduceIte, and_true, Int.add_zero] at hb hl
        exact stop h0 h5 hlo hsk hw' hf
      rcases List.mem_cons.mp hx with rfl | hx
      · simp (config := { decide := true }) only [bnd_b, lin_b, lin_q, Nat.reduceAdd, Nat.zero_add, Nat.reduceEqDiff, reduceIte, and_true, Int.add_zero] at hb hl
        exfalso
        omega
      rcases List.mem_cons.mp hx with rfl | hx
      · simp (config := { decide := true }) only [bnd_b, lin_b, lin_q, Nat.reduceAdd, Nat.zero_add, Nat.reduceEqDiff, reduceIte, and_true, Int.add_zero] at hb hl
        exfalso
        omega
      rcases List.mem_cons.mp hx with rfl | hx
      · simp (config := { decide := true }) only [bnd_b, lin_b, lin_q, Nat.reduceAdd, Nat.zero_add, Nat.reduceEqDiff, reduceIte, and_true, Int.add_zero] at hb hl
        exfalso
        omega
      rcases List.mem_cons.mp hx with rfl | hx
      · simp (config := { decide := true }) only [bnd_b, lin_b, lin_q, Nat.reduceAdd, Nat.zero_add, Nat.reduceEqDiff, reduceIte, and_true, Int.add_zero] at hb hl
        exfalso
        omega
      rcases List.mem_cons.mp hx with rfl | hx
      · simp (config := { decide := true }) only [bnd_b, lin_b, lin_q, Nat.reduceAdd, Nat.zero_add, Nat.reduceEqDiff, reduceIte, and_true, Int.add_zero] at hb hl
        exfalso
        omega
      · cases hx
    · refine hsum (st := cd_h1 k) (List.all_eq_true.mp cd_r1 k (List.mem_range.mpr hk)) rfl C (r := [0, 0, la, f, (N : Int), (i : Int), (len : Int), ln]) ⟨en_mk (by simp only [cd_h1, cd_en, en_b, and_true]; omega) rfl, f140 (za := ln) (zb := la) rfl rfl (by omega), ⟨rfl, Or.inl ⟨rfl, a, ha, rfl⟩, rfl, int_dv (z := 0) rfl (by omega), rfl, int_dv (z := la) rfl (by omega), rfl, int_dv (z := f) rfl (by omega), rfl, int_dv (z := (N : Int)) rfl (by omega), rfl, int_dv (z := 0) rfl (by omega), rfl, int_dv (z := (i : Int)) rfl (by omega), rfl, int_dv (z := (i : Int)) rfl (by omega), trivial⟩, trivial, hw, kc (hv42.kn (n := 7) (t := ln) rfl (by omega)) (kc (hv43.kn (n := 6) (t := (len : Int)) rfl (by omega)) k0), fun _ _ _ _ h => h, fun h => by cases h⟩ (fun x hx r' lv' sk' ws' hx' hb hl hs hlo hsk hw' hv hf _ => ?_)
      have h0 := nm_x hx' (k := 0) rfl
      have h2 := nm_x hx' (k := 2) rfl
      have h3 := nm_x hx' (k := 3) rfl
      have h4 := nm_x hx' (k := 4) rfl
      have h5 := nm_x hx' (k := 5) rfl
      have h6 := nm_x hx' (k := 6) rfl
      unfold cd_S1 at hx
      rcases List.mem_cons.mp hx with rfl | hx
      · simp (config := { decide := true }) only [bnd_b, lin_b, lin_q, Nat.reduceAdd, Nat.zero_add, Nat.reduceEqDiff, reduceIte, and_true, Int.add_zero] at hb hl
        exact stop h0 h5 hlo hsk hw' hf
      rcases List.mem_cons.mp hx with rfl | hx
      · simp (config := { decide := true }) only [bnd_b, lin_b, lin_q, Nat.reduceAdd, Nat.zero_add, Nat.reduceEqDiff, reduceIte, and_true, Int.add_zero] at hb hl
        exfalso
        omega
      rcases List.mem_cons.mp hx with rfl | hx
      · simp (config := { decide := true }) only [bnd_b, lin_b, lin_q, Nat.reduceAdd, Nat.zero_add, Nat.reduceEqDiff, reduceIte, and_true, Int.add_zero] at hb hl
        exfalso
        omega
      · cases hx
  | succ q ih =>
    intro i E z5 z6 z7 ws hiq e5 e6 e7 hres hw hfr hn hv42 hv43 hX hc hg
    have bf := ai_irg zf
    have stop : ∀ {r' : List Int} {lv' : List (Nat × Value)} {sk' : List Value} {ws' : va_W} {y : Int}, nm r' 0 = 0 → nm r' 5 = i → rd_by ln la len (f + i) = y → y ≠ 0 → (0 ≤ y ∧ y ≤ 3) → ai_lo ad b r' [(0, (0, 0, 0, 0)), (5, (1, 0, 0, y)), (6, (1, 5, 0, 0))] lv' → ai_sk ad b r' [] sk' → ai_wd tb_TY ad tys ws' → ai_fr [] ws ws' → hG tb_m91 p l e R s m args below meth c D A cells slots Q 134 lv' sk' ws' := fun {r' lv' sk' ws' y} h0 h5 hby hy0 hy3 hlo hsk hw' hf => by
      obtain ⟨lv1, rfl, pz1⟩ := lo_ref ha hlo
      obtain ⟨y5, lv2, rfl, g5, pz2⟩ := lo_int rfl pz1
      obtain ⟨y6, lv3, rfl, g6, pz3⟩ := lo_int rfl pz2
      cases lo_nil pz3
      cases hsk.nil
      unfold vn at g5 g6
      dsimp only at g5 g6
      exact k2 ws' E i y y5 y6 (by rw [← hres]; exact rd_end hby hy0) hw' (hfr.tr (wsub_ok (V := []) rfl hf)) (hc.fr hf rfl) hg (by omega) hy3 (by omega) (by omega)
    by_cases c0 : ln = -1
    · refine hsum (st := cd_h0 k) (List.all_eq_true.mp cd_r0 k (List.mem_range.mpr hk)) rfl C (r := [0, 0, la, f, (N : Int), (i : Int), (len : Int), 0]) ⟨en_mk (by simp only [cd_h0, cd_en, en_b, and_true]; omega) rfl, sb0, ⟨rfl, Or.inl ⟨rfl, a, ha, rfl⟩, rfl, int_dv (z := 0) rfl (by omega), rfl, int_dv (z := la) rfl (by omega), rfl, int_dv (z := f) rfl (by omega), rfl, int_dv (z := (N : Int)) rfl (by omega), rfl, int_dv (z := 0) rfl (by omega), rfl, int_dv (z := (i : Int)) rfl (by omega), rfl, int_dv (z := (i : Int)) rfl (by omega), trivial⟩, trivial, hw, kc (hv42.kn (n := 0) (t := 0) rfl (by omega)) (kc (hv43.kn (n := 6) (t := (len : Int)) rfl (by omega)) k0), fun _ _ _ _ h => h, fun h => by cases h⟩ (fun x hx r' lv' sk' ws' hx' hb hl hs hlo hsk hw' hv hf _ => ?_)
      have h0 := nm_x hx' (k := 0) rfl
      have h2 := nm_x hx' (k := 2) rfl
      have h3 := nm_x hx' (k := 3) rfl
      have h4 := nm_x hx' (k := 4) rfl
      have h5 := nm_x hx' (k := 5) rfl
      have h6 := nm_x hx' (k := 6) rfl
      unfold cd_S0 at hx
      rcases List.mem_cons.mp hx with rfl | hx
      · simp (config := { decide := true }) only [bnd_b, lin_b, lin_q, Nat.reduceAdd, Nat.zero_add, Nat.reduceEqDiff, reduceIte, and_true, Int.add_zero] at hb hl
        exfalso
        omega
      rcases List.mem_cons.mp hx with rfl | hx
      · simp (config := { decide := true }) only [bnd_b, lin_b, lin_q, Nat.reduceAdd, Nat.zero_add, Nat.reduceEqDiff, reduceIte, and_true, Int.add_zero] at hb hl
        exact stop (y := 1) h0 h5 (by unfold rd_by; rw [if_pos c0]) (by decide) (by decide) hlo hsk hw' hf
      rcases List.mem_cons.mp hx with rfl | hx
      · simp (config := { decide := true }) only [bnd_b, lin_b, lin_q, Nat.reduceAdd, Nat.zero_add, Nat.reduceEqDiff, reduceIte, and_true, Int.add_zero] at hb hl
        exact stop (y := 1) h0 h5 (by unfold rd_by; rw [if_pos c0]) (by decide) (by decide) hlo hsk hw' hf
      · cases hx
    by_cases c1 : ln = la
    · refine hsum (st := cd_h2 k) (List.all_eq_true.mp cd_r2 k (List.mem_range.mpr hk)) rfl C (r := [0, 0, la, f, (N : Int), (i : Int), (len : Int), 0]) ⟨en_mk (by simp only [cd_h2, cd_en, en_b, and_true]; omega) rfl, sb0, ⟨rfl, Or.inl ⟨rfl, a, ha, rfl⟩, rfl, int_dv (z := 0) rfl (by omega), rfl, int_dv (z := la) rfl (by omega), rfl, int_dv (z := f) rfl (by omega), rfl, int_dv (z := (N : Int)) rfl (by omega), rfl, int_dv (z := 0) rfl (by omega), rfl, int_dv (z := (i : Int)) rfl (by omega), rfl, int_dv (z := (i : Int)) rfl (by omega), trivial⟩, trivial, hw, kc (hv42.kn (n := 2) (t := la) rfl (by omega)) (kc (hv43.kn (n := 6) (t := (len : Int)) rfl (by omega)) k0), fun _ _ _ _ h => h, fun h => by cases h⟩ (fun x hx r' lv' sk' ws' hx' hb hl hs hlo hsk hw' hv hf _ => ?_)
      have h0 := nm_x hx' (k := 0) rfl
      have h2 := nm_x hx' (k := 2) rfl
      have h3 := nm_x hx' (k := 3) rfl
      have h4 := nm_x hx' (k := 4) rfl
      have h5 := nm_x hx' (k := 5) rfl
      have h6 := nm_x hx' (k := 6) rfl
      unfold cd_S2 at hx
      rcases List.mem_cons.mp hx with rfl | hx
      · simp (config := { decide := true }) only [bnd_b, lin_b, lin_q, Nat.reduceAdd, Nat.zero_add, Nat.reduceEqDiff, reduceIte, and_true, Int.add_zero] at hb hl
        exfalso
        omega
      rcases List.mem_cons.mp hx with rfl | hx
      · simp (config := { decide := true }) only [bnd_b, lin_b, lin_q, Nat.reduceAdd, Nat.zero_add, Nat.reduceEqDiff, reduceIte, and_true, Int.add_zero] at hb hl
        exact stop (y := 2) h0 h5 (by unfold rd_by; rw [if_neg c0, if_pos c1, if_neg (by omega)]) (by decide) (by decide) hlo hsk hw' hf
      rcases List.mem_cons.mp hx with rfl | hx
      · simp (config := { decide := true }) only [bnd_b, lin_b, lin_q, Nat.reduceAdd, Nat.zero_add, Nat.reduceEqDiff, reduceIte, and_true, Int.add_zero] at hb hl
        exact stop (y := 2) h0 h5 (by unfold rd_by; rw [if_neg c0, if_pos c1, if_neg (by omega)]) (by decide) (by decide) hlo hsk hw' hf
      rcases List.mem_cons.mp hx with rfl | hx
      · simp (config := { decide := true }) only [bnd_b, lin_b, lin_q, Nat.reduceAdd, Nat.zero_add, Nat.reduceEqDiff, reduceIte, and_true, Int.add_zero] at hb hl
        have hs8 : nm r' 8 = f + i := by omega
        have hX9 : nm r' 9 = X (f + i).toNat := fx_row (c := 45 + k) (a := 8) (o := 0) hs (by rw [show 1000 + (45 + k) = 1045 + k by omega]; exact List.mem_cons_self) (by rw [hs8, Int.add_zero]; exact fx_vi' hw (cd_T hk) (hX _ (by omega)))
        have hby : rd_by ln la len (f + i) = 0 := by unfold rd_by; rw [if_neg c0, if_pos c1, if_pos (by omega)]
        obtain ⟨lv1, rfl, pz1⟩ := lo_ref ha hlo
        obtain ⟨y1, lv2, rfl, d1, pz2⟩ := lo_int rfl pz1
        obtain ⟨y2, lv3, rfl, d2, pz3⟩ := lo_int rfl pz2
        obtain ⟨y3, lv4, rfl, d3, pz4⟩ := lo_int rfl pz3
        obtain ⟨y4, lv5, rfl, d4, pz5⟩ := lo_int rfl pz4
        obtain ⟨y5, lv6, rfl, d5, pz6⟩ := lo_int rfl pz5
        obtain ⟨y6, lv7, rfl, d6, pz7⟩ := lo_int rfl pz6
        obtain ⟨y7, lv8, rfl, d7, pz8⟩ := lo_int rfl pz7
        obtain ⟨y8, lv9, rfl, d8, pz9⟩ := lo_int rfl pz8
        cases lo_nil pz9
        cases hsk.nil
        unfold vn at d1 d2 d3 d4 d5 d6 d7 d8
        dsimp only at d1 d2 d3 d4 d5 d6 d7 d8
        have r1 : y1 = zk := Int32.toInt_inj.mp (by omega)
        have r2 : y2 = zl := Int32.toInt_inj.mp (by omega)
        have r3 : y3 = zf := Int32.toInt_inj.mp (by omega)
        have r4 : y4 = zm := Int32.toInt_inj.mp (by omega)
        subst r1 r2 r3 r4
        have hXx : X (f + i).toNat = y8.toInt := by rw [← hX9]; omega
        refine cd_pull (zt := y8) C ha ha7 hk hn4 hN (by omega) hla ek el ef em (by omega) (by omega) (by omega) hw' (hn.fr hf rfl) (hc.fr hf rfl) hg (fun ws2 z' lv2 hcan hw2 hf2 hz => k1 ws2 z' lv2 i (by rw [← hres]; exact rd_no hby hXx hcan) hw2 (hfr.tr (wsub_ok (V := []) rfl (hf.tr hf2))) hz) (fun ws2 u5 u6 u7 hcan hw2 hf2 hc2 g5 g6 g7 => ?_)
        have ht : y8.toInt.toNat < n := by
          have := hcan.1
          have := hcan.2.1
          omega
        exact ih (i + 1) (ev_pl E y8.toInt.toNat) u5 u6 u7 ws2 (by omega) g5 (by omega) (by omega) (by rw [← hres]; exact (rd_go hby hXx hcan).symm) hw2 ((hfr.tr (wsub_ok (V := []) rfl hf)).tr (pa_sub (by omega) hf2)) ((hn.fr hf rfl).fr hf2 rfl) ((hv42.fr hf rfl).fr hf2 rfl) ((hv43.fr hf rfl).fr hf2 rfl) (fun j hj => ((hX j hj).fr hf rfl).fr hf2 (wr_no fun q hq => by
          unfold pa_W at hq
          simp only [List.mem_cons, List.not_mem_nil, or_false] at hq
          rcases hq with rfl | rfl | rfl <;> dsimp only <;> omega)) hc2 (good_pl hn4 ht hg)
      rcases List.mem_cons.mp hx with rfl | hx
      · simp (config := { decide := true }) only [bnd_b, lin_b, lin_q, Nat.reduceAdd, Nat.zero_add, Nat.reduceEqDiff, reduceIte, and_true, Int.add_zero] at hb hl
        exact stop (y := 2) h0 h5 (by unfold rd_by; rw [if_neg c0, if_pos c1, if_neg (by omega)]) (by decide) (by decide) hlo hsk hw' hf
      rcases List.mem_cons.mp hx with rfl | hx
      · simp (config := { decide := true }) only [bnd_b, lin_b, lin_q, Nat.reduceAdd, Nat.zero_add, Nat.reduceEqDiff, reduceIte, and_true, Int.add_zero] at hb hl
        exact stop (y := 2) h0 h5 (by unfold rd_by; rw [if_neg c0, if_pos c1, if_neg (by omega)]) (by decide) (by decide) hlo hsk hw' hf
      · cases hx
    · refine hsum (st := cd_h1 k) (List.all_eq_true.mp cd_r1 k (List.mem_range.mpr hk)) rfl C (r := [0, 0, la, f, (N : Int), (i : Int), (len : Int), ln]) ⟨en_mk (by simp only [cd_h1, cd_en, en_b, and_true]; omega) rfl, f140 (za := ln) (zb := la) rfl rfl (by omega), ⟨rfl, Or.inl ⟨rfl, a, ha, rfl⟩, rfl, int_dv (z := 0) rfl (by omega), rfl, int_dv (z := la) rfl (by omega), rfl, int_dv (z := f) rfl (by omega), rfl, int_dv (z := (N : Int)) rfl (by omega), rfl, int_dv (z := 0) rfl (by omega), rfl, int_dv (z := (i : Int)) rfl (by omega), rfl, int_dv (z := (i : Int)) rfl (by omega), trivial⟩, trivial, hw, kc (hv42.kn (n := 7) (t := ln) rfl (by omega)) (kc (hv43.kn (n := 6) (t := (len : Int)) rfl (by omega)) k0), fun _ _ _ _ h => h, fun h => by cases h⟩ (fun x hx r' lv' sk' ws' hx' hb hl hs hlo hsk hw' hv hf _ => ?_)
      have h0 := nm_x hx' (k := 0) rfl
      have h2 := nm_x hx' (k := 2) rfl
      have h3 := nm_x hx' (k := 3) rfl
      have h4 := nm_x hx' (k := 4) rfl
      have h5 := nm_x hx' (k := 5) rfl
      have h6 := nm_x hx' (k := 6) rfl
      unfold cd_S1 at hx
      rcases List.mem_cons.mp hx with rfl | hx
      · simp (config := { decide := true }) only [bnd_b, lin_b, lin_q, Nat.reduceAdd, Nat.zero_add, Nat.reduceEqDiff, reduceIte, and_true, Int.add_zero] at hb hl
        exfalso
        omega
      rcases List.mem_cons.mp hx with rfl | hx
      · simp (config := { decide := true }) only [bnd_b, lin_b, lin_q, Nat.reduceAdd, Nat.zero_add, Nat.reduceEqDiff, reduceIte, and_true, Int.add_zero] at hb hl
        exact stop (y := 3) h0 h5 (by unfold rd_by; rw [if_neg c0, if_neg c1]) (by decide) (by decide) hlo hsk hw' hf
      rcases List.mem_cons.mp hx with rfl | hx
      · simp (config := { decide := true }) only [bnd_b, lin_b, lin_q, Nat.reduceAdd, Nat.zero_add, Nat.reduceEqDiff, reduceIte, and_true, Int.add_zero] at hb hl
        exact stop (y := 3) h0 h5 (by unfold rd_by; rw [if_neg c0, if_neg c1]) (by decide) (by decide) hlo hsk hw' hf
      · cases hx
end RDL
end
