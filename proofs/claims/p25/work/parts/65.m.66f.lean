section
/-! the start: the strings; the new objects; the loop -/
def st_k (i : Nat) : Nat := ([149, 151, 153, 155, 157, 159, 160] : List Nat).getD i 0
def st_t (i : Nat) : Term := .string RX2 (st_k i)
def st_v (i : Nat) : Term := .field (st_t i) "java/lang/String" "value" "[B"
def st_F : List Cond := flatC (Jvm.Cond.and given_1 narrow_1)
theorem st_1 : ∀ i : Nat, i < 7 → Cond.exactly (st_t i) "java/lang/String" ∈ st_F := by decide +kernel
theorem st_2 : ∀ i : Nat, i < 7 → Cond.eq (.field (st_t i) "java/lang/String" "coder" "B") (.int 0) ∈ st_F := by decide +kernel
theorem st_3 : ∀ i : Nat, i < 7 → Cond.arrayOf (st_v i) .byte ∈ st_F := by decide +kernel
theorem st_4 : ∀ i : Nat, i < 7 → Cond.eq (.length (st_v i)) (.int (Int32.ofNat (ai_JL.getD i 0))) ∈ st_F := by decide +kernel
theorem st_5 : ∀ i : Nat, i < 7 → ∀ j : Nat, j < ai_JL.getD i 0 → Cond.eq (.elem (st_v i) (.int (Int32.ofNat j))) (.int ((ai_JB.getD i []).getD j 0)) ∈ st_F := by decide +kernel
theorem st_6 : ∀ i : Nat, i < 7 → ∀ j : Nat, j < 7 → i ≠ j → Cond.not (Cond.eq (st_t i) (st_t j)) ∈ st_F ∨ Cond.not (Cond.eq (st_t j) (st_t i)) ∈ st_F := by decide +kernel
theorem st_7 : ∀ i : Nat, i < 7 → ai_JL.getD i 0 < 2 ^ 31 := by decide +kernel
theorem st_8 : ∀ i : Nat, i < 7 → Cond.stringRef RX2 (st_k i) (ai_JX.getD i (0, "")).2 ∈ lw_tbl := by decide +kernel
theorem st_9 : Cond.laysStatic "java/lang/String" "COMPACT_STRINGS" "Z" ∈ lw_tbl := by decide +kernel
theorem st_10 : Cond.laysStatic "jdk/internal/util/Preconditions" "SIOOBE_FORMATTER" "Ljava/util/function/BiFunction;" ∈ lw_tbl := by decide +kernel
theorem st_11 : Cond.initialized "java/lang/String" ∈ lw_tbl := by decide +kernel
theorem st_12 : Cond.initialized "jdk/internal/util/Preconditions" ∈ lw_tbl := by decide +kernel
theorem st_13 : Cond.eq (.static "java/lang/String" "COMPACT_STRINGS" "Z") (.int 1) ∈ st_F := by decide +kernel
theorem st_14 : Cond.isRef (.static "jdk/internal/util/Preconditions" "SIOOBE_FORMATTER" "Ljava/util/function/BiFunction;") ∈ st_F := by decide +kernel
theorem st_15 : ct_AO ∈ lw_tbl := by decide +kernel
theorem st_nj {s : State} {b : Nat} (hts : ∀ w ∈ lw_tbl, w.before #[Value.ref b] s = true) (hgv : (Jvm.Cond.and given_1 narrow_1).before #[Value.ref b] s = true) : ai_nj (fun q => s.heap.size ≤ q) s := by
  have hs := flat_of_before _ hgv
  have hA : ∀ a : Nat, a < s.heap.size → ¬ (fun q => s.heap.size ≤ q) a := fun a h => Nat.not_le.mpr h
  refine ⟨fun w hw => ?_, ?_⟩
  · obtain ⟨a, i, y, h, rfl⟩ := ai_NW_on w hw
    exact va_Nw.of rfl (hts _ (List.mem_filter.mp hw).1)
  · obtain ⟨adK, adV, h1, h2⟩ := vk_Sof (args := #[Value.ref b]) (s := s) (N := 7) (tm := st_t) (len := ai_JL) (byt := ai_JB) (A := fun q => s.heap.size ≤ q) st_7 (fun i hi => hs _ (st_1 i hi)) (fun i hi => hs _ (st_2 i hi)) (fun i hi => hs _ (st_3 i hi)) (fun i hi => hs _ (st_4 i hi)) (fun i hi j hj => hs _ (st_5 i hi j hj)) (fun i j hi hj hij => (st_6 i hi j hj hij).imp (fun h => hs _ h) (fun h => hs _ h)) hA
    refine ⟨adK, adV, h1, fun i x hx => ?_, va_Zof (hts _ st_9) (hts _ st_11) (va_eqt (hs _ st_13)) hA, va_Zqof (hts _ st_10) (hts _ st_12) (hs _ st_14) hA⟩
    have key : ∀ i : Nat, i < 7 → vk_R RX2 (st_k i) (ai_JX.getD i (0, "")).2 (adK i) s := fun i hi => vk_R.of (hts _ (st_8 i hi)) (h2 i hi)
    match i, hx with
    | 0, hx => cases hx; exact key 0 (by decide)
    | 1, hx => cases hx; exact key 1 (by decide)
    | 2, hx => cases hx; exact key 2 (by decide)
    | 3, hx => cases hx; exact key 3 (by decide)
    | 4, hx => cases hx; exact key 4 (by decide)
    | 5, hx => cases hx; exact key 5 (by decide)
    | 6, hx => cases hx; exact key 6 (by decide)
    | i + 7, hx => cases hx
end
section
/-! what the two sides have alike -/
/-- an evening of the class at cell cc and a page of the reference at pg: tests, strength, laughs, plan -/
def pgI (ws : va_W) (cc pg n : Nat) (E : Nat → Int) (a : Nat) (P : Nat → Int) : Prop := (cev ws cc n E ∧ pev ws pg n E ∧ good n E) ∧ (vi ws cc 3 a ∧ vi ws 50 (26 + pg) a ∧ a ≤ 8) ∧ ∀ j, j < a → vi ws (cc + 5) j (P j) ∧ vi ws 50 (18 + j + pg) (P j) ∧ (P j = 4 ∨ (0 ≤ P j ∧ P j < n))
/-- tape and fault, how many tests and sightings, images kept, torn -/
def baI (ws : va_W) (t : Nat) (g : Nat → Int) (u q y : Int) (n : Nat) (k0 k1 : Int) : Prop := ((vi ws 26 1 t ∧ vi ws 49 7 t) ∧ t ≤ 160 ∧ sp_tape g t ws) ∧ (vi ws 0 9 u ∧ vi ws 49 8 u) ∧ (vi ws 34 0 q ∧ vi ws 49 19 q) ∧ (vi ws 0 10 y ∧ vi ws 49 24 y) ∧ (vi ws 1 0 n ∧ vi ws 49 1 n ∧ n ≤ 4) ∧ (vi ws 25 0 k0 ∧ vi ws 56 0 k0) ∧ (vi ws 25 1 k1 ∧ vi ws 56 1 k1)
def imI (ws : va_W) (k n : Nat) : Prop := ∃ (E : Nat → Int) (a : Nat) (P : Nat → Int), vi ws (13 + 6 * k) 0 n ∧ pgI ws (13 + 6 * k) (27 + 27 * k) n E a P
/-- the sightings: a test, strength, pulled before, yielded -/
def seB (S : Nat → Int) : Prop := (0 ≤ S 0 ∧ S 0 ≤ 3) ∧ (1 ≤ S 1 ∧ S 1 ≤ 20) ∧ (0 ≤ S 2 ∧ S 2 ≤ 20) ∧ 0 ≤ S 3 ∧ S 3 ≤ 20
def seI (ws : va_W) : Prop := ∃ (q : Nat) (S : Nat → Nat → Int), vi ws 34 0 q ∧ q ≤ 6 ∧ ∀ j, j < q → seB (S j) ∧ ∀ r, r < 4 → vi ws (35 + r) j (S j r) ∧ vi ws 55 (4 * j + r) (S j r)
def seW (W : List (Nat × Nat × Nat)) : Bool := !(ai_wr W 34 0 0) && (((List.range 4).all fun r => nowr W (35 + r)) && nowr W 55)
def shB (W : List (Nat × Nat × Nat)) : Bool := (nowr W 57 && (nowr W 58 && nowr W 59)) && seW W
theorem seI.fr {W : List (Nat × Nat × Nat)} {ws ws' : va_W} (h : seI ws) (hf : ai_fr W ws ws') (h1 : seW W = true) : seI ws' := by
  obtain ⟨q, S, a1, a2, a3⟩ := h
  unfold seW at h1
  rw [Bool.and_eq_true, Bool.and_eq_true, Bool.not_eq_true'] at h1
  obtain ⟨b1, b2, b3⟩ := h1
  refine ⟨q, S, a1.fr hf b1, a2, fun j hj => ⟨(a3 j hj).1, fun r hr => ?_⟩⟩
  obtain ⟨c1, c2⟩ := (a3 j hj).2 r hr
  exact ⟨c1.fr hf (nowr_ok (List.all_eq_true.mp b2 r (List.mem_range.mpr hr)) j j), c2.fr hf (nowr_ok b3 _ _)⟩
theorem seI.zero {ws : va_W} (h : vi ws 34 0 0) : seI ws := ⟨0, fun _ _ => 0, h, by decide, fun j hj => absurd hj (Nat.not_lt_zero j)⟩
/-- sheets, sightings -/
def sh0 (ws : va_W) : Prop := ∃ (Lk : Nat → Int) (Nk : Nat → Nat) (Xk : Nat → Nat → Int), csh ws Lk Nk Xk ∧ msh ws Lk Nk Xk
def shI (ws : va_W) : Prop := sh0 ws ∧ seI ws
def Inv (ws : va_W) : Prop := ∃ (t : Nat) (g : Nat → Int) (u q y : Int) (n : Nat) (k0 k1 : Int) (E : Nat → Int) (a : Nat) (P : Nat → Int), baI ws t g u q y n k0 k1 ∧ pgI ws 1 0 n E a P ∧ (k0 = 1 → imI ws 0 n) ∧ (k1 = 1 → imI ws 1 n) ∧ shI ws
/-- none of these places is written -/
def nwr (W : List (Nat × Nat × Nat)) (L : List (Nat × Nat)) : Bool := L.all fun q => !(ai_wr W q.1 q.2 q.2)
theorem nwr_at {W : List (Nat × Nat × Nat)} {L : List (Nat × Nat)} (h : nwr W L = true) {c i : Nat} (hm : (c, i) ∈ L) : ai_wr W c i i = false := by
  have := List.all_eq_true.mp h (c, i) hm
  rw [Bool.not_eq_true'] at this
  exact this
/-- all places of page pg -/
def pgw (W : List (Nat × Nat × Nat)) (pg : Nat) : Bool := (List.range 27).all fun j => !(ai_wr W 50 (j + pg) (j + pg))
theorem pgw_at {W : List (Nat × Nat × Nat)} {pg : Nat} (h : pgw W pg = true) {j : Nat} (hj : j < 27) : ai_wr W 50 (j + pg) (j + pg) = false := by
  have := List.all_eq_true.mp h j (List.mem_range.mpr hj)
  rw [Bool.not_eq_true'] at this
  exact this
theorem pgI.fr {W : List (Nat × Nat × Nat)} {ws ws' : va_W} {cc pg n a : Nat} {E P : Nat → Int} (hn : n ≤ 4) (h : pgI ws cc pg n E a P) (hf : ai_fr W ws ws') (h1 : (evw W cc && nowr W (cc + 5)) = true) (h2 : pgw W pg = true) : pgI ws' cc pg n E a P := by
  obtain ⟨⟨a1, a2, a3⟩, ⟨b1, b2, b3⟩, c1⟩ := h
  rw [Bool.and_eq_true] at h1
  have h0 : nowr W cc = true := by
    have := h1.1
    unfold evw at this
    rw [Bool.and_eq_true] at this
    exact this.1
  refine ⟨⟨a1.fr hf h1.1, a2.fr hn hf (fun j hj => pgw_at h2 (by omega)), a3⟩, ⟨b1.fr hf (nowr_ok h0 3 3), b2.fr hf (pgw_at h2 (by omega)), b3⟩, fun j hj => ?_⟩
  obtain ⟨c2, c3, c4⟩ := c1 j hj
  exact ⟨c2.fr hf (nowr_ok h1.2 j j), c3.fr hf (pgw_at h2 (by omega)), c4⟩
theorem imI.fr {W : List (Nat × Nat × Nat)} {ws ws' : va_W} {k n : Nat} (hn : n ≤ 4) (h : imI ws k n) (hf : ai_fr W ws ws') (h1 : (evw W (13 + 6 * k) && nowr W (13 + 6 * k + 5)) = true) (h2 : pgw W (27 + 27 * k) = true) : imI ws' k n := by
  obtain ⟨E, a, P, v, hp⟩ := h
  have h0 : nowr W (13 + 6 * k) = true := by
    rw [Bool.and_eq_true] at h1
    have := h1.1
    unfold evw at this
    rw [Bool.and_eq_true] at this
    exact this.1
  exact ⟨E, a, P, v.fr hf (nowr_ok h0 0 0), hp.fr hn hf h1 h2⟩
theorem sh0.fr {W : List (Nat × Nat × Nat)} {ws ws' : va_W} (h : sh0 ws) (hf : ai_fr W ws ws') (h1 : (nowr W 42 && (nowr W 43 && (nowr W 45 && (nowr W 46 && (nowr W 47 && nowr W 48))))) = true) (h2 : (nowr W 57 && (nowr W 58 && nowr W 59)) = true) : sh0 ws' := by
  obtain ⟨Lk, Nk, Xk, a, b⟩ := h
  exact ⟨Lk, Nk, Xk, a.fr hf h1, b.fr hf h2⟩
theorem shI.fr {W : List (Nat × Nat × Nat)} {ws ws' : va_W} (h : shI ws) (hf : ai_fr W ws ws') (h1 : (nowr W 42 && (nowr W 43 && (nowr W 45 && (nowr W 46 && (nowr W 47 && nowr W 48))))) = true) (h2 : shB W = true) : shI ws' := by
  unfold shB at h2
  rw [Bool.and_eq_true] at h2
  exact ⟨h.1.fr hf h1 h2.1, h.2.fr hf h2.2⟩
def baL : List (Nat × Nat) := [(26, 1), (49, 7), (0, 9), (49, 8), (34, 0), (49, 19), (0, 10), (49, 24), (1, 0), (49, 1), (25, 0), (56, 0), (25, 1), (56, 1)]
theorem baI.fr {W : List (Nat × Nat × Nat)} {ad : List Nat} {tys : ai_ty} {ws ws' : va_W} {t : Nat} {g : Nat → Int} {u q y : Int} {n : Nat} {k0 k1 : Int} (h : baI ws t g u q y n k0 k1) (hw' : ai_wd tb_TY ad tys ws') (hf : ai_fr W ws ws') (h1 : nwr W baL = true) (h2 : (nowr W 27 && nowr W 52) = true) : baI ws' t g u q y n k0 k1 := by
  obtain ⟨⟨⟨a1, a2⟩, a3, a4⟩, ⟨b1, b2⟩, ⟨c1, c2⟩, ⟨d1, d2⟩, ⟨e1, e2, e3⟩, ⟨f1, f2⟩, g1, g2⟩ := h
  rw [Bool.and_eq_true] at h2
  have w : ∀ {c i : Nat}, (c, i) ∈ baL → ai_wr W c i i = false := fun hm => nwr_at h1 hm
  exact ⟨⟨⟨a1.fr hf (w (by decide)), a2.fr hf (w (by decide))⟩, a3, a4.fr a3 hw' hf h2.1 h2.2⟩, ⟨b1.fr hf (w (by decide)), b2.fr hf (w (by decide))⟩, ⟨c1.fr hf (w (by decide)), c2.fr hf (w (by decide))⟩, ⟨d1.fr hf (w (by decide)), d2.fr hf (w (by decide))⟩, ⟨e1.fr hf (w (by decide)), e2.fr hf (w (by decide)), e3⟩, ⟨f1.fr hf (w (by decide)), f2.fr hf (w (by decide))⟩, g1.fr hf (w (by decide)), g2.fr hf (w (by decide))⟩
/-- what a list of places must leave out for all but the base to stay -/
def wrR (W : List (Nat × Nat × Nat)) : Bool := ((evw W 1 && nowr W 6) && pgw W 0) && (((evw W 13 && nowr W 18) && pgw W 27) && (((evw W 19 && nowr W 24) && pgw W 54) && ((nowr W 42 && (nowr W 43 && (nowr W 45 && (nowr W 46 && (nowr W 47 && nowr W 48))))) && shB W)))
theorem Inv.fr0 {ad : List Nat} {tys : ai_ty} {ws ws' : va_W} (h : Inv ws) (hw' : ai_wd tb_TY ad tys ws') (hf : ai_fr [] ws ws') : Inv ws' := by
  obtain ⟨t, g, u, q, y, n, k0, k1, E, a, P, hb, hp, hi0, hi1, hs⟩ := h
  have hn := hb.2.2.2.2.1.2.2
  exact ⟨t, g, u, q, y, n, k0, k1, E, a, P, hb.fr hw' hf rfl rfl, hp.fr hn hf rfl rfl, fun h => (hi0 h).fr hn hf rfl rfl, fun h => (hi1 h).fr hn hf rfl rfl, hs.fr hf rfl rfl⟩
end
section
/-! a case of the law that calls a method of the class, then one of the reference, each by its contract -/
def lw_lo : List (Nat × ai_v) := [(0, (4, 0, 0, 0)), (1, (0, 0, 0, 0)), (2, (0, 49, 0, 0)), (3, (1, 1, 0, 0))]
def lw_en : List ai_e := [(0, 0, false, 0, 0), (0, 2555, false, 1, 0), (0, 0, false, 2, 0), (-2147483648, 2147483647, false, 3, 0), (-2147483648, 2147483647, false, 4, 0), (-2147483648, 2147483647, false, 5, 0), (-2147483648, 2147483647, false, 6, 0), (-2147483648, 2147483647, false, 7, 0)]
def lw_e9 : List ai_e := [(0, 0, false, 0, 0), (0, 2555, false, 1, 0), (0, 0, false, 2, 0), (-2147483648, 2147483647, false, 3, 0), (-2147483648, 2147483647, false, 4, 0), (-2147483648, 2147483647, false, 5, 0), (-2147483648, 2147483647, false, 6, 0), (-2147483648, 2147483647, false, 7, 0), (-2147483648, 2147483647, false, 8, 0)]
def lw_ar (n : Nat) : List ai_v := (List.range n).reverse.map fun o => (1, 4 + o, 0, 0)
def lw_As (sx : Nat → Int32) (i n : Nat) : List Value := (List.range n).map fun o => .int (sx (i + (1 + o)))
/-- the same, but for the order of locals -/
def lw_is (x : ai_s) (pc : Nat) (sk : List ai_v) (en : List ai_e) : Bool := Nat.beq x.1 pc && ((lw_lo.all fun q => decide (ai_get x.2.1 q.1 = some q.2)) && (mm_el mm_ev x.2.2.1 sk && mm_el mm_ee x.2.2.2.1 en))
noncomputable def lw_A (pc i1 n : Nat) : Bool := (ai_ex (hk []) 80 169 tb_m169 11 [i1] (pc, lw_lo, [], lw_en, [], [])).any fun xs => xs.all fun x => lw_is x i1 (lw_ar n ++ [(0, 0, 0, 0)]) lw_en
noncomputable def lw_B (i1 i2 n : Nat) (cmp : Bool) : Bool := (ai_ex (hk []) 80 169 tb_m169 11 [i2] (i1 + 3, lw_lo, [(1, 8, 0, 0)], lw_e9, [], [])).any fun xs => xs.all fun x => lw_is x i2 (lw_ar n ++ (0, 49, 0, 0) :: if cmp = true then [(1, 8, 0, 0)] else []) lw_e9
noncomputable def lw_C (i2 : Nat) (cmp : Bool) : Bool := (ai_ex (hk []) 80 169 tb_m169 11 [1298] (i2 + 3, lw_lo, (1, 8, 0, 0) :: (if cmp = true then [(1, 8, 0, 0)] else []), lw_e9, [], [])).any fun xs => xs.all fun x => lw_is x 1298 [] lw_e9
section LW2
variable {ad : List Nat} {p : Program} {l : Launch} {e : Env} {R : Room} {s : State} {m : MethodId} {args : Array Value} {below : List Frame} {meth : Method} {c : Code} {D : va_G} {tys : ai_ty} {A : Nat → Prop} {b L : Nat} {sx : Nat → Int32} {cells slots : Nat} {Q : State → Prop}
def lw_r (sx : Nat → Int32) (i : Nat) : List Int := [0, (i : Int), 0, (sx i).toInt, (sx (i + 1)).toInt, (sx (i + 2)).toInt, (sx (i + 3)).toInt, (sx (i + 4)).toInt]
theorem lw_rAt {i o : Nat} (ho : o < 4) {rr : List Int} : (lw_r sx i ++ rr)[4 + o]? = some (sx (i + (1 + o))).toInt := match o, ho with
  | 0, _ => rfl
  | 1, _ => rfl
  | 2, _ => rfl
  | 3, _ => rfl
  | o + 4, h => absurd h (by omega)
theorem lw_sx {i : Nat} {rr : List Int} (hi : i + 5 ≤ L) : ai_sx L sx (lw_r sx i ++ rr) := fun z hz => by
  cases hz
  refine ⟨⟨by show (0 : Int) ≤ i; omega, by show (i : Int) + 4 < L; omega⟩, fun o ho => ?_⟩
  match o, ho with
  | 0, _ => rfl
  | 1, _ => rfl
  | 2, _ => rfl
  | 3, _ => rfl
  | 4, _ => rfl
  | o + 5, ho => omega
theorem lw_loK {i q0 q49 : Nat} {rr : List Int} (hi : i < 2147483648) (e0 : ad[0]? = some q0) (e49 : ad[49]? = some q49) : ai_lo ad b (lw_r sx i ++ rr) lw_lo [(0, .ref b), (1, .ref q0), (2, .ref q49), (3, .int (nI i))] := by
  have hiI : (nI i).toInt = (i : Int) := nI_toInt (by omega)
  exact ⟨rfl, Or.inr (Or.inr (Or.inr (Or.inr ⟨rfl, rfl⟩))), rfl, Or.inl ⟨rfl, q0, e0, rfl⟩, rfl, Or.inl ⟨rfl, q49, e49, rfl⟩, rfl, Or.inr (Or.inl ⟨rfl, _, _, rfl, rfl, by rw [hiI]; show (i : Int) = (i : Int) + 0; omega⟩), trivial⟩
theorem lw_args_ok {i : Nat} {r : List Int} {t : List ai_v} (hr : ∀ o, o < 4 → r[4 + o]? = some (sx (i + (1 + o))).toInt) : ∀ {N : List Nat} {sk : List Value}, (∀ o ∈ N, o < 4) → ai_sk ad b r (N.map (fun o => ((1, 4 + o, 0, 0) : ai_v)) ++ t) sk → ∃ sk2, sk = N.map (fun o => Value.int (sx (i + (1 + o)))) ++ sk2 ∧ ai_sk ad b r t sk2
  | [], sk, _, h => ⟨sk, rfl, h⟩
  | o :: N, sk, ho, h => by
    obtain ⟨x, ys, rfl, h1, h2⟩ := ai_sk.cons h
    obtain ⟨sk2, rfl, h3⟩ := lw_args_ok hr (N := N) (fun o' h' => ho o' (List.mem_cons_of_mem _ h')) h2
    obtain ⟨z, rfl, hz⟩ := dvn h1 (hr o (ho o List.mem_cons_self))
    refine ⟨sk2, ?_, h3⟩
    have : z = sx (i + (1 + o)) := Int32.toInt_inj.mp (by omega)
    subst this
    rfl
/-- a stretch of the law that writes nothing -/
theorem lw_seg {i q0 q49 n : Nat} {pc pc' : Nat} {sk sk2 : List ai_v} {en : List ai_e} {rr : List Int} {sv : List Value} {ws : va_W} (C : ai_cx tb_m169 11 p R s m args c D tys A b L sx cells slots) (e0 : ad[0]? = some q0) (e49 : ad[49]? = some q49) (hi : i + 5 ≤ L) (hL : L ≤ 2560) (hw : ai_wd tb_TY ad tys ws)
    (hrun : ((ai_ex (hk []) 80 169 tb_m169 11 [n] (pc, lw_lo, sk, en, [], [])).any fun xs => xs.all fun x => lw_is x pc' sk2 en) = true) (hok : ai_ok (lw_r sx i ++ rr) en) (hsk : ai_sk ad b (lw_r sx i ++ rr) sk sv)
    (k : ∀ (r' : List Int) (sv' : List Value) (ws' : va_W), ai_x (lw_r sx i ++ rr) r' → ai_sk ad b r' sk2 sv' → ai_wd tb_TY ad tys ws' → ai_fr [] ws ws' → hG tb_m169 p l e R s m args below meth c D A cells slots Q pc' [(0, .ref b), (1, .ref q0), (2, .ref q49), (3, .int (nI i))] sv' ws') : hG tb_m169 p l e R s m args below meth c D A cells slots Q pc [(0, .ref b), (1, .ref q0), (2, .ref q49), (3, .int (nI i))] sv ws := by
  obtain ⟨xs, y1, y2⟩ := ai_anyE hrun
  refine hseg (st := (pc, lw_lo, sk, en, [], [])) y1 rfl C ⟨hok, sb0, lw_loK (by omega) e0 e49, hsk, hw, k0, fun _ _ _ _ h => h, fun _ => lw_sx hi⟩ (fun x hx r' lv' sk' ws' hx' g' => ?_)
  obtain ⟨g1, g2, g3, g4, g5, g6, g7, g8⟩ := g'
  have hc := List.all_eq_true.mp y2 x hx
  unfold lw_is at hc
  rw [Bool.and_eq_true, Bool.and_eq_true, Bool.and_eq_true] at hc
  obtain ⟨c1, c2, c3, c4⟩ := hc
  rw [mm_el_ok mm_ev_ok c3] at g4
  rw [ai_beq.mp c1]
  obtain ⟨lv2, l1, l2⟩ := lo_pick g3 lw_lo c2
  have hlv : lv2 = [(0, .ref b), (1, .ref q0), (2, .ref q49), (3, .int (nI i))] := by
    cases lv2 with
    | nil => exact l1.elim
    | cons y0 ys =>
      obtain ⟨h1, h2, h3⟩ := l1
      obtain ⟨lv3, rfl, pz1⟩ := lo_ref e0 h3
      obtain ⟨lv4, rfl, pz2⟩ := lo_ref e49 pz1
      obtain ⟨z, lv5, rfl, d1, pz3⟩ := lo_int rfl pz2
      cases lo_nil pz3
      unfold vn at d1
      rw [nm_x hx' (k := 1) rfl] at d1
      have hiI : (nI i).toInt = (i : Int) := nI_toInt (by omega)
      have hz : z = nI i := Int32.toInt_inj.mp (by dsimp only at d1; omega)
      subst hz
      obtain ⟨y1, y2⟩ := y0
      cases h1
      rcases h2 with ⟨q, -⟩ | ⟨q, -⟩ | ⟨q, -⟩ | ⟨q, -⟩ | ⟨-, q⟩
      · exact absurd (show (4 : Nat) = _ from q) (by decide)
      · exact absurd (show (4 : Nat) = _ from q) (by decide)
      · exact absurd (show (4 : Nat) = _ from q) (by decide)
      · exact absurd (show (4 : Nat) = _ from q) (by decide)
      · rw [show y2 = Value.ref b from q]
  subst hlv
  intro H locs ls hP hD hS hl
  exact k r' sk' ws' hx' g4 g5 g7 H locs ls hP hD hS ⟨hl.1, hl.2.1, fun q hq => hl.2.2 q (l2 q hq)⟩
theorem law2 {pc i1 i2 n i q0 q49 : Nat} {cmp : Bool} {q1 q2 : ai_l5} {M1 M2 : ai_m} {rets1 rets2 : List Nat} {P1 : va_W → Int32 → Prop} {P2 : va_W → Int32 → va_W → Int32 → Prop} {ws : va_W} (C : ai_cx tb_m169 11 p R s m args c D tys A b L sx cells slots) (e0 : ad[0]? = some q0) (e49 : ad[49]? = some q49) (hi : i + 5 ≤ L) (hL : L ≤ 2560) (hw : ai_wd tb_TY ad tys ws) (hn : n ≤ 4)
    (hA : lw_A pc i1 n = true) (hB : lw_B i1 i2 n cmp = true) (hC : lw_C i2 cmp = true)
    (d1 : decode tb_m169.2.1 i1 = .ok (.invokevirtual q1.1, 3)) (l1 : ai_lok tb_MT tb_m169.1.cls q1) (q10 : q1.2.1 = 0) (q1n : q1.2.2.2.1 = n) (m1 : tb_MT[q1.2.2.1]? = some M1) (s1 : M1.2.2.2.2.1 = false) (ml1 : M1.2.2.1 ≤ 17) (mw1 : (lg_sl (.ref q0 :: lw_As sx i n)).length ≤ M1.2.2.1) (mr1 : M1.2.2.2.1 = some .int) (t1 : q1.2.2.2.2 = 5)
    (d2 : decode tb_m169.2.1 i2 = .ok (.invokevirtual q2.1, 3)) (l2 : ai_lok tb_MT tb_m169.1.cls q2) (q20 : q2.2.1 = 0) (q2n : q2.2.2.2.1 = n) (m2 : tb_MT[q2.2.2.1]? = some M2) (s2 : M2.2.2.2.2.1 = false) (ml2 : M2.2.2.1 ≤ 17) (mw2 : (lg_sl (.ref q49 :: lw_As sx i n)).length ≤ M2.2.2.1) (mr2 : M2.2.2.2.1 = some .int) (t2 : q2.2.2.2.2 = 6)
    (r1 : ∀ pcr ∈ rets1, decode M1.2.1 pcr = .ok (.ireturn, 1)) (r2 : ∀ pcr ∈ rets2, decode M2.2.1 pcr = .ok (.ireturn, 1))
    (c1 : ∀ {p : Program} {e : Env} {R : Room} {s : State} {m : MethodId} {args : Array Value} {below : List Frame} {meth : Method} {c : Code} {Q : State → Prop} (w : va_W), ai_wd tb_TY ad tys w → ai_fr [] ws w → ai_cx M1 10 p R s m args c D tys A b L sx 0 0 → (∀ (pcr : Nat) (ws' : va_W) (z : Int32) (lv' : List (Nat × Value)), pcr ∈ rets1 → P1 ws' z → hG M1 p l e R s m args below meth c D A 0 0 Q pcr lv' [.int z] ws') → hG M1 p l e R s m args below meth c D A 0 0 Q 0 (lv_args 0 (.ref q0 :: lw_As sx i n)) [] w)
    (w1 : ∀ wa z1, P1 wa z1 → ai_wd tb_TY ad tys wa)
    (c2 : ∀ {p : Program} {e : Env} {R : Room} {s : State} {m : MethodId} {args : Array Value} {below : List Frame} {meth : Method} {c : Code} {Q : State → Prop} (wa : va_W) (z1 : Int32) (w : va_W), P1 wa z1 → ai_wd tb_TY ad tys w → ai_fr [] wa w → ai_cx M2 10 p R s m args c D tys A b L sx 0 0 → (∀ (pcr : Nat) (ws' : va_W) (z : Int32) (lv' : List (Nat × Value)), pcr ∈ rets2 → P2 wa z1 ws' z → hG M2 p l e R s m args below meth c D A 0 0 Q pcr lv' [.int z] ws') → hG M2 p l e R s m args below meth c D A 0 0 Q 0 (lv_args 0 (.ref q49 :: lw_As sx i n)) [] w)
    (w2 : ∀ wa z1 wb z2, P1 wa z1 → P2 wa z1 wb z2 → ai_wd tb_TY ad tys wb ∧ (cmp = true → z1 = z2))
    (k : ∀ wa z1 wb z2 wc, P1 wa z1 → P2 wa z1 wb z2 → ai_wd tb_TY ad tys wc → ai_fr [] wb wc → hG tb_m169 p l e R s m args below meth c D A cells slots Q 1298 [(0, .ref b), (1, .ref q0), (2, .ref q49), (3, .int (nI i))] [] wc) :
    hG tb_m169 p l e R s m args below meth c D A cells slots Q pc [(0, .ref b), (1, .ref q0), (2, .ref q49), (3, .int (nI i))] [] ws := by
  have bx : ∀ o, -2147483648 ≤ (sx o).toInt ∧ (sx o).toInt ≤ 2147483647 := fun o => ai_irg (sx o)
  have b0 := bx i
  have b1 := bx (i + 1)
  have b2 := bx (i + 2)
  have b3 := bx (i + 3)
  have b4 := bx (i + 4)
  have ok8 : ai_ok (lw_r sx i ++ []) lw_en := en_mk (by simp only [lw_r, lw_en, List.append_nil, en_b, and_true]; omega) rfl
  have ok9 : ∀ z : Int32, ai_ok (lw_r sx i ++ [z.toInt]) lw_e9 := fun z => by
    have bz := ai_irg z
    exact en_mk (by simp only [lw_r, lw_e9, List.cons_append, List.nil_append, en_b, and_true]; omega) rfl
  have rev : ((List.range n).map fun o => Value.int (sx (i + (1 + o)))).reverse = (List.range n).reverse.map fun o => Value.int (sx (i + (1 + o))) := by rw [List.map_reverse]
  have mem : ∀ o ∈ (List.range n).reverse, o < 4 := fun o ho => by
    have := List.mem_range.mp (List.mem_reverse.mp ho)
    omega
  refine lw_seg (rr := []) C e0 e49 hi hL hw hA ok8 trivial (fun r' sv' wA hx' hsk hwA hfA => ?_)
  obtain ⟨sk2, rfl, h2⟩ := lw_args_ok (fun o ho => hx'.at (lw_rAt ho)) mem hsk
  obtain ⟨xr, ys, rfl, dr, h3⟩ := ai_sk.cons h2
  cases ai_sk.nil h3
  have er := ref_of e0 dr
  subst er
  rw [← rev]
  refine hcallI (q := q1) (M' := M1) (cl := 0) (a := q0) (As := lw_As sx i n) (rest := []) (rets := rets1) (P := P1) C (by decide) d1 l1 q10 (by rw [q1n]; unfold lw_As; rw [List.length_map, List.length_range]) m1 s1 ml1 mw1 mr1 rfl rfl (by rw [t1]) hwA e0 (by decide) r1 (fun C2 kk => c1 wA hwA hfA C2 kk) (fun wa z1 hP1 => ?_)
  refine lw_seg (rr := [z1.toInt]) C e0 e49 hi hL (w1 wa z1 hP1) hB (ok9 z1) ⟨int_dv (z := z1.toInt) rfl (by omega), trivial⟩ (fun r' sv' wB hx' hsk hwB hfB => ?_)
  obtain ⟨sk2, rfl, h2⟩ := lw_args_ok (fun o ho => hx'.at (lw_rAt ho)) mem hsk
  obtain ⟨xr, ys, rfl, dr, h3⟩ := ai_sk.cons h2
  have er := ref_of e49 dr
  subst er
  obtain ⟨rest, hrest, hys⟩ : ∃ rest : List Value, ys = rest ∧ ((cmp = true ∧ rest = [.int z1]) ∨ (cmp = false ∧ rest = [])) := by
    refine ⟨ys, rfl, ?_⟩
    cases cmp with
    | true =>
      rw [if_pos rfl] at h3
      obtain ⟨x8, ys8, rfl, d8, h4⟩ := ai_sk.cons h3
      cases ai_sk.nil h4
      obtain ⟨z8, rfl, hz8⟩ := dvn d8 (hx'.at (k := 8) rfl)
      rw [Int32.toInt_inj.mp (show z8.toInt = z1.toInt by omega)]
      exact Or.inl ⟨rfl, rfl⟩
    | false =>
      rw [if_neg (by decide)] at h3
      exact Or.inr ⟨rfl, ai_sk.nil h3⟩
  subst hrest
  rw [← rev]
  refine hcallI (q := q2) (M' := M2) (cl := 49) (a := q49) (As := lw_As sx i n) (rest := ys) (rets := rets2) (P := P2 wa z1) C (by decide) d2 l2 q20 (by rw [q2n]; unfold lw_As; rw [List.length_map, List.length_range]) m2 s2 ml2 mw2 mr2 rfl rfl (by rw [t2]) hwB e49 (by rcases hys with ⟨-, rfl⟩ | ⟨-, rfl⟩ <;> exact Nat.le_of_ble_eq_true rfl) r2 (fun C2 kk => c2 wa z1 wB hP1 hwB hfB C2 kk) (fun wb z2 hP2 => ?_)
  obtain ⟨hwb, hcmp⟩ := w2 wa z1 wb z2 hP1 hP2
  refine lw_seg (rr := [z2.toInt]) (sk := (1, 8, 0, 0) :: (if cmp = true then [(1, 8, 0, 0)] else [])) C e0 e49 hi hL hwb hC (ok9 z2) ⟨int_dv (z := z2.toInt) rfl (by omega), ?_⟩ (fun r' sv' wC hx' hsk hwC hfC => ?_)
  · rcases hys with ⟨rfl, rfl⟩ | ⟨rfl, rfl⟩
    · rw [if_pos rfl, hcmp rfl]
      exact ⟨int_dv (z := z2.toInt) rfl (by omega), trivial⟩
    · rw [if_neg (by decide)]
      trivial
  · cases ai_sk.nil hsk
    exact k wa z1 wb z2 wC hP1 hP2 hwC hfC
end LW2
theorem lr_feedA : lw_A 196 202 1 = true := by decide +kernel
theorem lr_feedB : lw_B 202 212 1 false = true := by decide +kernel
theorem lr_feedC : lw_C 212 false = true := by decide +kernel
theorem lr_textA : lw_A 242 243 0 = true := by decide +kernel
theorem lr_textB : lw_B 243 248 0 false = true := by decide +kernel
theorem lr_textC : lw_C 248 false = true := by decide +kernel
theorem lr_pullA : lw_A 482 488 1 = true := by decide +kernel
theorem lr_pullB : lw_B 488 498 1 false = true := by decide +kernel
theorem lr_pullC : lw_C 498 false = true := by decide +kernel
theorem lr_restA : lw_A 505 511 1 = true := by decide +kernel
theorem lr_restB : lw_B 511 521 1 false = true := by decide +kernel
theorem lr_restC : lw_C 521 false = true := by decide +kernel
theorem lr_readA : lw_A 1209 1230 4 = true := by decide +kernel
theorem lr_readB : lw_B 1230 1255 4 false = true := by decide +kernel
theorem lr_readC : lw_C 1255 false = true := by decide +kernel
theorem lr_sheetA : lw_A 1123 1139 3 = true := by decide +kernel
theorem lr_sheetB : lw_B 1139 1159 3 false = true := by decide +kernel
theorem lr_sheetC : lw_C 1159 false = true := by decide +kernel
theorem lr_layA : lw_A 1166 1182 3 = true := by decide +kernel
theorem lr_layB : lw_B 1182 1202 3 false = true := by decide +kernel
theorem lr_layC : lw_C 1202 false = true := by decide +kernel
theorem lr_keepA : lw_A 1077 1083 1 = true := by decide +kernel
theorem lr_keepB : lw_B 1083 1093 1 false = true := by decide +kernel
theorem lr_keepC : lw_C 1093 false = true := by decide +kernel
theorem lr_backA : lw_A 1100 1106 1 = true := by decide +kernel
theorem lr_backB : lw_B 1106 1116 1 false = true := by decide +kernel
theorem lr_backC : lw_C 1116 false = true := by decide +kernel
end
section
/-! cases of the law by contract: pull, rest, read -/
def wrP (W : List (Nat × Nat × Nat)) : Bool := (nwr W baL && (nowr W 27 && nowr W 52)) && ((!(ai_wr W 1 3 3) && (nowr W 6 && (List.range 9).all fun j => !(ai_wr W 50 (18 + j) (18 + j)))) && ((((evw W 13 && nowr W 18) && pgw W 27) && ((evw W 19 && nowr W 24) && pgw W 54)) && ((nowr W 42 && (nowr W 43 && (nowr W 45 && (nowr W 46 && (nowr W 47 && nowr W 48))))) && shB W)))
theorem band {x y : Bool} (h : (x && y) = true) : x = true ∧ y = true := by
  rw [Bool.and_eq_true] at h
  exact h
/-- the page becomes another; all else stays -/
theorem Inv.page {W : List (Nat × Nat × Nat)} {ad : List Nat} {tys : ai_ty} {ws ws' : va_W} {t : Nat} {g : Nat → Int} {u q y : Int} {n : Nat} {k0 k1 : Int} {E E' : Nat → Int} {a : Nat} {P : Nat → Int} (hb : baI ws t g u q y n k0 k1) (hp : pgI ws 1 0 n E a P) (hi0 : k0 = 1 → imI ws 0 n) (hi1 : k1 = 1 → imI ws 1 n) (hs : shI ws) (hw' : ai_wd tb_TY ad tys ws') (hf : ai_fr W ws ws') (hW : wrP W = true) (hc : cev ws' 1 n E') (he : pev ws' 0 n E') (hg : good n E') : Inv ws' := by
  unfold wrP at hW
  obtain ⟨wA, wB⟩ := band hW
  obtain ⟨w1, w2⟩ := band wA
  obtain ⟨wC, wD⟩ := band wB
  obtain ⟨w3, wE⟩ := band wC
  obtain ⟨w4, w5⟩ := band wE
  obtain ⟨wF, wG⟩ := band wD
  obtain ⟨wH, wI⟩ := band wF
  obtain ⟨w6, w7⟩ := band wH
  obtain ⟨w8, w9⟩ := band wI
  obtain ⟨w10, w11⟩ := band wG
  have hn := hb.2.2.2.2.1.2.2
  rw [Bool.not_eq_true'] at w3
  have w5' : ∀ j, j < 9 → ai_wr W 50 (18 + j) (18 + j) = false := fun j hj => by
    have := List.all_eq_true.mp w5 j (List.mem_range.mpr hj)
    rw [Bool.not_eq_true'] at this
    exact this
  obtain ⟨-, ⟨b1, b2, b3⟩, c1⟩ := hp
  refine ⟨t, g, u, q, y, n, k0, k1, E', a, P, hb.fr hw' hf w1 w2, ⟨⟨hc, he, hg⟩, ⟨b1.fr hf w3, b2.fr hf (w5' 8 (by decide)), b3⟩, fun j hj => ?_⟩, fun h => (hi0 h).fr hn hf w6 w7, fun h => (hi1 h).fr hn hf w8 w9, hs.fr hf w10 w11⟩
  obtain ⟨c2, c3, c4⟩ := c1 j hj
  exact ⟨c2.fr hf (nowr_ok w4 j j), c3.fr hf (w5' j (by omega)), c4⟩
theorem pev_up {W : List (Nat × Nat × Nat)} {ws ws' : va_W} {n : Nat} {E : Nat → Int} {z : Int} (hn : n ≤ 4) (h : pev ws 0 n E) (hf : ai_fr W ws ws') (hw : ∀ j, j < 18 → j ≠ 16 → ai_wr W 50 j j = false) (v : vi ws' 50 16 (z - 10)) : pev ws' 0 n (ev_up E 16 z) := by
  refine ⟨fun i hi => ?_, by rw [ev_up_at]; exact v, by rw [ev_up_ne (by decide)]; exact h.2.2.fr hf (hw 17 (by decide) (by decide))⟩
  obtain ⟨a1, a2, a3, a4⟩ := h.1 i hi
  rw [ev_up_ne (j := i) (by omega), ev_up_ne (j := 4 + i) (by omega), ev_up_ne (j := 8 + i) (by omega), ev_up_ne (j := 12 + i) (by omega)]
  exact ⟨a1.fr hf (hw i (by omega) (by omega)), a2.fr hf (hw (4 + i) (by omega) (by omega)), a3.fr hf (hw (8 + i) (by omega) (by omega)), a4.fr hf (hw (12 + i) (by omega) (by omega))⟩
theorem good_up {n : Nat} {E : Nat → Int} {z : Int} (h : good n E) (hn : n ≤ 4) (hz : 0 ≤ z ∧ z ≤ 20) : good n (ev_up E 16 z) := by
  obtain ⟨h1, h2, h3⟩ := h
  refine ⟨fun i hi => ?_, by rw [ev_up_at]; exact hz, by rw [ev_up_ne (by decide)]; exact h3⟩
  rw [ev_up_ne (j := i) (by omega), ev_up_ne (j := 4 + i) (by omega), ev_up_ne (j := 8 + i) (by omega), ev_up_ne (j := 12 + i) (by omega)]
  exact h1 i hi
def cpW : List (Nat × Nat × Nat) := [(1, 1, 3), (4, 0, 4), (5, 0, 4)]
theorem cp_sub {t : Nat} (ht : t < 4) {u v : va_W} (hf : ai_fr (cp_W t) u v) : ai_fr cpW u v := fr_sub (fun c i h q hq => by
  have h1 := h (1, 1, 3) (by unfold cpW; simp)
  have h2 := h (4, 0, 4) (by unfold cpW; simp)
  have h3 := h (5, 0, 4) (by unfold cpW; simp)
  dsimp only at h1 h2 h3
  unfold cp_W at hq
  simp only [List.mem_cons, List.not_mem_nil, or_false] at hq
  rcases hq with rfl | rfl | rfl <;> dsimp only <;> omega) hf
section LWC
variable {ad : List Nat} {p : Program} {l : Launch} {e : Env} {R : Room} {s : State} {m : MethodId} {args : Array Value} {below : List Frame} {meth : Method} {c : Code} {D : va_G} {tys : ai_ty} {A : Nat → Prop} {b L : Nat} {sx : Nat → Int32} {cells slots : Nat} {Q : State → Prop}
theorem lw_pull {i q0 q49 : Nat} {ws : va_W} (C : ai_cx tb_m169 11 p R s m args c D tys A b L sx cells slots) (e0 : ad[0]? = some q0) (e49 : ad[49]? = some q49) (hi : i + 5 ≤ L) (hL : L ≤ 2560) (hw : ai_wd tb_TY ad tys ws) (hI : Inv ws)
    (k : ∀ wc, ai_wd tb_TY ad tys wc → Inv wc → hG tb_m169 p l e R s m args below meth c D A cells slots Q 1298 [(0, .ref b), (1, .ref q0), (2, .ref q49), (3, .int (nI i))] [] wc) : hG tb_m169 p l e R s m args below meth c D A cells slots Q 482 [(0, .ref b), (1, .ref q0), (2, .ref q49), (3, .int (nI i))] [] ws := by
  obtain ⟨t, g, u, q, y, n, j0, j1, E, a, P, hb, hp, hi0, hi1, hs⟩ := hI
  obtain ⟨hn1, hn2, hn4⟩ := hb.2.2.2.2.1
  obtain ⟨hc, he, hg⟩ := hp.1
  refine law2 (P1 := fun w z => cp_P ad tys n E (sx (i + 1)).toInt ws w z) (P2 := fun wa _ w z => mp_P ad tys n E (sx (i + 1)).toInt wa w z) (rets1 := [12, 37]) (rets2 := [5]) C e0 e49 hi hL hw (n := 1) (cmp := false) (by decide) lr_pullA lr_pullB lr_pullC (q1 := (65, 0, 60, 1, 5)) (tv_m169.1.1.1 (488, .invokevirtual 65, 3) (List.mem_of_getElem? (i := 242) rfl)) (tv_m169.2 _ (List.mem_of_getElem? (i := 24) rfl)) rfl rfl rfl rfl (by decide) (Nat.le_of_ble_eq_true rfl) rfl rfl (q2 := (68, 0, 132, 1, 6)) (tv_m169.1.1.1 (498, .invokevirtual 68, 3) (List.mem_of_getElem? (i := 250) rfl)) (tv_m169.2 _ (List.mem_of_getElem? (i := 25) rfl)) rfl rfl rfl rfl (by decide) (Nat.le_of_ble_eq_true rfl) rfl rfl ?_ ?_ ?_ (fun wa z1 h => h.1) ?_ ?_ ?_
  · intro pcr hpc
    rcases List.mem_cons.mp hpc with rfl | hpc
    · exact tv_m60.1.1.1 (12, .ireturn, 1) (List.mem_of_getElem? (i := 6) rfl)
    · rw [List.mem_singleton.mp hpc]
      exact tv_m60.1.1.1 (37, .ireturn, 1) (List.mem_of_getElem? (i := 18) rfl)
  · intro pcr hpc
    rw [List.mem_singleton.mp hpc]
    exact tv_m132.1.1.1 (5, .ireturn, 1) (List.mem_of_getElem? (i := 3) rfl)
  · intro p e R s m args below meth c Q w hw' hf C2 kk
    refine cp_all C2 hw' e0 hn4 (hn1.fr hf rfl) (hc.fr hf rfl) hg (fun pcr w' z lv hpr hP => kk pcr w' z lv hpr ⟨hP.1, ?_⟩)
    have hP := hP.2
    by_cases hh : 0 ≤ (sx (i + 1)).toInt ∧ (sx (i + 1)).toInt < n
    · rw [if_pos hh] at hP ⊢
      exact ⟨(wsub_ok (V := []) rfl hf).tr hP.1, hP.2⟩
    · rw [if_neg hh] at hP ⊢
      exact ⟨hf.tr hP.1, hP.2⟩
  · intro p e R s m args below meth c Q wa z1 w hP1 hw' hf C2 kk
    have hfa : ai_fr cpW ws wa := by
      have hP1 := hP1.2
      by_cases hh : 0 ≤ (sx (i + 1)).toInt ∧ (sx (i + 1)).toInt < n
      · rw [if_pos hh] at hP1
        exact cp_sub (by omega) hP1.1
      · rw [if_neg hh] at hP1
        exact wsub_ok (V := []) rfl hP1.1
    refine mq_all C2 hw' e49 hn4 ((hn2.fr hfa rfl).fr hf rfl) ((he.fr hn4 hfa (fun _ _ => rfl)).fr hn4 hf (fun _ _ => rfl)) hg (fun pcr w' z lv hpr hP => kk pcr w' z lv hpr ⟨hP.1, ?_⟩)
    have hP := hP.2
    by_cases hh : 0 ≤ (sx (i + 1)).toInt ∧ (sx (i + 1)).toInt < n
    · rw [if_pos hh] at hP ⊢
      exact ⟨(wsub_ok (V := []) rfl hf).tr hP.1, hP.2⟩
    · rw [if_neg hh] at hP ⊢
      exact ⟨hf.tr hP.1, hP.2⟩
  · intro wa z1 wb z2 h1 h2
    refine ⟨h2.1, fun _ => ?_⟩
    have h1 := h1.2
    have h2 := h2.2
    by_cases hh : 0 ≤ (sx (i + 1)).toInt ∧ (sx (i + 1)).toInt < n
    · rw [if_pos hh] at h1 h2
      exact Int32.toInt_inj.mp (by rw [h1.2.2, h2.2.2])
    · rw [if_neg hh] at h1 h2
      exact Int32.toInt_inj.mp (by rw [h1.2, h2.2])
  · intro wa z1 wb z2 wc h1 h2 hwc hf
    refine k wc hwc ?_
    have h1 := h1.2
    have h2 := h2.2
    by_cases hh : 0 ≤ (sx (i + 1)).toInt ∧ (sx (i + 1)).toInt < n
    · rw [if_pos hh] at h1 h2
      have ht : (sx (i + 1)).toInt.toNat < n := by omega
      have f2 : ai_fr md_W wa wc := (mp_sub (by omega) h2.1).tr (wsub_ok (V := []) rfl hf)
      have fa : ai_fr (cpW ++ md_W) ws wc := (wsub_ok (V := cpW) (by decide) (cp_sub (by omega) h1.1)).tr (wsub_ok (V := md_W) (by decide) f2)
      exact Inv.page hb hp hi0 hi1 hs hwc fa (by decide) (h1.2.1.fr f2 rfl) (h2.2.1.fr hn4 hf (fun _ _ => rfl)) (good_pl hn4 ht hg)
    · rw [if_neg hh] at h1 h2
      exact Inv.fr0 ⟨t, g, u, q, y, n, j0, j1, E, a, P, hb, hp, hi0, hi1, hs⟩ hwc ((h1.1.tr h2.1).tr hf)
theorem lw_rest {i q0 q49 : Nat} {ws : va_W} (C : ai_cx tb_m169 11 p R s m args c D tys A b L sx cells slots) (e0 : ad[0]? = some q0) (e49 : ad[49]? = some q49) (hi : i + 5 ≤ L) (hL : L ≤ 2560) (hw : ai_wd tb_TY ad tys ws) (hI : Inv ws)
    (k : ∀ wc, ai_wd tb_TY ad tys wc → Inv wc → hG tb_m169 p l e R s m args below meth c D A cells slots Q 1298 [(0, .ref b), (1, .ref q0), (2, .ref q49), (3, .int (nI i))] [] wc) : hG tb_m169 p l e R s m args below meth c D A cells slots Q 505 [(0, .ref b), (1, .ref q0), (2, .ref q49), (3, .int (nI i))] [] ws := by
  obtain ⟨t, g, u, q, y, n, j0, j1, E, a, P, hb, hp, hi0, hi1, hs⟩ := hI
  obtain ⟨hn1, hn2, hn4⟩ := hb.2.2.2.2.1
  obtain ⟨hc, he, hg⟩ := hp.1
  have b16 := hg.2.1
  refine law2 (P1 := fun w z => cr_P ad tys (E 16) (sx (i + 1)).toInt ws w z) (P2 := fun wa _ w z => mr_P ad tys (E 16) (sx (i + 1)).toInt wa w z) (rets1 := [11, 39]) (rets2 := [13, 37]) C e0 e49 hi hL hw (n := 1) (cmp := false) (by decide) lr_restA lr_restB lr_restC (q1 := (69, 0, 61, 1, 5)) (tv_m169.1.1.1 (511, .invokevirtual 69, 3) (List.mem_of_getElem? (i := 259) rfl)) (tv_m169.2 _ (List.mem_of_getElem? (i := 26) rfl)) rfl rfl rfl rfl (by decide) (Nat.le_of_ble_eq_true rfl) rfl rfl (q2 := (72, 0, 133, 1, 6)) (tv_m169.1.1.1 (521, .invokevirtual 72, 3) (List.mem_of_getElem? (i := 267) rfl)) (tv_m169.2 _ (List.mem_of_getElem? (i := 27) rfl)) rfl rfl rfl rfl (by decide) (Nat.le_of_ble_eq_true rfl) rfl rfl ?_ ?_ ?_ (fun wa z1 h => h.1) ?_ ?_ ?_
  · intro pcr hpc
    rcases List.mem_cons.mp hpc with rfl | hpc
    · exact tv_m61.1.1.1 (11, .ireturn, 1) (List.mem_of_getElem? (i := 6) rfl)
    · rw [List.mem_singleton.mp hpc]
      exact tv_m61.1.1.1 (39, .ireturn, 1) (List.mem_of_getElem? (i := 20) rfl)
  · intro pcr hpc
    rcases List.mem_cons.mp hpc with rfl | hpc
    · exact tv_m133.1.1.1 (13, .ireturn, 1) (List.mem_of_getElem? (i := 7) rfl)
    · rw [List.mem_singleton.mp hpc]
      exact tv_m133.1.1.1 (37, .ireturn, 1) (List.mem_of_getElem? (i := 21) rfl)
  · intro p e R s m args below meth c Q w hw' hf C2 kk
    refine cr_all C2 hw' e0 b16 (hc.2.1.fr hf rfl) (fun pcr w' z lv hpr hP => kk pcr w' z lv hpr ⟨hP.1, ?_⟩)
    have hP := hP.2
    by_cases hh : 0 ≤ (sx (i + 1)).toInt ∧ (sx (i + 1)).toInt ≤ 20
    · rw [if_pos hh] at hP ⊢
      exact ⟨(wsub_ok (V := []) rfl hf).tr hP.1, hP.2⟩
    · rw [if_neg hh] at hP ⊢
      exact ⟨hf.tr hP.1, hP.2⟩
  · intro p e R s m args below meth c Q wa z1 w hP1 hw' hf C2 kk
    have hfa : ai_fr cr_W ws wa := by
      have hP1 := hP1.2
      by_cases hh : 0 ≤ (sx (i + 1)).toInt ∧ (sx (i + 1)).toInt ≤ 20
      · rw [if_pos hh] at hP1
        exact hP1.1
      · rw [if_neg hh] at hP1
        exact wsub_ok (V := []) rfl hP1.1
    refine mr_all C2 hw' e49 b16 ((he.2.1.fr hfa rfl).fr hf rfl) (fun pcr w' z lv hpr hP => kk pcr w' z lv hpr ⟨hP.1, ?_⟩)
    have hP := hP.2
    by_cases hh : 0 ≤ (sx (i + 1)).toInt ∧ (sx (i + 1)).toInt ≤ 20
    · rw [if_pos hh] at hP ⊢
      exact ⟨(wsub_ok (V := []) rfl hf).tr hP.1, hP.2⟩
    · rw [if_neg hh] at hP ⊢
      exact ⟨hf.tr hP.1, hP.2⟩
  · intro wa z1 wb z2 h1 h2
    refine ⟨h2.1, fun _ => ?_⟩
    have h1 := h1.2
    have h2 := h2.2
    by_cases hh : 0 ≤ (sx (i + 1)).toInt ∧ (sx (i + 1)).toInt ≤ 20
    · rw [if_pos hh] at h1 h2
      exact Int32.toInt_inj.mp (by rw [h1.2.2, h2.2.2])
    · rw [if_neg hh] at h1 h2
      exact Int32.toInt_inj.mp (by rw [h1.2, h2.2])
  · intro wa z1 wb z2 wc h1 h2 hwc hf
    refine k wc hwc ?_
    have h1 := h1.2
    have h2 := h2.2
    by_cases hh : 0 ≤ (sx (i + 1)).toInt ∧ (sx (i + 1)).toInt ≤ 20
    · rw [if_pos hh] at h1 h2
      have f2 : ai_fr mr_W wa wc := h2.1.tr (wsub_ok (V := []) rfl hf)
      have fa : ai_fr (cr_W ++ mr_W) ws wc := (wsub_ok (V := cr_W) (by decide) h1.1).tr (wsub_ok (V := mr_W) (by decide) f2)
      have hpe : pev wa 0 n E := he.fr hn4 h1.1 (fun _ _ => rfl)
      have hcu : cev wa 1 n (ev_up E 16 (min 20 (E 16 + 2 * (sx (i + 1)).toInt))) := cev_up (j := 1) hn4 (Or.inl rfl) hc h1.1 ⟨rfl, rfl, rfl, rfl⟩ rfl h1.2.1
      exact Inv.page hb hp hi0 hi1 hs hwc fa (by decide) (hcu.fr f2 rfl) (pev_up hn4 hpe f2 (fun j h1 h2 => wr_no fun q hq => by
        unfold mr_W at hq
        rw [List.mem_singleton.mp hq]
        dsimp only
        omega) (h2.2.1.fr hf rfl)) (good_up hg hn4 (by omega))
    · rw [if_neg hh] at h1 h2
      exact Inv.fr0 ⟨t, g, u, q, y, n, j0, j1, E, a, P, hb, hp, hi0, hi1, hs⟩ hwc ((h1.1.tr h2.1).tr hf)
end LWC
end
section
/-! read, in the law -/
def baG : List (Nat × Nat) := [(26, 1), (49, 7), (0, 9), (49, 8), (34, 0), (49, 19), (49, 1), (25, 0), (56, 0), (25, 1), (56, 1)]
def wrG (W : List (Nat × Nat × Nat)) : Bool := (nwr W baG && (nowr W 27 && nowr W 52)) && ((((evw W 13 && nowr W 18) && pgw W 27) && ((evw W 19 && nowr W 24) && pgw W 54)) && ((nowr W 42 && (nowr W 43 && (nowr W 45 && (nowr W 46 && (nowr W 47 && nowr W 48))))) && shB W))
theorem Inv.gen {W : List (Nat × Nat × Nat)} {ad : List Nat} {tys : ai_ty} {ws ws' : va_W} {t : Nat} {g : Nat → Int} {u q y y' : Int} {n : Nat} {k0 k1 : Int} {E' : Nat → Int} {a : Nat} {P : Nat → Int} (hb : baI ws t g u q y n k0 k1) (hi0 : k0 = 1 → imI ws 0 n) (hi1 : k1 = 1 → imI ws 1 n) (hs : shI ws) (hw' : ai_wd tb_TY ad tys ws') (hf : ai_fr W ws ws') (hW : wrG W = true) (v10 : vi ws' 0 10 y' ∧ vi ws' 49 24 y') (v1 : vi ws' 1 0 n) (hp : pgI ws' 1 0 n E' a P) : Inv ws' := by
  unfold wrG at hW
  obtain ⟨wA, wD⟩ := band hW
  obtain ⟨w1, w2⟩ := band wA
  obtain ⟨w27, w52⟩ := band w2
  obtain ⟨wF, wG⟩ := band wD
  obtain ⟨wH, wI⟩ := band wF
  obtain ⟨w6, w7⟩ := band wH
  obtain ⟨w8, w9⟩ := band wI
  obtain ⟨w10, w11⟩ := band wG
  have hn := hb.2.2.2.2.1.2.2
  obtain ⟨⟨⟨a1, a2⟩, a3, a4⟩, ⟨b1, b2⟩, ⟨c1, c2⟩, -, ⟨e1, e2, e3⟩, ⟨f1, f2⟩, g1, g2⟩ := hb
  have w : ∀ {c i : Nat}, (c, i) ∈ baG → ai_wr W c i i = false := fun hm => nwr_at w1 hm
  exact ⟨t, g, u, q, y', n, k0, k1, E', a, P, ⟨⟨⟨a1.fr hf (w (by decide)), a2.fr hf (w (by decide))⟩, a3, a4.fr a3 hw' hf w27 w52⟩, ⟨b1.fr hf (w (by decide)), b2.fr hf (w (by decide))⟩, ⟨c1.fr hf (w (by decide)), c2.fr hf (w (by decide))⟩, v10, ⟨v1, e2.fr hf (w (by decide)), e3⟩, ⟨f1.fr hf (w (by decide)), f2.fr hf (w (by decide))⟩, g1.fr hf (w (by decide)), g2.fr hf (w (by decide))⟩, hp, fun h => (hi0 h).fr hn hf w6 w7, fun h => (hi1 h).fr hn hf w8 w9, hs.fr hf w10 w11⟩
section LWR
variable {ad : List Nat} {p : Program} {l : Launch} {e : Env} {R : Room} {s : State} {m : MethodId} {args : Array Value} {below : List Frame} {meth : Method} {c : Code} {D : va_G} {tys : ai_ty} {A : Nat → Prop} {b L : Nat} {sx : Nat → Int32} {cells slots : Nat} {Q : State → Prop}
theorem cd_pre {n : Nat} {E : Nat → Int} {ln : Int} {len : Nat} {X : Nat → Int} {k la f mm : Int} {ws w w' : va_W} {z : Int32} (hf : ai_fr [] ws w) (h : cd_P ad tys n E ln len X k la f mm w w' z) : cd_P ad tys n E ln len X k la f mm ws w' z := by
  refine ⟨h.1, fun hok => ?_, fun hno => ⟨hf.tr (h.2.2 hno).1, (h.2.2 hno).2⟩⟩
  have h1 := h.2.1 hok
  generalize rd n ln la f len X mm.toNat 0 E = res at h1 ⊢
  match res, h1 with
  | .inl i, h1 => exact ⟨(wsub_ok (V := []) rfl hf).tr h1.1, h1.2⟩
  | .inr (E', i, y), h1 => exact ⟨(wsub_ok (V := []) rfl hf).tr h1.1, h1.2.1, h1.2.2.1, h1.2.2.2.1, fun z hz => h1.2.2.2.2.1 z (hz.fr hf rfl), fun j z hj hz => h1.2.2.2.2.2.1 j z hj (hz.fr hf rfl), h1.2.2.2.2.2.2⟩
theorem cd_fr {n : Nat} {E : Nat → Int} {ln : Int} {len : Nat} {X : Nat → Int} {k la f mm : Int} {ws w' : va_W} {z : Int32} (h : cd_P ad tys n E ln len X k la f mm ws w' z) : ai_fr cdW ws w' := by
  by_cases hok : rd_ok k la mm
  · have h1 := h.2.1 hok
    generalize rd n ln la f len X mm.toNat 0 E = res at h1
    match res, h1 with
    | .inl i, h1 => exact wsub_ok (V := bc_W 7) (by decide) h1.1
    | .inr (E', i, y), h1 => exact h1.1
  · exact wsub_ok (V := []) rfl (h.2.2 hok).1
theorem md_pre {n : Nat} {E : Nat → Int} {ln : Int} {len : Nat} {X : Nat → Int} {k la f mm : Int} {ws w w' : va_W} {z : Int32} (hf : ai_fr [] ws w) (h : md_P ad tys n E ln len X k la f mm w w' z) : md_P ad tys n E ln len X k la f mm ws w' z := by
  refine ⟨h.1, fun hok => ?_, fun hno => ⟨hf.tr (h.2.2 hno).1, (h.2.2 hno).2⟩⟩
  have h1 := h.2.1 hok
  generalize rd n ln la f len X mm.toNat 0 E = res at h1 ⊢
  match res, h1 with
  | .inl i, h1 => exact ⟨(wsub_ok (V := []) rfl hf).tr h1.1, fun j z hj hz => h1.2.1 j z hj (hz.fr hf rfl), h1.2.2⟩
  | .inr (E', i, y), h1 => exact ⟨(wsub_ok (V := []) rfl hf).tr h1.1, h1.2⟩
set_option maxHeartbeats 1000000 in
set_option maxRecDepth 20000 in
theorem lw_read {i q0 q49 : Nat} {ws : va_W} (C : ai_cx tb_m169 11 p R s m args c D tys A b L sx cells slots) (e0 : ad[0]? = some q0) (e49 : ad[49]? = some q49) (hi : i + 5 ≤ L) (hL : L ≤ 2560) (hw : ai_wd tb_TY ad tys ws) (hI : Inv ws)
    (k : ∀ wc, ai_wd tb_TY ad tys wc → Inv wc → hG tb_m169 p l e R s m args below meth c D A cells slots Q 1298 [(0, .ref b), (1, .ref q0), (2, .ref q49), (3, .int (nI i))] [] wc) : hG tb_m169 p l e R s m args below meth c D A cells slots Q 1209 [(0, .ref b), (1, .ref q0), (2, .ref q49), (3, .int (nI i))] [] ws := by
  obtain ⟨t, g, u, q, y, n, j0, j1, E, a, P, hb, hp, hi0, hi1, hs⟩ := hI
  obtain ⟨hn1, hn2, hn4⟩ := hb.2.2.2.2.1
  obtain ⟨hc, he, hg⟩ := hp.1
  obtain ⟨hp3, hp26, hp8⟩ := hp.2.1
  have hpl := hp.2.2
  obtain ⟨Lk, Nk, Xk, hcs, hms⟩ := hs.1
  obtain ⟨a1, -, -, e1, -⟩ := hw.get (c := 1) rfl
  obtain ⟨a7, -, -, e7, -⟩ := hw.get (c := 7) rfl
  refine law2 (P1 := fun w z => cd_P ad tys n E (Lk (sx (i + 1)).toInt.toNat) (Nk (sx (i + 1)).toInt.toNat) (Xk (sx (i + 1)).toInt.toNat) (sx (i + 1)).toInt (sx (i + 2)).toInt (sx (i + 3)).toInt (sx (i + 4)).toInt ws w z) (P2 := fun wa _ w z => md_P ad tys n E (Lk (sx (i + 1)).toInt.toNat) (Nk (sx (i + 1)).toInt.toNat) (Xk (sx (i + 1)).toInt.toNat) (sx (i + 1)).toInt (sx (i + 2)).toInt (sx (i + 3)).toInt (sx (i + 4)).toInt wa w z) (rets1 := [28, 114, 153]) (rets2 := [38, 163, 181]) C e0 e49 hi hL hw (n := 4) (cmp := false) (by decide) lr_readA lr_readB lr_readC (q1 := (155, 0, 91, 4, 5)) (tv_m169.1.1.1 (1230, .invokevirtual 155, 3) (List.mem_of_getElem? (i := 852) rfl)) (tv_m169.2 _ (List.mem_of_getElem? (i := 68) rfl)) rfl rfl rfl rfl (by decide) (Nat.le_of_ble_eq_true rfl) rfl rfl (q2 := (158, 0, 166, 4, 6)) (tv_m169.1.1.1 (1255, .invokevirtual 158, 3) (List.mem_of_getElem? (i := 875) rfl)) (tv_m169.2 _ (List.mem_of_getElem? (i := 69) rfl)) rfl rfl rfl rfl (by decide) (Nat.le_of_ble_eq_true rfl) rfl rfl ?_ ?_ ?_ (fun wa z1 h => h.1) ?_ ?_ ?_
  · intro pcr hpc
    rcases List.mem_cons.mp hpc with rfl | hpc
    · exact tv_m91.1.1.1 (28, .ireturn, 1) (List.mem_of_getElem? (i := 14) rfl)
    · rcases List.mem_cons.mp hpc with rfl | hpc
      · exact tv_m91.1.1.1 (114, .ireturn, 1) (List.mem_of_getElem? (i := 60) rfl)
      · rw [List.mem_singleton.mp hpc]
        exact tv_m91.1.1.1 (153, .ireturn, 1) (List.mem_of_getElem? (i := 78) rfl)
  · intro pcr hpc
    rcases List.mem_cons.mp hpc with rfl | hpc
    · exact tv_m166.1.1.1 (38, .ireturn, 1) (List.mem_of_getElem? (i := 19) rfl)
    · rcases List.mem_cons.mp hpc with rfl | hpc
      · exact tv_m166.1.1.1 (163, .ireturn, 1) (List.mem_of_getElem? (i := 92) rfl)
      · rw [List.mem_singleton.mp hpc]
        exact tv_m166.1.1.1 (181, .ireturn, 1) (List.mem_of_getElem? (i := 100) rfl)
  · intro p e R s m args below meth c Q w hw' hf C2 kk
    exact cd_all C2 hw' e0 e1 e7 hn4 (hn1.fr hf rfl) (hc.fr hf rfl) hg (hcs.fr hf rfl) (fun pcr w' z lv hpr hP => kk pcr w' z lv hpr (cd_pre hf hP))
  · intro p e R s m args below meth c Q wa z1 w hP1 hw' hf C2 kk
    have hfa := cd_fr hP1
    exact md_all C2 hw' e49 hn4 ((hn2.fr hfa rfl).fr hf rfl) ((he.fr hn4 hfa (fun _ _ => rfl)).fr hn4 hf (fun _ _ => rfl)) hg ((hms.fr hfa rfl).fr hf rfl) (fun pcr w' z lv hpr hP => kk pcr w' z lv hpr (md_pre hf hP))
  · intro wa z1 wb z2 h1 h2
    refine ⟨h2.1, fun _ => ?_⟩
    by_cases hok : rd_ok (sx (i + 1)).toInt (sx (i + 2)).toInt (sx (i + 4)).toInt
    · have g1 := h1.2.1 hok
      have g2 := h2.2.1 hok
      generalize rd n (Lk (sx (i + 1)).toInt.toNat) (sx (i + 2)).toInt (sx (i + 3)).toInt (Nk (sx (i + 1)).toInt.toNat) (Xk (sx (i + 1)).toInt.toNat) (sx (i + 4)).toInt.toNat 0 E = res at g1 g2
      match res, g1, g2 with
      | .inl j, g1, g2 => exact Int32.toInt_inj.mp (by rw [g1.2, g2.2.2])
      | .inr (E', j, y'), g1, g2 => exact Int32.toInt_inj.mp (by rw [g1.2.2.2.2.2.2.2, g2.2.2.2])
    · exact Int32.toInt_inj.mp (by rw [(h1.2.2 hok).2, (h2.2.2 hok).2])
  · intro wa z1 wb z2 wc h1 h2 hwc hf
    refine k wc hwc ?_
    by_cases hok : rd_ok (sx (i + 1)).toInt (sx (i + 2)).toInt (sx (i + 4)).toInt
    · have g1 := h1.2.1 hok
      have g2 := h2.2.1 hok
      generalize rd n (Lk (sx (i + 1)).toInt.toNat) (sx (i + 2)).toInt (sx (i + 3)).toInt (Nk (sx (i + 1)).toInt.toNat) (Xk (sx (i + 1)).toInt.toNat) (sx (i + 4)).toInt.toNat 0 E = res at g1 g2
      match res, g1, g2 with
      | .inl j, ⟨f1, _⟩, ⟨f2, v2, _⟩ =>
        have fa : ai_fr (bc_W 7 ++ [(50, 0, 27), (50, 81, 108)]) ws wc := ((wsub_ok (V := bc_W 7) (by decide) f1).tr (wsub_ok (V := [(50, 0, 27), (50, 81, 108)]) (by decide) f2)).tr (wsub_ok (V := []) rfl hf)
        have g50 : ∀ (j : Nat) (z : Int), j < 27 → vi ws 50 j z → vi wc 50 j z := fun j z hj hz => (v2 j z hj (hz.fr f1 rfl)).fr hf rfl
        refine Inv.gen (y' := y) hb hi0 hi1 hs hwc fa (by decide) ⟨hb.2.2.2.1.1.fr fa (by decide), hb.2.2.2.1.2.fr fa (by decide)⟩ (hn1.fr fa (by decide)) (E' := E) (a := a) (P := P) ⟨⟨hc.fr fa (by decide), ⟨fun i hi => ?_, g50 16 _ (by decide) he.2.1, g50 17 _ (by decide) he.2.2⟩, hg⟩, ⟨hp3.fr fa (by decide), g50 26 _ (by decide) hp26, hp8⟩, fun j hj => ?_⟩
        · obtain ⟨x1, x2, x3, x4⟩ := he.1 i hi
          exact ⟨g50 i _ (by omega) x1, g50 (4 + i) _ (by omega) x2, g50 (8 + i) _ (by omega) x3, g50 (12 + i) _ (by omega) x4⟩
        · obtain ⟨x1, x2, x3⟩ := hpl j hj
          exact ⟨x1.fr fa (nowr_ok (c := 6) (by decide) j j), g50 (18 + j) _ (by omega) x2, x3⟩
      | .inr (E', j, y'), ⟨f1, c1, hg', n1, v13, v6, v010, _⟩, ⟨f2, p2, v49, _⟩ =>
        have f2c : ai_fr mdW wa wc := f2.tr (wsub_ok (V := []) rfl hf)
        have fa : ai_fr (cdW ++ mdW) ws wc := (wsub_ok (V := cdW) (by decide) f1).tr (wsub_ok (V := mdW) (by decide) f2c)
        refine Inv.gen (y' := y') hb hi0 hi1 hs hwc fa (by decide) ⟨v010.fr f2c (by decide), v49.fr hf rfl⟩ (n1.fr f2c (by decide)) (E' := E') (a := a) (P := P) ⟨⟨c1.fr f2c (by decide), p2.fr hn4 hf (fun _ _ => rfl), hg'⟩, ⟨(v13 _ hp3).fr f2c (by decide), hp26.fr fa (by decide), hp8⟩, fun j hj => ?_⟩
        obtain ⟨x1, x2, x3⟩ := hpl j hj
        refine ⟨(v6 j _ (by omega) x1).fr f2c (nowr_ok (c := 6) (by decide) j j), (x2.fr f1 (nowr_ok (c := 50) (by decide) _ _)).fr f2c (wr_no fun q hq => ?_), x3⟩
        unfold mdW at hq
        simp only [List.mem_cons, List.not_mem_nil, or_false] at hq
        rcases hq with rfl | rfl | rfl <;> dsimp only <;> omega
    · exact Inv.fr0 ⟨t, g, u, q, y, n, j0, j1, E, a, P, hb, hp, hi0, hi1, hs⟩ hwc (((h1.2.2 hok).1.tr (h2.2.2 hok).1).tr hf)
end LWR
end
section
/-! what a text tells is within bounds; text in the law -/
def ev_gd (t : Nat) (E : Nat → Int) : Prop := (∀ i, i < t → (0 ≤ E i ∧ E i ≤ 3) ∧ (1 ≤ E (4 + i) ∧ E (4 + i) ≤ 99) ∧ 0 ≤ E (8 + i) ∧ (0 ≤ E (12 + i) ∧ E (12 + i) ≤ 99)) ∧ (0 ≤ E 16 ∧ E 16 ≤ 20) ∧ (0 ≤ E 17 ∧ E 17 ≤ 99)
theorem sp_t1_gd {g : Nat → Int} {n tests told : Nat} {as : List Int} {t1 : sp_T} {S' : sp_S} (h : sp_t1 g n tests told as t1 = .inr S') : (1 ≤ t1.2.2.2 ∧ t1.2.2.2 ≤ 99) ∧ 0 ≤ ev_m g n t1 ∧ (0 ≤ ev_p g n t1 ∧ ev_p g n t1 ≤ 99) := by
  unfold sp_t1 at h
  unfold ev_m ev_p
  split at h
  · split at h
    · rename_i c
      refine ⟨c, ?_⟩
      unfold sp_t2 at h
      split at h
      · rename_i c2
        rw [if_pos c2]
        split at h
        · rename_i c3
          refine ⟨c3.1, ?_⟩
          unfold sp_t3 at h
          split at h
          · rename_i c4
            rw [if_pos ⟨c2, c4⟩]
            split at h
            · rename_i c5
              exact c5
            · cases h
          · rename_i c4
            rw [if_neg (fun hh => c4 hh.2)]
            omega
        · cases h
      · rename_i c2
        rw [if_neg c2, if_neg (fun hh => c2 hh.1)]
        omega
    · cases h
  · cases h
theorem sp_o1_gd {g : Nat → Int} {n tests told : Nat} {as : List Int} {most : Int} {t1 : sp_T} {S' : sp_S} (h : sp_o1 g n tests told as most t1 = .inr S') : 0 ≤ t1.2.2.2 ∧ t1.2.2.2 ≤ most := by
  unfold sp_o1 at h
  split at h
  · split at h
    · rename_i c
      exact c
    · cases h
  · cases h
theorem ev_line_gd {g : Nat → Int} {n : Nat} {S S' : sp_S} {E : Nat → Int} (hv : sp_inv2 n S) (he : ev_gd S.2.1 E) (h : sp_line g n S = .inr S') : ev_gd S'.2.1 (ev_line g n S E) := by
  have key : ∀ {p tests told : Nat} {as : List Int} {R : sp_R}, sp_go g n p tests told as R → R = .inr S' → S'.2.1 = tests := by
    intro p tests told as R h1 h2
    subst h2
    obtain ⟨e, -, e2, rfl⟩ := h1
    rfl
  have i6 := hv.1.2.2.2.2.2
  have i3 := hv.1.2.2.1
  obtain ⟨he1, he2, he3⟩ := he
  unfold sp_line at h
  unfold ev_line ev_word
  generalize sp_word g S.1.2.1 S.1.2.2.1 = w at h
  split at h
  · unfold sp_word1 at h
    split at h
    · cases h
    · split at h
      · rename_i w4
        rw [if_pos w4]
        split at h
        · cases h
        · rename_i ht
          have ht4 : S.2.1 < 4 := by omega
          obtain ⟨hm1, hm2, hm3⟩ := sp_t1_gd h
          rw [key (sp_t1_go i6) h]
          refine ⟨fun i hi => ?_, ?_, ?_⟩
          · by_cases hit : i = S.2.1
            · subst hit
              rw [ev_test_k, ev_test_s, ev_test_m, ev_test_p]
              exact ⟨⟨by omega, by omega⟩, hm1, hm2, hm3⟩
            · rw [ev_test_ne (j := i) (by omega) (by omega) (by omega) (by omega), ev_test_ne (j := 4 + i) (by omega) (by omega) (by omega) (by omega), ev_test_ne (j := 8 + i) (by omega) (by omega) (by omega) (by omega), ev_test_ne (j := 12 + i) (by omega) (by omega) (by omega) (by omega)]
              exact he1 i (by omega)
          · rw [ev_test_ne (by omega) (by omega) (by omega) (by omega)]
            exact he2
          · rw [ev_test_ne (by omega) (by omega) (by omega) (by omega)]
            exact he3
      · rename_i w4
        rw [if_neg w4]
        split at h
        · cases h
        · split at h
          · rename_i w6
            obtain ⟨t, q, bs, e1, e2, e3, e4, e5⟩ := sp_plan_go (g := g) 9 S.1.2.2.1 [] i6 ⟨Nat.zero_le _, fun a h => by cases h⟩
            rw [e1] at h
            unfold sp_p1 at h
            split at h
            · rw [key (sp_stop_go e3) h, if_neg (by omega), if_neg (by omega)]
              exact ⟨he1, he2, he3⟩
            · cases h
          · have ho := sp_o1_gd h
            rw [key (sp_o1_go i6) h]
            split
            · rename_i c4
              rw [if_pos c4] at ho
              refine ⟨fun i hi => ?_, by rw [ev_up_at]; exact ho, by rw [ev_up_ne (by decide)]; exact he3⟩
              rw [ev_up_ne (j := i) (by omega), ev_up_ne (j := 4 + i) (by omega), ev_up_ne (j := 8 + i) (by omega), ev_up_ne (j := 12 + i) (by omega)]
              exact he1 i hi
            · split
              · rename_i c4 c5
                rw [if_neg c4] at ho
                refine ⟨fun i hi => ?_, by rw [ev_up_ne (by decide)]; exact he2, by rw [ev_up_at]; exact ho⟩
                rw [ev_up_ne (j := i) (by omega), ev_up_ne (j := 4 + i) (by omega), ev_up_ne (j := 8 + i) (by omega), ev_up_ne (j := 12 + i) (by omega)]
                exact he1 i hi
              · exact ⟨he1, he2, he3⟩
  · cases h
theorem ev_run_gd {g : Nat → Int} {n : Nat} : ∀ (f l : Nat) (S : sp_S) (E : Nat → Int), sp_inv2 n S → ev_gd S.2.1 E → ∀ S' l', sp_run g n f l S = .inr (S', l') → ev_gd S'.2.1 (ev_run g n f S E) ∧ sp_inv2 n S'
  | 0, l, S, E, hv, he, S', l', h => by
    cases h
    exact ⟨he, hv⟩
  | f + 1, l, S, E, hv, he, S', l', h => by
    have hgo := sp_line_go (g := g) hv
    have hlo := fun (S2 : sp_S) => ev_line_gd (g := g) (S' := S2) hv he
    have herun : ev_run g n (f + 1) S E = if S.1.1 = 0 then E else match sp_line g n S with
        | .inl _ => E
        | .inr S' => ev_run g n f S' (ev_line g n S E) := rfl
    rw [herun]
    unfold sp_run at h
    split at h
    · rename_i h0
      rw [if_pos h0]
      cases h
      exact ⟨he, hv⟩
    · rename_i h0
      rw [if_neg h0]
      generalize sp_line g n S = RR at hgo h hlo
      cases RR with
      | inl y =>
        have h : (Sum.inl y : (Nat × Nat) ⊕ (sp_S × Nat)) = .inr (S', l') := h
        cases h
      | inr S2 =>
        have h : sp_run g n f (l + 1) S2 = .inr (S', l') := h
        exact ev_run_gd f (l + 1) S2 (ev_line g n S E) hgo.1 (hlo S2 rfl) S' l' h
theorem sp_run_pos {g : Nat → Int} {n : Nat} : ∀ (f l : Nat) (S : sp_S), sp_inv2 n S → match sp_run g n f l S with
    | .inl x => 1 ≤ x.1
    | .inr _ => True
  | 0, l, S, hv => trivial
  | f + 1, l, S, hv => by
    have hgo := sp_line_go (g := g) hv
    unfold sp_run
    by_cases h0 : S.1.1 = 0
    · rw [if_pos h0]
      trivial
    · rw [if_neg h0]
      generalize sp_line g n S = RR at hgo
      cases RR with
      | inl x => exact hgo.1
      | inr S2 => exact sp_run_pos f (l + 1) S2 hgo.1
theorem ev_0_gd : ev_gd 0 ev_0 := ⟨fun i hi => absurd hi (Nat.not_lt_zero _), by unfold ev_0; rw [if_pos rfl]; omega, by unfold ev_0; rw [if_neg (by decide)]; omega⟩
/-- a text without a fault tells a good page, and acts at tests that there are -/
theorem ev_text_gd {g : Nat → Int} {n : Nat} (h : (sp_text g n).1 = 0) (hok : ev_ok (sp_cnt g n) (ev_text g n)) : good (sp_cnt g n) (ev_text g n) ∧ sp_cnt g n ≤ 4 ∧ sp_acn g n ≤ 8 ∧ ∀ j, j < sp_acn g n → ((ev_acts g n).getD j 0 = 4 ∨ (0 ≤ (ev_acts g n).getD j 0 ∧ (ev_acts g n).getD j 0 < (sp_cnt g n : Int))) := by
  have hrun := ev_run_gd (g := g) (n := n) 161 0 (sp_tok g n 0, 0, 0, []) ev_0 sp_start ev_0_gd
  unfold sp_text at h
  unfold ev_text sp_cnt at hok ⊢
  unfold sp_acn ev_acts
  generalize hR : sp_run g n 161 0 (sp_tok g n 0, 0, 0, []) = RR at h hrun hok ⊢
  match RR, h, hrun, hok with
  | .inl x, h, _, _ =>
    exfalso
    have h : x.1 = 0 := h
    have hgo := sp_run_pos (g := g) (n := n) 161 0 (sp_tok g n 0, 0, 0, []) sp_start
    rw [hR] at hgo
    have hgo : 1 ≤ x.1 := hgo
    omega
  | .inr (S, l), h, hrun, hok =>
    obtain ⟨hgd, hv⟩ := hrun S l rfl
    have h : (if (S.2.1 : Int) ≤ sp_high S.2.2.2 then ((6 : Nat), n, (0 : Nat)) else (0, 0, l)).1 = 0 := h
    have hh : ¬ (S.2.1 : Int) ≤ sp_high S.2.2.2 := fun hc => by
      rw [if_pos hc] at h
      exact absurd (show (6 : Nat) = 0 from h) (by decide)
    have hok : ev_ok S.2.1 (ev_run g n 161 (sp_tok g n 0, 0, 0, []) ev_0) := hok
    have hc4 : S.2.1 ≤ 4 := hv.1.2.2.1
    have ha := hv.2.1
    refine ⟨⟨fun i hi => ?_, hgd.2.1, hgd.2.2.1, Int.le_trans hgd.2.2.2 (by decide)⟩, hc4, ha.1, fun j hj => ?_⟩
    · have hi : i < S.2.1 := hi
      obtain ⟨x1, x2, x3, x4⟩ := hgd.1 i hi
      exact ⟨x1, x2, ⟨x3, (hok i (by omega)).1 hi⟩, x4⟩
    · have hj : j < S.2.2.2.length := hj
      show S.2.2.2.getD j 0 = 4 ∨ (0 ≤ S.2.2.2.getD j 0 ∧ S.2.2.2.getD j 0 < (S.2.1 : Int))
      have hm : S.2.2.2.getD j 0 ∈ S.2.2.2 := by
        rw [List.getD_eq_getElem?_getD, List.getElem?_eq_getElem hj]
        exact List.getElem_mem hj
      obtain ⟨b1, b2⟩ := ha.2 _ hm
      by_cases h4 : S.2.2.2.getD j 0 = 4
      · exact Or.inl h4
      · refine Or.inr ⟨b1, ?_⟩
        by_cases hlt : S.2.2.2.getD j 0 < (S.2.1 : Int)
        · exact hlt
        · exact absurd ((sp_high_iff (by omega)).mpr ⟨_, hm, by omega, by omega⟩) hh
end
section
/-! text, in the law -/
def tx_P (ad : List Nat) (tys : ai_ty) (g : Nat → Int) (N : Nat) (ws w : va_W) (z : Int32) : Prop := ai_wd tb_TY ad tys w ∧ z.toInt = sp_ret g N ∧ vi w 26 1 0 ∧ vi w 0 9 (sp_text g N).1 ∧ (((sp_text g N).1 ≠ 0 ∧ ai_fr tx_We ws w) ∨ ((sp_text g N).1 = 0 ∧ ai_fr tx_W ws w ∧ vi w 1 0 (sp_cnt g N) ∧ vi w 1 3 (sp_acn g N) ∧ vi w 34 0 0 ∧ vi w 25 0 0 ∧ vi w 25 1 0 ∧ cev w 1 (sp_cnt g N) (ev_text g N) ∧ ∀ i, i < sp_acn g N → vi w 6 i ((ev_acts g N).getD i 0)))
def rt_P (ad : List Nat) (tys : ai_ty) (g : Nat → Int) (N : Nat) (ws w : va_W) (z : Int32) : Prop := ai_wd tb_TY ad tys w ∧ z.toInt = sp_ret g N ∧ vi w 49 7 0 ∧ vi w 49 8 (sp_text g N).1 ∧ (((sp_text g N).1 ≠ 0 ∧ ai_fr mt_We ws w) ∨ ((sp_text g N).1 = 0 ∧ ai_fr mt_W ws w ∧ vi w 49 1 (sp_cnt g N) ∧ vi w 50 26 (sp_acn g N) ∧ vi w 49 19 0 ∧ vi w 56 0 0 ∧ vi w 56 1 0 ∧ rpg w (ev_text g N) ∧ ev_ok (sp_cnt g N) (ev_text g N) ∧ ∀ i, i < sp_acn g N → vi w 50 (18 + i) ((ev_acts g N).getD i 0)))
section LWT
variable {ad : List Nat} {p : Program} {l : Launch} {e : Env} {R : Room} {s : State} {m : MethodId} {args : Array Value} {below : List Frame} {meth : Method} {c : Code} {D : va_G} {tys : ai_ty} {A : Nat → Prop} {b L : Nat} {sx : Nat → Int32} {cells slots : Nat} {Q : State → Prop}
set_option maxHeartbeats 1000000 in
theorem lw_text {i q0 q49 : Nat} {ws : va_W} (C : ai_cx tb_m169 11 p R s m args c D tys A b L sx cells slots) (e0 : ad[0]? = some q0) (e49 : ad[49]? = some q49) (hi : i + 5 ≤ L) (hL : L ≤ 2560) (hw : ai_wd tb_TY ad tys ws) (hI : Inv ws)
    (k : ∀ wc, ai_wd tb_TY ad tys wc → Inv wc → hG tb_m169 p l e R s m args below meth c D A cells slots Q 1298 [(0, .ref b), (1, .ref q0), (2, .ref q49), (3, .int (nI i))] [] wc) : hG tb_m169 p l e R s m args below meth c D A cells slots Q 242 [(0, .ref b), (1, .ref q0), (2, .ref q49), (3, .int (nI i))] [] ws := by
  obtain ⟨t, g, u, q, y, n, j0, j1, E, a, P, hb, hp, hi0, hi1, hs⟩ := hI
  have hb' := hb
  obtain ⟨⟨⟨v1, v7⟩, ht, hT⟩, -, ⟨q1, q2⟩, ⟨y1, y2⟩, ⟨hn1, hn2, hn4⟩, ⟨f1, f2⟩, f3, f4⟩ := hb'
  refine law2 (P1 := fun w z => tx_P ad tys g t ws w z) (P2 := fun wa _ w z => rt_P ad tys g t wa w z) (rets1 := [43, 87]) (rets2 := [127, 182]) C e0 e49 hi hL hw (n := 0) (cmp := false) (by decide) lr_textA lr_textB lr_textC (q1 := (22, 0, 48, 0, 5)) (tv_m169.1.1.1 (243, .invokevirtual 22, 3) (List.mem_of_getElem? (i := 57) rfl)) (tv_m169.2 _ (List.mem_of_getElem? (i := 4) rfl)) rfl rfl rfl rfl (by decide) (Nat.le_of_ble_eq_true rfl) rfl rfl (q2 := (26, 0, 109, 0, 6)) (tv_m169.1.1.1 (248, .invokevirtual 26, 3) (List.mem_of_getElem? (i := 60) rfl)) (tv_m169.2 _ (List.mem_of_getElem? (i := 5) rfl)) rfl rfl rfl rfl (by decide) (Nat.le_of_ble_eq_true rfl) rfl rfl ?_ ?_ ?_ (fun wa z1 h => h.1) ?_ ?_ ?_
  · intro pcr hpc
    rcases List.mem_cons.mp hpc with rfl | hpc
    · exact tv_m48.1.1.1 (43, .ireturn, 1) (List.mem_of_getElem? (i := 20) rfl)
    · rw [List.mem_singleton.mp hpc]
      exact tv_m48.1.1.1 (87, .ireturn, 1) (List.mem_of_getElem? (i := 44) rfl)
  · intro pcr hpc
    rcases List.mem_cons.mp hpc with rfl | hpc
    · exact tv_m109.1.1.1 (127, .ireturn, 1) (List.mem_of_getElem? (i := 66) rfl)
    · rw [List.mem_singleton.mp hpc]
      exact tv_m109.1.1.1 (182, .ireturn, 1) (List.mem_of_getElem? (i := 100) rfl)
  · intro p e R s m args below meth c Q w hw' hf C2 kk
    exact tx_all C2 ht hw' (hT.fr ht hw' hf rfl rfl) (v1.fr hf rfl) (lv := [(0, .ref q0)]) ⟨rfl, Or.inl ⟨rfl, q0, e0, rfl⟩, trivial⟩ (fun w' lv z h1 h2 h3 h4 h5 h6 => kk 43 w' z lv (by decide) ⟨h2, h6, h4, h5, Or.inl ⟨h1, (wsub_ok (V := []) rfl hf).tr h3⟩⟩) (fun w' lv z h1 _ _ h2 h3 h4 h5 h6 h7 h8 h9 h10 h11 h12 h13 => kk 87 w' z lv (by decide) ⟨h2, h6, h4, h5, Or.inr ⟨h1, (wsub_ok (V := []) rfl hf).tr h3, h7, h8, h9, h10, h11, h12, h13⟩⟩)
  · intro p e R s m args below meth c Q wa z1 w hP1 hw' hf C2 kk
    have fa : ai_fr tx_W ws wa := by
      rcases hP1.2.2.2.2 with h | h
      · exact wsub_ok (V := tx_We) (by decide) h.2
      · exact h.2.1
    exact rt_all C2 ht hw' ((hT.fr ht hP1.1 fa (by decide) (by decide)).fr ht hw' hf rfl rfl) ((v7.fr fa (by decide)).fr hf rfl) (lv := [(0, .ref q49)]) ⟨rfl, Or.inl ⟨rfl, q49, e49, rfl⟩, trivial⟩ (fun w' lv z h1 h2 h3 h4 h5 h6 => kk 127 w' z lv (by decide) ⟨h2, h6, h4, h5, Or.inl ⟨h1, (wsub_ok (V := []) rfl hf).tr h3⟩⟩) (fun w' lv z h1 h2 h3 h4 h5 h6 h7 h8 h9 h10 h11 h12 h13 h14 => kk 182 w' z lv (by decide) ⟨h2, h6, h4, h5, Or.inr ⟨h1, (wsub_ok (V := []) rfl hf).tr h3, h7, h8, h9, h10, h11, h12, h14, h13⟩⟩)
  · intro wa z1 wb z2 h1 h2
    exact ⟨h2.1, fun _ => Int32.toInt_inj.mp (by rw [h1.2.1, h2.2.1])⟩
  · intro wa z1 wb z2 wc h1 h2 hwc hf
    refine k wc hwc ?_
    obtain ⟨hwa, -, a26, a09, h1⟩ := h1
    obtain ⟨hwb, -, b7, b8, h2⟩ := h2
    rcases h1 with ⟨hF, g1⟩ | ⟨hF, g1, c10, c13, c34, c25, c251, cE, cA⟩
    · rcases h2 with ⟨-, g2⟩ | ⟨hF2, -⟩
      · have f2c : ai_fr mt_We wa wc := g2.tr (wsub_ok (V := []) rfl hf)
        have fa : ai_fr (tx_We ++ mt_We) ws wc := (wsub_ok (V := tx_We) (by decide) g1).tr (wsub_ok (V := mt_We) (by decide) f2c)
        refine ⟨0, g, _, q, y, n, j0, j1, E, a, P, ⟨⟨⟨a26.fr f2c (by decide), b7.fr hf rfl⟩, by decide, (hT.fr ht hwc fa (by decide) (by decide)).1, fun i hi => absurd hi (Nat.not_lt_zero _)⟩, ⟨a09.fr f2c (by decide), b8.fr hf rfl⟩, ⟨q1.fr fa (by decide), q2.fr fa (by decide)⟩, ⟨y1.fr fa (by decide), y2.fr fa (by decide)⟩, ⟨hn1.fr fa (by decide), hn2.fr fa (by decide), hn4⟩, ⟨f1.fr fa (by decide), f2.fr fa (by decide)⟩, f3.fr fa (by decide), f4.fr fa (by decide)⟩, hp.fr hn4 fa (by decide) (by decide), fun h => (hi0 h).fr hn4 fa (by decide) (by decide), fun h => (hi1 h).fr hn4 fa (by decide) (by decide), hs.fr fa (by decide) (by decide)⟩
      · exact absurd hF2 hF
    · rcases h2 with ⟨hF2, -⟩ | ⟨-, g2, d1, d26, d19, d56, d561, dE, dok, dA⟩
      · exact absurd hF hF2
      · obtain ⟨hg, hc4, ha8, hacts⟩ := ev_text_gd hF dok
        have f2c : ai_fr mt_W wa wc := g2.tr (wsub_ok (V := []) rfl hf)
        have fa : ai_fr (tx_W ++ mt_W) ws wc := (wsub_ok (V := tx_W) (by decide) g1).tr (wsub_ok (V := mt_W) (by decide) f2c)
        have hpe : pev wc 0 (sp_cnt g t) (ev_text g t) := ⟨fun i hi => ⟨(dE.1 i (by omega)).fr hf rfl, (dE.1 (4 + i) (by omega)).fr hf rfl, (dE.1 (8 + i) (by omega)).fr hf rfl, (dE.1 (12 + i) (by omega)).fr hf rfl⟩, dE.2.1.fr hf rfl, dE.2.2.fr hf rfl⟩
        refine ⟨0, g, _, 0, y, sp_cnt g t, 0, 0, ev_text g t, sp_acn g t, fun j => (ev_acts g t).getD j 0, ⟨⟨⟨a26.fr f2c (by decide), b7.fr hf rfl⟩, by decide, (hT.fr ht hwc fa (by decide) (by decide)).1, fun i hi => absurd hi (Nat.not_lt_zero _)⟩, ⟨a09.fr f2c (by decide), b8.fr hf rfl⟩, ⟨c34.fr f2c (by decide), d19.fr hf rfl⟩, ⟨y1.fr fa (by decide), y2.fr fa (by decide)⟩, ⟨c10.fr f2c (by decide), d1.fr hf rfl, hc4⟩, ⟨c25.fr f2c (by decide), d56.fr hf rfl⟩, c251.fr f2c (by decide), d561.fr hf rfl⟩, ⟨⟨cE.fr f2c (by decide), hpe, hg⟩, ⟨c13.fr f2c (by decide), d26.fr hf rfl, ha8⟩, fun j hj => ⟨(cA j hj).fr f2c (nowr_ok (c := 6) (by decide) j j), (dA j hj).fr hf rfl, hacts j hj⟩⟩, fun h => absurd h (by decide), fun h => absurd h (by decide), hs.1.fr fa (by decide) (by decide), seI.zero (c34.fr f2c (by decide))⟩
end LWT
end
