/-! a case of the law that calls a method of the class, then one of the reference, each by its contract -/
def lw_lo : List (Nat × ai_v) := [(0, (4, 0, 0, 0)), (1, (0, 0, 0, 0)), (2, (0, 49, 0, 0)), (3, (1, 1, 0, 0))]
def lw_en : List ai_e := [(0, 0, false, 0, 0), (0, 2555, false, 1, 0), (0, 0, false, 2, 0), (-2147483648, 2147483647, false, 3, 0), (-2147483648, 2147483647, false, 4, 0), (-2147483648, 2147483647, false, 5, 0), (-2147483648, 2147483647, false, 6, 0), (-2147483648, 2147483647, false, 7, 0)]
def lw_e9 : List ai_e := [(0, 0, false, 0, 0), (0, 2555, false, 1, 0), (0, 0, false, 2, 0), (-2147483648, 2147483647, false, 3, 0), (-2147483648, 2147483647, false, 4, 0), (-2147483648, 2147483647, false, 5, 0), (-2147483648, 2147483647, false, 6, 0), (-2147483648, 2147483647, false, 7, 0), (-2147483648, 2147483647, false, 8, 0)]
def lw_ar (n : Nat) : List ai_v := (List.range n).reverse.map fun o => (1, 4 + o, 0, 0)
def lw_As (sx : Nat → Int32) (i n : Nat) : List Value := (List.range n).map fun o => .int (sx (i + (1 + o)))
/-- the same, but for the order of locals -/
def lw_is (x : ai_s) (pc : Nat) (sk : List ai_v) (en : List ai_e) : Bool := Nat.beq x.1 pc && ((lw_lo.all fun q => decide (ai_get x.2.1 q.1 = some q.2)) && (mm_el mm_ev x.2.2.1 sk && mm_el mm_ee x.2.2.2.1 en))
noncomputable def lw_A (pc i1 n : Nat) : Bool := (ai_ex (hk []) 80 169 tb_m169 11 [i1] (pc, lw_lo, [], lw_en, [], [])).any fun xs => xs.all fun x => lw_is x i1 (lw_ar n ++ [(0, 0, 0, 0)]) lw_en
noncomputable def lw_B (i1 i2 n : Nat) (cmp : Bool) : Bool := (ai_ex (hk []) 80 169 tb_m169 11 [i2] (i1 + 3, lw_lo, [(1, 8, 0, 0)], lw_e9, [], [])).any fun xs => xs.all fun x => lw_is x i2 (lw_ar n ++ (0, 49, 0, 0) :: if cmp = true then [(1, 8, 0, 0)] else []) lw_e9
noncomputable def lw_C (i2 : Nat) (cmp : Bool) : Bool := (ai_ex (hk []) 80 169 tb_m169 11 [1297] (i2 + 3, lw_lo, (1, 8, 0, 0) :: (if cmp = true then [(1, 8, 0, 0)] else []), lw_e9, [], [])).any fun xs => xs.all fun x => lw_is x 1297 [] lw_e9
section LW2
variable {ad : List Nat} {p : Program} {l : Launch} {e : Env} {R : Room} {s : State} {m : MethodId} {args : Array Value} {below : List Frame} {meth : Method} {c : Code} {D : va_G} {tys : ai_ty} {A : Nat → Prop} {b L : Nat} {sx : Nat → Int32} {cells slots : Nat} {Q : State → Prop}
def lw_r (sx : Nat → Int32) (i : Nat) : List Int := [0, (i : Int), 0, (sx i).toInt, (sx (i + 1)).toInt, (sx (i + 2)).toInt, (sx (i + 3)).toInt, (sx (i + 4)).toInt]
theorem lw_rAt {i o : Nat} (ho : o < 4) {rr : List Int} : (lw_r sx i ++ rr)[4 + o]? = some (sx (i + (1 + o))).toInt := match o, ho with
  | 0, _ => rfl
  | 1, _ => rfl
  | 2, _ => rfl
  | 3, _ => rfl
  | o + 4, h => absurd h (by omega)
theorem lw_sx {i : Nat} {rr : List Int} (hi : i + 5 ≤ L) : ai_sx L sx (lw_r sx i ++ rr) := fun z hz => by
  cases hz
  refine ⟨⟨by show (0 : Int) ≤ i; omega, by show (i : Int) + 4 < L; omega⟩, fun o ho => ?_⟩
  match o, ho with
  | 0, _ => rfl
  | 1, _ => rfl
  | 2, _ => rfl
  | 3, _ => rfl
  | 4, _ => rfl
  | o + 5, ho => omega
theorem lw_loK {i q0 q49 : Nat} {rr : List Int} (hi : i < 2147483648) (e0 : ad[0]? = some q0) (e49 : ad[49]? = some q49) : ai_lo ad b (lw_r sx i ++ rr) lw_lo [(0, .ref b), (1, .ref q0), (2, .ref q49), (3, .int (nI i))] := by
  have hiI : (nI i).toInt = (i : Int) := nI_toInt (by omega)
  exact ⟨rfl, Or.inr (Or.inr (Or.inr (Or.inr ⟨rfl, rfl⟩))), rfl, Or.inl ⟨rfl, q0, e0, rfl⟩, rfl, Or.inl ⟨rfl, q49, e49, rfl⟩, rfl, Or.inr (Or.inl ⟨rfl, _, _, rfl, rfl, by rw [hiI]; show (i : Int) = (i : Int) + 0; omega⟩), trivial⟩
theorem lw_args_ok {i : Nat} {r : List Int} {t : List ai_v} (hr : ∀ o, o < 4 → r[4 + o]? = some (sx (i + (1 + o))).toInt) : ∀ {N : List Nat} {sk : List Value}, (∀ o ∈ N, o < 4) → ai_sk ad b r (N.map (fun o => ((1, 4 + o, 0, 0) : ai_v)) ++ t) sk → ∃ sk2, sk = N.map (fun o => Value.int (sx (i + (1 + o)))) ++ sk2 ∧ ai_sk ad b r t sk2
  | [], sk, _, h => ⟨sk, rfl, h⟩
  | o :: N, sk, ho, h => by
    obtain ⟨x, ys, rfl, h1, h2⟩ := ai_sk.cons h
    obtain ⟨sk2, rfl, h3⟩ := lw_args_ok hr (N := N) (fun o' h' => ho o' (List.mem_cons_of_mem _ h')) h2
    obtain ⟨z, rfl, hz⟩ := dvn h1 (hr o (ho o List.mem_cons_self))
    refine ⟨sk2, ?_, h3⟩
    have : z = sx (i + (1 + o)) := Int32.toInt_inj.mp (by omega)
    subst this
    rfl
/-- a stretch of the law that writes nothing -/
theorem lw_seg {i q0 q49 n : Nat} {pc pc' : Nat} {sk sk2 : List ai_v} {en : List ai_e} {rr : List Int} {sv : List Value} {ws : va_W} (C : ai_cx tb_m169 11 p R s m args c D tys A b L sx cells slots) (e0 : ad[0]? = some q0) (e49 : ad[49]? = some q49) (hi : i + 5 ≤ L) (hL : L ≤ 2560) (hw : ai_wd tb_TY ad tys ws)
    (hrun : ((ai_ex (hk []) 80 169 tb_m169 11 [n] (pc, lw_lo, sk, en, [], [])).any fun xs => xs.all fun x => lw_is x pc' sk2 en) = true) (hok : ai_ok (lw_r sx i ++ rr) en) (hsk : ai_sk ad b (lw_r sx i ++ rr) sk sv)
    (k : ∀ (r' : List Int) (sv' : List Value) (ws' : va_W), ai_x (lw_r sx i ++ rr) r' → ai_sk ad b r' sk2 sv' → ai_wd tb_TY ad tys ws' → ai_fr [] ws ws' → hG tb_m169 p l e R s m args below meth c D A cells slots Q pc' [(0, .ref b), (1, .ref q0), (2, .ref q49), (3, .int (nI i))] sv' ws') : hG tb_m169 p l e R s m args below meth c D A cells slots Q pc [(0, .ref b), (1, .ref q0), (2, .ref q49), (3, .int (nI i))] sv ws := by
  obtain ⟨xs, y1, y2⟩ := ai_anyE hrun
  refine hseg (st := (pc, lw_lo, sk, en, [], [])) y1 rfl C ⟨hok, sb0, lw_loK (by omega) e0 e49, hsk, hw, k0, fun _ _ _ _ h => h, fun _ => lw_sx hi⟩ (fun x hx r' lv' sk' ws' hx' g' => ?_)
  obtain ⟨g1, g2, g3, g4, g5, g6, g7, g8⟩ := g'
  have hc := List.all_eq_true.mp y2 x hx
  unfold lw_is at hc
  rw [Bool.and_eq_true, Bool.and_eq_true, Bool.and_eq_true] at hc
  obtain ⟨c1, c2, c3, c4⟩ := hc
  rw [mm_el_ok mm_ev_ok c3] at g4
  rw [ai_beq.mp c1]
  obtain ⟨lv2, l1, l2⟩ := lo_pick g3 lw_lo c2
  have hlv : lv2 = [(0, .ref b), (1, .ref q0), (2, .ref q49), (3, .int (nI i))] := by
    cases lv2 with
    | nil => exact l1.elim
    | cons y0 ys =>
      obtain ⟨h1, h2, h3⟩ := l1
      obtain ⟨lv3, rfl, pz1⟩ := lo_ref e0 h3
      obtain ⟨lv4, rfl, pz2⟩ := lo_ref e49 pz1
      obtain ⟨z, lv5, rfl, d1, pz3⟩ := lo_int rfl pz2
      cases lo_nil pz3
      unfold vn at d1
      rw [nm_x hx' (k := 1) rfl] at d1
      have hiI : (nI i).toInt = (i : Int) := nI_toInt (by omega)
      have hz : z = nI i := Int32.toInt_inj.mp (by dsimp only at d1; omega)
      subst hz
      obtain ⟨y1, y2⟩ := y0
      cases h1
      rcases h2 with ⟨q, -⟩ | ⟨q, -⟩ | ⟨q, -⟩ | ⟨q, -⟩ | ⟨-, q⟩
      · exact absurd (show (4 : Nat) = _ from q) (by decide)
      · exact absurd (show (4 : Nat) = _ from q) (by decide)
      · exact absurd (show (4 : Nat) = _ from q) (by decide)
      · exact absurd (show (4 : Nat) = _ from q) (by decide)
      · rw [show y2 = Value.ref b from q]
  subst hlv
  intro H locs ls hP hD hS hl
  exact k r' sk' ws' hx' g4 g5 g7 H locs ls hP hD hS ⟨hl.1, hl.2.1, fun q hq => hl.2.2 q (l2 q hq)⟩
theorem law2 {pc i1 i2 n i q0 q49 : Nat} {cmp : Bool} {q1 q2 : ai_l5} {M1 M2 : ai_m} {rets1 rets2 : List Nat} {P1 : va_W → Int32 → Prop} {P2 : va_W → Int32 → va_W → Int32 → Prop} {ws : va_W} (C : ai_cx tb_m169 11 p R s m args c D tys A b L sx cells slots) (e0 : ad[0]? = some q0) (e49 : ad[49]? = some q49) (hi : i + 5 ≤ L) (hL : L ≤ 2560) (hw : ai_wd tb_TY ad tys ws) (hn : n ≤ 4)
    (hA : lw_A pc i1 n = true) (hB : lw_B i1 i2 n cmp = true) (hC : lw_C i2 cmp = true)
    (d1 : decode tb_m169.2.1 i1 = .ok (.invokevirtual q1.1, 3)) (l1 : ai_lok tb_MT tb_m169.1.cls q1) (q10 : q1.2.1 = 0) (q1n : q1.2.2.2.1 = n) (m1 : tb_MT[q1.2.2.1]? = some M1) (s1 : M1.2.2.2.2.1 = false) (ml1 : M1.2.2.1 ≤ 17) (mw1 : (lg_sl (.ref q0 :: lw_As sx i n)).length ≤ M1.2.2.1) (mr1 : M1.2.2.2.1 = some .int) (t1 : q1.2.2.2.2 = 5)
    (d2 : decode tb_m169.2.1 i2 = .ok (.invokevirtual q2.1, 3)) (l2 : ai_lok tb_MT tb_m169.1.cls q2) (q20 : q2.2.1 = 0) (q2n : q2.2.2.2.1 = n) (m2 : tb_MT[q2.2.2.1]? = some M2) (s2 : M2.2.2.2.2.1 = false) (ml2 : M2.2.2.1 ≤ 17) (mw2 : (lg_sl (.ref q49 :: lw_As sx i n)).length ≤ M2.2.2.1) (mr2 : M2.2.2.2.1 = some .int) (t2 : q2.2.2.2.2 = 6)
    (r1 : ∀ pcr ∈ rets1, decode M1.2.1 pcr = .ok (.ireturn, 1)) (r2 : ∀ pcr ∈ rets2, decode M2.2.1 pcr = .ok (.ireturn, 1))
    (c1 : ∀ {p : Program} {e : Env} {R : Room} {s : State} {m : MethodId} {args : Array Value} {below : List Frame} {meth : Method} {c : Code} {Q : State → Prop} (w : va_W), ai_wd tb_TY ad tys w → ai_fr [] ws w → ai_cx M1 10 p R s m args c D tys A b L sx 0 0 → (∀ (pcr : Nat) (ws' : va_W) (z : Int32) (lv' : List (Nat × Value)), pcr ∈ rets1 → P1 ws' z → hG M1 p l e R s m args below meth c D A 0 0 Q pcr lv' [.int z] ws') → hG M1 p l e R s m args below meth c D A 0 0 Q 0 (lv_args 0 (.ref q0 :: lw_As sx i n)) [] w)
    (w1 : ∀ wa z1, P1 wa z1 → ai_wd tb_TY ad tys wa)
    (c2 : ∀ {p : Program} {e : Env} {R : Room} {s : State} {m : MethodId} {args : Array Value} {below : List Frame} {meth : Method} {c : Code} {Q : State → Prop} (wa : va_W) (z1 : Int32) (w : va_W), P1 wa z1 → ai_wd tb_TY ad tys w → ai_fr [] wa w → ai_cx M2 10 p R s m args c D tys A b L sx 0 0 → (∀ (pcr : Nat) (ws' : va_W) (z : Int32) (lv' : List (Nat × Value)), pcr ∈ rets2 → P2 wa z1 ws' z → hG M2 p l e R s m args below meth c D A 0 0 Q pcr lv' [.int z] ws') → hG M2 p l e R s m args below meth c D A 0 0 Q 0 (lv_args 0 (.ref q49 :: lw_As sx i n)) [] w)
    (w2 : ∀ wa z1 wb z2, P1 wa z1 → P2 wa z1 wb z2 → ai_wd tb_TY ad tys wb ∧ (cmp = true → z1 = z2))
    (k : ∀ wa z1 wb z2 wc, P1 wa z1 → P2 wa z1 wb z2 → ai_wd tb_TY ad tys wc → ai_fr [] wb wc → hG tb_m169 p l e R s m args below meth c D A cells slots Q 1297 [(0, .ref b), (1, .ref q0), (2, .ref q49), (3, .int (nI i))] [] wc) :
    hG tb_m169 p l e R s m args below meth c D A cells slots Q pc [(0, .ref b), (1, .ref q0), (2, .ref q49), (3, .int (nI i))] [] ws := by
  have bx : ∀ o, -2147483648 ≤ (sx o).toInt ∧ (sx o).toInt ≤ 2147483647 := fun o => ai_irg (sx o)
  have b0 := bx i
  have b1 := bx (i + 1)
  have b2 := bx (i + 2)
  have b3 := bx (i + 3)
  have b4 := bx (i + 4)
  have ok8 : ai_ok (lw_r sx i ++ []) lw_en := en_mk (by simp only [lw_r, lw_en, List.append_nil, en_b, and_true]; omega) rfl
  have ok9 : ∀ z : Int32, ai_ok (lw_r sx i ++ [z.toInt]) lw_e9 := fun z => by
    have bz := ai_irg z
    exact en_mk (by simp only [lw_r, lw_e9, List.cons_append, List.nil_append, en_b, and_true]; omega) rfl
  have rev : ((List.range n).map fun o => Value.int (sx (i + (1 + o)))).reverse = (List.range n).reverse.map fun o => Value.int (sx (i + (1 + o))) := by rw [List.map_reverse]
  have mem : ∀ o ∈ (List.range n).reverse, o < 4 := fun o ho => by
    have := List.mem_range.mp (List.mem_reverse.mp ho)
    omega
  refine lw_seg (rr := []) C e0 e49 hi hL hw hA ok8 trivial (fun r' sv' wA hx' hsk hwA hfA => ?_)
  obtain ⟨sk2, rfl, h2⟩ := lw_args_ok (fun o ho => hx'.at (lw_rAt ho)) mem hsk
  obtain ⟨xr, ys, rfl, dr, h3⟩ := ai_sk.cons h2
  cases ai_sk.nil h3
  have er := ref_of e0 dr
  subst er
  rw [← rev]
  refine hcallI (q := q1) (M' := M1) (cl := 0) (a := q0) (As := lw_As sx i n) (rest := []) (rets := rets1) (P := P1) C (by decide) d1 l1 q10 (by rw [q1n]; unfold lw_As; rw [List.length_map, List.length_range]) m1 s1 ml1 mw1 mr1 rfl rfl (by rw [t1]) hwA e0 (by decide) r1 (fun C2 kk => c1 wA hwA hfA C2 kk) (fun wa z1 hP1 => ?_)
  refine lw_seg (rr := [z1.toInt]) C e0 e49 hi hL (w1 wa z1 hP1) hB (ok9 z1) ⟨int_dv (z := z1.toInt) rfl (by omega), trivial⟩ (fun r' sv' wB hx' hsk hwB hfB => ?_)
  obtain ⟨sk2, rfl, h2⟩ := lw_args_ok (fun o ho => hx'.at (lw_rAt ho)) mem hsk
  obtain ⟨xr, ys, rfl, dr, h3⟩ := ai_sk.cons h2
  have er := ref_of e49 dr
  subst er
  obtain ⟨rest, hrest, hys⟩ : ∃ rest : List Value, ys = rest ∧ ((cmp = true ∧ rest = [.int z1]) ∨ (cmp = false ∧ rest = [])) := by
    refine ⟨ys, rfl, ?_⟩
    cases cmp with
    | true =>
      rw [if_pos rfl] at h3
      obtain ⟨x8, ys8, rfl, d8, h4⟩ := ai_sk.cons h3
      cases ai_sk.nil h4
      obtain ⟨z8, rfl, hz8⟩ := dvn d8 (hx'.at (k := 8) rfl)
      rw [Int32.toInt_inj.mp (show z8.toInt = z1.toInt by omega)]
      exact Or.inl ⟨rfl, rfl⟩
    | false =>
      rw [if_neg (by decide)] at h3
      exact Or.inr ⟨rfl, ai_sk.nil h3⟩
  subst hrest
  rw [← rev]
  refine hcallI (q := q2) (M' := M2) (cl := 49) (a := q49) (As := lw_As sx i n) (rest := ys) (rets := rets2) (P := P2 wa z1) C (by decide) d2 l2 q20 (by rw [q2n]; unfold lw_As; rw [List.length_map, List.length_range]) m2 s2 ml2 mw2 mr2 rfl rfl (by rw [t2]) hwB e49 (by rcases hys with ⟨-, rfl⟩ | ⟨-, rfl⟩ <;> exact Nat.le_of_ble_eq_true rfl) r2 (fun C2 kk => c2 wa z1 wB hP1 hwB hfB C2 kk) (fun wb z2 hP2 => ?_)
  obtain ⟨hwb, hcmp⟩ := w2 wa z1 wb z2 hP1 hP2
  refine lw_seg (rr := [z2.toInt]) (sk := (1, 8, 0, 0) :: (if cmp = true then [(1, 8, 0, 0)] else [])) C e0 e49 hi hL hwb hC (ok9 z2) ⟨int_dv (z := z2.toInt) rfl (by omega), ?_⟩ (fun r' sv' wC hx' hsk hwC hfC => ?_)
  · rcases hys with ⟨rfl, rfl⟩ | ⟨rfl, rfl⟩
    · rw [if_pos rfl, hcmp rfl]
      exact ⟨int_dv (z := z2.toInt) rfl (by omega), trivial⟩
    · rw [if_neg (by decide)]
      trivial
  · cases ai_sk.nil hsk
    exact k wa z1 wb z2 wC hP1 hP2 hwC hfC
end LW2
theorem lr_feedA : lw_A 196 202 1 = true := by decide +kernel
theorem lr_feedB : lw_B 202 212 1 false = true := by decide +kernel
theorem lr_feedC : lw_C 212 false = true := by decide +kernel
theorem lr_textA : lw_A 242 243 0 = true := by decide +kernel
theorem lr_textB : lw_B 243 248 0 false = true := by decide +kernel
theorem lr_textC : lw_C 248 false = true := by decide +kernel
theorem lr_pullA : lw_A 482 488 1 = true := by decide +kernel
theorem lr_pullB : lw_B 488 498 1 false = true := by decide +kernel
theorem lr_pullC : lw_C 498 false = true := by decide +kernel
theorem lr_restA : lw_A 505 511 1 = true := by decide +kernel
theorem lr_restB : lw_B 511 521 1 false = true := by decide +kernel
theorem lr_restC : lw_C 521 false = true := by decide +kernel
theorem lr_readA : lw_A 1208 1229 4 = true := by decide +kernel
theorem lr_readB : lw_B 1229 1254 4 false = true := by decide +kernel
theorem lr_readC : lw_C 1254 false = true := by decide +kernel
theorem lr_sheetA : lw_A 1122 1138 3 = true := by decide +kernel
theorem lr_sheetB : lw_B 1138 1158 3 false = true := by decide +kernel
theorem lr_sheetC : lw_C 1158 false = true := by decide +kernel
theorem lr_layA : lw_A 1165 1181 3 = true := by decide +kernel
theorem lr_layB : lw_B 1181 1201 3 false = true := by decide +kernel
theorem lr_layC : lw_C 1201 false = true := by decide +kernel
theorem lr_keepA : lw_A 1076 1082 1 = true := by decide +kernel
theorem lr_keepB : lw_B 1082 1092 1 false = true := by decide +kernel
theorem lr_keepC : lw_C 1092 false = true := by decide +kernel
theorem lr_backA : lw_A 1099 1105 1 = true := by decide +kernel
theorem lr_backB : lw_B 1105 1115 1 false = true := by decide +kernel
theorem lr_backC : lw_C 1115 false = true := by decide +kernel
