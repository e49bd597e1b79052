/-! end, forget, see, in the law -/
def lq7 (x : ai_s) (k i : Nat) (v : ai_v) : Bool := decide (ai_lk x.2.2.2.2.1 k i = some v)
def en7_S : List sm_t := [
  (1298, lw_lo, [], [(1, 8, 0, 0), (1, 8, 0, 0)], [(0, 0, false, 0, 0), (0, 2555, false, 1, 0), (0, 0, false, 2, 0), (-2147483648, 2147483647, false, 3, 0), (-2147483648, -1, false, 4, 0), (-2147483648, 2147483647, false, 5, 0), (-2147483648, 2147483647, false, 6, 0), (-2147483648, 2147483647, false, 7, 0), (0, 160, false, 8, 0)], []),
  (1298, lw_lo, [], [(1, 8, 0, 0), (1, 8, 0, 0)], [(0, 0, false, 0, 0), (0, 2555, false, 1, 0), (0, 0, false, 2, 0), (-2147483648, 2147483647, false, 3, 0), (1, 2147483647, false, 4, 0), (-2147483648, 2147483647, false, 5, 0), (-2147483648, 2147483647, false, 6, 0), (-2147483648, 2147483647, false, 7, 0), (0, 160, false, 8, 0)], [(5, 4, 8, 4, 1), (5, 4, 8, 4, 1)]),
  (1298, lw_lo, [], [(1, 4, 0, 0), (1, 4, 0, 0)], [(0, 0, false, 0, 0), (0, 2555, false, 1, 0), (0, 0, false, 2, 0), (-2147483648, 2147483647, false, 3, 0), (0, 160, false, 4, 0), (-2147483648, 2147483647, false, 5, 0), (-2147483648, 2147483647, false, 6, 0), (-2147483648, 2147483647, false, 7, 0), (0, 160, false, 8, 0)], [(4, 4, 8, 4, 1), (4, 4, 8, 4, 1)])]
def en7_en : List ai_e := lw_en ++ [(0, 160, false, 8, 0)]
def en7_W : List (Nat × Nat × Nat) := [(26, 1, 2), (49, 7, 8)]
theorem en7_r : ((ai_ex (hk en7_W) 200 169 tb_m169 11 [1298] (219, lw_lo, [], en7_en, [(26, 1, (1, 8, 0, 0)), (49, 7, (1, 8, 0, 0))], [])).any fun xs => xs.all fun x => en7_S.any fun t => sm_is [(26, 1), (49, 7)] x t) = true := by decide +kernel
def fg7_S : List sm_t := [
  (1298, lw_lo, [], [(1, 8, 0, 0), (1, 8, 0, 0)], [(0, 0, false, 0, 0), (0, 2555, false, 1, 0), (0, 0, false, 2, 0), (-2147483648, 2147483647, false, 3, 0), (-2147483648, -1, false, 4, 0), (-2147483648, 2147483647, false, 5, 0), (-2147483648, 2147483647, false, 6, 0), (-2147483648, 2147483647, false, 7, 0), (0, 6, false, 8, 0)], []),
  (1298, lw_lo, [], [(1, 8, 0, 0), (1, 8, 0, 0)], [(0, 0, false, 0, 0), (0, 2555, false, 1, 0), (0, 0, false, 2, 0), (-2147483648, 2147483647, false, 3, 0), (1, 2147483647, false, 4, 0), (-2147483648, 2147483647, false, 5, 0), (-2147483648, 2147483647, false, 6, 0), (-2147483648, 2147483647, false, 7, 0), (0, 6, false, 8, 0)], [(5, 4, 8, 4, 1), (5, 4, 8, 4, 1)]),
  (1298, lw_lo, [], [(1, 4, 0, 0), (1, 4, 0, 0)], [(0, 0, false, 0, 0), (0, 2555, false, 1, 0), (0, 0, false, 2, 0), (-2147483648, 2147483647, false, 3, 0), (0, 6, false, 4, 0), (-2147483648, 2147483647, false, 5, 0), (-2147483648, 2147483647, false, 6, 0), (-2147483648, 2147483647, false, 7, 0), (0, 6, false, 8, 0)], [(4, 4, 8, 4, 1), (4, 4, 8, 4, 1)])]
def fg7_en : List ai_e := lw_en ++ [(0, 6, false, 8, 0)]
def fg7_W : List (Nat × Nat × Nat) := [(34, 0, 1), (49, 19, 20)]
theorem fg7_r : ((ai_ex (hk fg7_W) 200 169 tb_m169 11 [1298] (902, lw_lo, [], fg7_en, [(34, 0, (1, 8, 0, 0)), (49, 19, (1, 8, 0, 0))], [])).any fun xs => xs.all fun x => fg7_S.any fun t => sm_is [(34, 0), (49, 19)] x t) = true := by decide +kernel
/-- see -/
def se7_W (m : Nat) : List (Nat × Nat × Nat) := [(34, 0, 1), (35, m, m + 1), (36, m, m + 1), (37, m, m + 1), (38, m, m + 1), (49, 19, 20), (55, 4 * m, 4 * m + 4)]
def se7_V : List (Nat × Nat × Nat) := [(34, 0, 1), (35, 0, 6), (36, 0, 6), (37, 0, 6), (38, 0, 6), (49, 19, 20), (55, 0, 24)]
def se8_en (t1 t2 s1 s2 p1 p2 y1 y2 : Int) : List ai_e := [(0, 0, false, 0, 0), (0, 2555, false, 1, 0), (0, 0, false, 2, 0), (-2147483648, 2147483647, false, 3, 0), (t1, t2, false, 4, 0), (s1, s2, false, 5, 0), (p1, p2, false, 6, 0), (y1, y2, false, 7, 0), (0, 4, false, 8, 0)]
def se8_n : List ai_k := [(1, 0, (1, 8, 0, 0)), (49, 1, (1, 8, 0, 0))]
def se8_kn (m : Nat) : List ai_k := (34, 0, (1, 0, 0, (m : Int))) :: (49, 19, (1, 0, 0, (m : Int))) :: se8_n
noncomputable def se8_no (en : List ai_e) (sb : List ai_b) (kn : List ai_k) : Bool := (ai_ex (hk []) 2000 169 tb_m169 11 [1298] (849, lw_lo, [], en, kn, sb)).any fun xs => xs.all lw_un
theorem se8_t1 : se8_no (se8_en (-2147483648) (-1) (-2147483648) 2147483647 (-2147483648) 2147483647 (-2147483648) 2147483647) [] se8_n = true := by decide +kernel
theorem se8_t2 : se8_no (se8_en 0 2147483647 (-2147483648) 2147483647 (-2147483648) 2147483647 (-2147483648) 2147483647) [(5, 4, 8, 4, 0)] se8_n = true := by decide +kernel
theorem se8_s1 : se8_no (se8_en 0 3 (-2147483648) 0 (-2147483648) 2147483647 (-2147483648) 2147483647) [(4, 4, 8, 4, 0)] se8_n = true := by decide +kernel
theorem se8_s2 : se8_no (se8_en 0 3 21 2147483647 (-2147483648) 2147483647 (-2147483648) 2147483647) [(4, 4, 8, 4, 0)] se8_n = true := by decide +kernel
theorem se8_p1 : se8_no (se8_en 0 3 1 20 (-2147483648) (-1) (-2147483648) 2147483647) [(4, 4, 8, 4, 0)] se8_n = true := by decide +kernel
theorem se8_p2 : se8_no (se8_en 0 3 1 20 21 2147483647 (-2147483648) 2147483647) [(4, 4, 8, 4, 0)] se8_n = true := by decide +kernel
theorem se8_y1 : se8_no (se8_en 0 3 1 20 0 20 (-2147483648) (-1)) [(4, 4, 8, 4, 0)] se8_n = true := by decide +kernel
theorem se8_y2 : se8_no (se8_en 0 3 1 20 0 20 21 2147483647) [(4, 4, 8, 4, 0)] se8_n = true := by decide +kernel
theorem se8_full : se8_no (se8_en 0 3 1 20 0 20 0 20) [(4, 4, 8, 4, 0)] (se8_kn 6) = true := by decide +kernel
def se8_ch (m : Nat) (x : ai_s) : Bool := (lq7 x 34 0 (1, 0, 0, (m : Int) + 1) && lq7 x 49 19 (1, 0, 0, (m : Int) + 1)) && ((lq7 x 35 m (1, 4, 0, 0) && (lq7 x 36 m (1, 5, 0, 0) && (lq7 x 37 m (1, 6, 0, 0) && lq7 x 38 m (1, 7, 0, 0)))) && (lq7 x 55 (4 * m) (1, 4, 0, 0) && (lq7 x 55 (4 * m + 1) (1, 5, 0, 0) && (lq7 x 55 (4 * m + 2) (1, 6, 0, 0) && lq7 x 55 (4 * m + 3) (1, 7, 0, 0)))))
noncomputable def se8_r (m : Nat) : Bool := (ai_ex (hk (se7_W m)) 2000 169 tb_m169 11 [1298] (849, lw_lo, [], se8_en 0 3 1 20 0 20 0 20, se8_kn m, [(4, 4, 8, 4, 0)])).any fun xs => xs.all fun x => lw_un x && se8_ch m x
theorem se8_ra : ((List.range 6).all se8_r) = true := by decide +kernel
section LWE
variable {ad : List Nat} {p : Program} {l : Launch} {e : Env} {R : Room} {s : State} {m : MethodId} {args : Array Value} {below : List Frame} {meth : Method} {c : Code} {D : va_G} {tys : ai_ty} {A : Nat → Prop} {b L : Nat} {sx : Nat → Int32} {cells slots : Nat} {Q : State → Prop}
theorem Inv.base {ws ws' : va_W} {W : List (Nat × Nat × Nat)} {t : Nat} {g : Nat → Int} {u q y : Int} {n : Nat} {k0 k1 : Int} {E : Nat → Int} {a : Nat} {P : Nat → Int} (hb : baI ws' t g u q y n k0 k1) (hp : pgI ws 1 0 n E a P) (hi0 : k0 = 1 → imI ws 0 n) (hi1 : k1 = 1 → imI ws 1 n) (hf : ai_fr W ws ws') (hW : (((evw W 1 && nowr W 6) && pgw W 0) && (((evw W 13 && nowr W 18) && pgw W 27) && ((evw W 19 && nowr W 24) && pgw W 54))) = true) (hs : shI ws') : Inv ws' := by
  obtain ⟨wC, wD⟩ := band hW
  obtain ⟨w3, w4⟩ := band wC
  obtain ⟨wE, wF⟩ := band wD
  obtain ⟨w5, w6⟩ := band wE
  obtain ⟨w7, w8⟩ := band wF
  have hn := hb.2.2.2.2.1.2.2
  exact ⟨t, g, u, q, y, n, k0, k1, E, a, P, hb, hp.fr hn hf w3 w4, fun h => (hi0 h).fr hn hf w5 w6, fun h => (hi1 h).fr hn hf w7 w8, hs⟩
/-- a case by a look at its ends -/
theorem lw_ch {i q0 q49 pc N : Nat} {W : List (Nat × Nat × Nat)} {en : List ai_e} {kn : List ai_k} {sb : List ai_b} {rr : List Int} {ws : va_W} {ch : ai_s → Bool} (C : ai_cx tb_m169 11 p R s m args c D tys A b L sx cells slots) (e0 : ad[0]? = some q0) (e49 : ad[49]? = some q49) (hi : i + 5 ≤ L) (hL : L ≤ 2560) (hw : ai_wd tb_TY ad tys ws)
    (hrun : ((ai_ex (hk W) N 169 tb_m169 11 [1298] (pc, lw_lo, [], en, kn, sb)).any fun xs => xs.all fun x => lw_un x && ch x) = true) (hok : ai_ok (lw_r sx i ++ rr) en) (hsb : ai_sb ws (lw_r sx i ++ rr) sb) (hkn : ai_kn ad b (lw_r sx i ++ rr) ws kn)
    (k : ∀ (x : ai_s) (r' : List Int) (ws' : va_W), ch x = true → ai_x (lw_r sx i ++ rr) r' → ai_ok r' x.2.2.2.1 → ai_sb ws r' x.2.2.2.2.2 → ai_wd tb_TY ad tys ws' → ai_kn ad b r' ws' x.2.2.2.2.1 → ai_fr W ws ws' → hG tb_m169 p l e R s m args below meth c D A cells slots Q 1298 [(0, .ref b), (1, .ref q0), (2, .ref q49), (3, .int (nI i))] [] ws') : hG tb_m169 p l e R s m args below meth c D A cells slots Q pc [(0, .ref b), (1, .ref q0), (2, .ref q49), (3, .int (nI i))] [] ws := by
  obtain ⟨xs, y1, y2⟩ := ai_anyE hrun
  refine hseg (st := (pc, lw_lo, [], en, kn, sb)) y1 rfl C ⟨hok, hsb, lw_loK (by omega) e0 e49, trivial, hw, hkn, fun _ _ _ _ h => h, fun _ => lw_sx hi⟩ (fun x hx r' lv' sk' ws' hx' g' => ?_)
  obtain ⟨g1, g2, g3, g4, g5, g6, g7, g8⟩ := g'
  obtain ⟨hc, hch⟩ := band (List.all_eq_true.mp y2 x hx)
  unfold lw_un at hc
  rw [Bool.and_eq_true, Bool.and_eq_true] at hc
  obtain ⟨c1, c2, c3⟩ := hc
  rw [List.isEmpty_iff.mp c2] at g4
  cases g4.nil
  rw [ai_beq.mp c1]
  obtain ⟨lv2, l1, l2⟩ := lo_pick g3 lw_lo c3
  have hlv : lv2 = [(0, .ref b), (1, .ref q0), (2, .ref q49), (3, .int (nI i))] := by
    cases lv2 with
    | nil => exact l1.elim
    | cons y0 ys =>
      obtain ⟨h1, h2, h3⟩ := l1
      obtain ⟨lv3, rfl, pz1⟩ := lo_ref e0 h3
      obtain ⟨lv4, rfl, pz2⟩ := lo_ref e49 pz1
      obtain ⟨z, lv5, rfl, d1, pz3⟩ := lo_int rfl pz2
      cases lo_nil pz3
      unfold vn at d1
      rw [nm_x hx' (k := 1) rfl] at d1
      have hiI : (nI i).toInt = (i : Int) := nI_toInt (by omega)
      have hz : z = nI i := Int32.toInt_inj.mp (by dsimp only at d1; omega)
      subst hz
      obtain ⟨y1, y2⟩ := y0
      cases h1
      rcases h2 with ⟨q, -⟩ | ⟨q, -⟩ | ⟨q, -⟩ | ⟨q, -⟩ | ⟨-, q⟩
      · exact absurd (show (4 : Nat) = _ from q) (by decide)
      · exact absurd (show (4 : Nat) = _ from q) (by decide)
      · exact absurd (show (4 : Nat) = _ from q) (by decide)
      · exact absurd (show (4 : Nat) = _ from q) (by decide)
      · rw [show y2 = Value.ref b from q]
  subst hlv
  intro H locs ls hP hD hS hl
  exact k x r' ws' hch hx' g1 g2 g5 g6 g7 H locs ls hP hD hS ⟨hl.1, hl.2.1, fun q hq => hl.2.2 q (l2 q hq)⟩
theorem lw_end {i q0 q49 : Nat} {ws : va_W} (C : ai_cx tb_m169 11 p R s m args c D tys A b L sx cells slots) (e0 : ad[0]? = some q0) (e49 : ad[49]? = some q49) (hi : i + 5 ≤ L) (hL : L ≤ 2560) (hw : ai_wd tb_TY ad tys ws) (hI : Inv ws)
    (k : ∀ wc, ai_wd tb_TY ad tys wc → Inv wc → hG tb_m169 p l e R s m args below meth c D A cells slots Q 1298 [(0, .ref b), (1, .ref q0), (2, .ref q49), (3, .int (nI i))] [] wc) : hG tb_m169 p l e R s m args below meth c D A cells slots Q 219 [(0, .ref b), (1, .ref q0), (2, .ref q49), (3, .int (nI i))] [] ws := by
  have b0 := ai_irg (sx i)
  have b1 := ai_irg (sx (i + 1))
  have b2 := ai_irg (sx (i + 2))
  have b3 := ai_irg (sx (i + 3))
  have b4 := ai_irg (sx (i + 4))
  obtain ⟨t, g, u, q, y, n, j0, j1, E, a, P, hb, hp, hi0, hi1, hs⟩ := hI
  obtain ⟨⟨⟨v1, v7⟩, ht, hT⟩, ⟨u1, u2⟩, ⟨s1, s2⟩, ⟨y1, y2⟩, ⟨n1, n2, n3⟩, ⟨f1, f2⟩, f3, f4⟩ := hb
  refine lw_sum (rr := [(t : Int)]) C e0 e49 hi hL hw en7_r rfl (en_mk (by simp only [lw_r, en7_en, lw_en, List.cons_append, List.nil_append, en_b, and_true]; omega) rfl) sb0 (kc (v1.kn (n := 8) (t := (t : Int)) rfl (by omega)) (kc (v7.kn (n := 8) (t := (t : Int)) rfl (by omega)) k0)) (fun x hx r' ws' hx' hbb hl hw' hv hf => ?_)
  have h4 := nm_x hx' (k := 4) rfl
  have h8 := nm_x hx' (k := 8) rfl
  have fin : ∀ t' : Nat, t' ≤ t → vi ws' 26 1 t' → vi ws' 49 7 t' → hG tb_m169 p l e R s m args below meth c D A cells slots Q 1298 [(0, .ref b), (1, .ref q0), (2, .ref q49), (3, .int (nI i))] [] ws' := fun t' ha w1 w2 => by
    have hT' := hT.fr ht hw' hf (by decide) (by decide)
    exact k ws' hw' (Inv.base (t := t') (g := g) ⟨⟨⟨w1, w2⟩, by omega, ⟨hT'.1, fun j hj => hT'.2 j (by omega)⟩⟩, ⟨u1.fr hf (by decide), u2.fr hf (by decide)⟩, ⟨s1.fr hf (by decide), s2.fr hf (by decide)⟩, ⟨y1.fr hf (by decide), y2.fr hf (by decide)⟩, ⟨n1.fr hf (by decide), n2.fr hf (by decide), n3⟩, ⟨f1.fr hf (by decide), f2.fr hf (by decide)⟩, f3.fr hf (by decide), f4.fr hf (by decide)⟩ hp hi0 hi1 hf (by decide) (hs.fr hf (by decide) (by decide)))
  unfold en7_S at hx
  rcases List.mem_cons.mp hx with rfl | hx
  · obtain ⟨v1, v2, -⟩ := hv
    exact fin t (Nat.le_refl _) (v1.eq (by dsimp only; omega)) (v2.eq (by dsimp only; omega))
  rcases List.mem_cons.mp hx with rfl | hx
  · obtain ⟨v1, v2, -⟩ := hv
    exact fin t (Nat.le_refl _) (v1.eq (by dsimp only; omega)) (v2.eq (by dsimp only; omega))
  rcases List.mem_cons.mp hx with rfl | hx
  · obtain ⟨v1, v2, -⟩ := hv
    simp (config := { decide := true }) only [bnd_b, lin_b, lin_q, Nat.reduceAdd, Nat.zero_add, Nat.reduceEqDiff, reduceIte, and_true, Int.add_zero] at hbb hl
    exact fin (sx (i + 1)).toInt.toNat (by omega) (v1.eq (by dsimp only; omega)) (v2.eq (by dsimp only; omega))
  · cases hx
theorem lw_forget {i q0 q49 : Nat} {ws : va_W} (C : ai_cx tb_m169 11 p R s m args c D tys A b L sx cells slots) (e0 : ad[0]? = some q0) (e49 : ad[49]? = some q49) (hi : i + 5 ≤ L) (hL : L ≤ 2560) (hw : ai_wd tb_TY ad tys ws) (hI : Inv ws)
    (k : ∀ wc, ai_wd tb_TY ad tys wc → Inv wc → hG tb_m169 p l e R s m args below meth c D A cells slots Q 1298 [(0, .ref b), (1, .ref q0), (2, .ref q49), (3, .int (nI i))] [] wc) : hG tb_m169 p l e R s m args below meth c D A cells slots Q 902 [(0, .ref b), (1, .ref q0), (2, .ref q49), (3, .int (nI i))] [] ws := by
  have b0 := ai_irg (sx i)
  have b1 := ai_irg (sx (i + 1))
  have b2 := ai_irg (sx (i + 2))
  have b3 := ai_irg (sx (i + 3))
  have b4 := ai_irg (sx (i + 4))
  obtain ⟨t, g, u, q, y, n, j0, j1, E, a, P, hb, hp, hi0, hi1, hs⟩ := hI
  obtain ⟨⟨⟨v1, v7⟩, ht, hT⟩, ⟨u1, u2⟩, ⟨s1, s2⟩, ⟨y1, y2⟩, ⟨n1, n2, n3⟩, ⟨f1, f2⟩, f3, f4⟩ := hb
  obtain ⟨hs0, qn, S, sq, sq6, sr⟩ := hs
  have hqq : q = (qn : Int) := by
    obtain ⟨z1, a1, a2⟩ := s1
    obtain ⟨z2, c1, c2⟩ := sq
    have := a1.fun c1
    cases this
    omega
  subst hqq
  refine lw_sum (rr := [(qn : Int)]) C e0 e49 hi hL hw fg7_r rfl (en_mk (by simp only [lw_r, fg7_en, lw_en, List.cons_append, List.nil_append, en_b, and_true]; omega) rfl) sb0 (kc (s1.kn (n := 8) (t := (qn : Int)) rfl (by omega)) (kc (s2.kn (n := 8) (t := (qn : Int)) rfl (by omega)) k0)) (fun x hx r' ws' hx' hbb hl hw' hv hf => ?_)
  have h4 := nm_x hx' (k := 4) rfl
  have h8 := nm_x hx' (k := 8) rfl
  have fin : ∀ q' : Nat, q' ≤ qn → vi ws' 34 0 q' → vi ws' 49 19 q' → hG tb_m169 p l e R s m args below meth c D A cells slots Q 1298 [(0, .ref b), (1, .ref q0), (2, .ref q49), (3, .int (nI i))] [] ws' := fun q' ha w1 w2 => by
    refine k ws' hw' (Inv.base (t := t) (g := g) ⟨⟨⟨v1.fr hf (by decide), v7.fr hf (by decide)⟩, ht, hT.fr ht hw' hf (by decide) (by decide)⟩, ⟨u1.fr hf (by decide), u2.fr hf (by decide)⟩, ⟨w1, w2⟩, ⟨y1.fr hf (by decide), y2.fr hf (by decide)⟩, ⟨n1.fr hf (by decide), n2.fr hf (by decide), n3⟩, ⟨f1.fr hf (by decide), f2.fr hf (by decide)⟩, f3.fr hf (by decide), f4.fr hf (by decide)⟩ hp hi0 hi1 hf (by decide) ⟨hs0.fr hf (by decide) (by decide), q', S, w1, by omega, fun j hj => ⟨(sr j (by omega)).1, fun r hr => ?_⟩⟩)
    obtain ⟨c1, c2⟩ := (sr j (by omega)).2 r hr
    exact ⟨c1.fr hf (wr_no fun x hx => by
      unfold fg7_W at hx
      simp only [List.mem_cons, List.not_mem_nil, or_false] at hx
      rcases hx with rfl | rfl <;> dsimp only <;> omega), c2.fr hf (nowr_ok (c := 55) (by decide) _ _)⟩
  unfold fg7_S at hx
  rcases List.mem_cons.mp hx with rfl | hx
  · obtain ⟨v1, v2, -⟩ := hv
    exact fin qn (Nat.le_refl _) (v1.eq (by dsimp only; omega)) (v2.eq (by dsimp only; omega))
  rcases List.mem_cons.mp hx with rfl | hx
  · obtain ⟨v1, v2, -⟩ := hv
    exact fin qn (Nat.le_refl _) (v1.eq (by dsimp only; omega)) (v2.eq (by dsimp only; omega))
  rcases List.mem_cons.mp hx with rfl | hx
  · obtain ⟨v1, v2, -⟩ := hv
    simp (config := { decide := true }) only [bnd_b, lin_b, lin_q, Nat.reduceAdd, Nat.zero_add, Nat.reduceEqDiff, reduceIte, and_true, Int.add_zero] at hbb hl
    exact fin (sx (i + 1)).toInt.toNat (by omega) (v1.eq (by dsimp only; omega)) (v2.eq (by dsimp only; omega))
  · cases hx
theorem lq7_ok {x : ai_s} {kk j n : Nat} {o z t : Int} {r : List Int} {ws : va_W} (g6 : ai_kn ad b r ws x.2.2.2.2.1) (h : lq7 x kk j (1, n, 0, o) = true) (hr : r[n]? = some z) (ht : t = z + o) : vi ws kk j t := vi.lk g6 (decide_eq_true_eq.mp h) hr ht
theorem se8_sb {tag i : Nat} {n : Int} {ws : va_W} (h : (tag = 4 ∧ (sx (i + 1)).toInt < n) ∨ (tag = 5 ∧ n ≤ (sx (i + 1)).toInt)) : ai_sb ws (lw_r sx i ++ [n]) [(tag, 4, 8, 4, 0)] := fun q hq => by
  rw [List.mem_singleton.mp hq]
  refine ⟨(sx (i + 1)).toInt, n, (sx (i + 1)).toInt, rfl, rfl, rfl, fun h0 => ?_, fun h0 => ?_, fun h0 => ?_, fun h0 => ?_, fun h0 => ?_, fun h0 => ?_⟩
  all_goals dsimp only at h0 ⊢
  all_goals omega
set_option maxRecDepth 20000 in
theorem lw_see {i q0 q49 : Nat} {ws : va_W} (C : ai_cx tb_m169 11 p R s m args c D tys A b L sx cells slots) (e0 : ad[0]? = some q0) (e49 : ad[49]? = some q49) (hi : i + 5 ≤ L) (hL : L ≤ 2560) (hw : ai_wd tb_TY ad tys ws) (hI : Inv ws)
    (k : ∀ wc, ai_wd tb_TY ad tys wc → Inv wc → hG tb_m169 p l e R s m args below meth c D A cells slots Q 1298 [(0, .ref b), (1, .ref q0), (2, .ref q49), (3, .int (nI i))] [] wc) : hG tb_m169 p l e R s m args below meth c D A cells slots Q 849 [(0, .ref b), (1, .ref q0), (2, .ref q49), (3, .int (nI i))] [] ws := by
  have b0 := ai_irg (sx i)
  have b1 := ai_irg (sx (i + 1))
  have b2 := ai_irg (sx (i + 2))
  have b3 := ai_irg (sx (i + 3))
  have b4 := ai_irg (sx (i + 4))
  have hI' := hI
  obtain ⟨t, g, u, q, y, n, j0, j1, E, a, P, hb, hp, hi0, hi1, hs⟩ := hI'
  obtain ⟨⟨⟨v1, v7⟩, ht, hT⟩, ⟨u1, u2⟩, ⟨s1, s2⟩, ⟨y1, y2⟩, ⟨n1, n2, n3⟩, ⟨f1, f2⟩, f3, f4⟩ := hb
  obtain ⟨hs0, qn, S, sq, sq6, sr⟩ := hs
  have hqq : q = (qn : Int) := by
    obtain ⟨z1, a1, a2⟩ := s1
    obtain ⟨z2, c1, c2⟩ := sq
    have := a1.fun c1
    cases this
    omega
  subst hqq
  have kn0 : ai_kn ad b (lw_r sx i ++ [(n : Int)]) ws se8_n := kc (n1.kn (n := 8) (t := (n : Int)) rfl (by omega)) (kc (n2.kn (n := 8) (t := (n : Int)) rfl (by omega)) k0)
  have ok : ∀ {t1 t2 s1 s2 p1 p2 y1 y2 : Int}, (t1 ≤ (sx (i + 1)).toInt ∧ (sx (i + 1)).toInt ≤ t2) → (s1 ≤ (sx (i + 2)).toInt ∧ (sx (i + 2)).toInt ≤ s2) → (p1 ≤ (sx (i + 3)).toInt ∧ (sx (i + 3)).toInt ≤ p2) → (y1 ≤ (sx (i + 4)).toInt ∧ (sx (i + 4)).toInt ≤ y2) → ai_ok (lw_r sx i ++ [(n : Int)]) (se8_en t1 t2 s1 s2 p1 p2 y1 y2) := fun h1 h2 h3 h4 => en_mk (by simp only [lw_r, se8_en, List.cons_append, List.nil_append, en_b, and_true]; omega) rfl
  by_cases c1 : (sx (i + 1)).toInt < 0
  · exact lw_no C e0 e49 hi hL hw hI se8_t1 (ok (by omega) (by omega) (by omega) (by omega)) sb0 kn0 k
  by_cases c2 : (n : Int) ≤ (sx (i + 1)).toInt
  · exact lw_no C e0 e49 hi hL hw hI se8_t2 (ok (by omega) (by omega) (by omega) (by omega)) (se8_sb (Or.inr ⟨rfl, c2⟩)) kn0 k
  have sb4 : ai_sb ws (lw_r sx i ++ [(n : Int)]) [(4, 4, 8, 4, 0)] := se8_sb (Or.inl ⟨rfl, by omega⟩)
  by_cases c3 : (sx (i + 2)).toInt < 1
  · exact lw_no C e0 e49 hi hL hw hI se8_s1 (ok (by omega) (by omega) (by omega) (by omega)) sb4 kn0 k
  by_cases c4 : 20 < (sx (i + 2)).toInt
  · exact lw_no C e0 e49 hi hL hw hI se8_s2 (ok (by omega) (by omega) (by omega) (by omega)) sb4 kn0 k
  by_cases c5 : (sx (i + 3)).toInt < 0
  · exact lw_no C e0 e49 hi hL hw hI se8_p1 (ok (by omega) (by omega) (by omega) (by omega)) sb4 kn0 k
  by_cases c6 : 20 < (sx (i + 3)).toInt
  · exact lw_no C e0 e49 hi hL hw hI se8_p2 (ok (by omega) (by omega) (by omega) (by omega)) sb4 kn0 k
  by_cases c7 : (sx (i + 4)).toInt < 0
  · exact lw_no C e0 e49 hi hL hw hI se8_y1 (ok (by omega) (by omega) (by omega) (by omega)) sb4 kn0 k
  by_cases c8 : 20 < (sx (i + 4)).toInt
  · exact lw_no C e0 e49 hi hL hw hI se8_y2 (ok (by omega) (by omega) (by omega) (by omega)) sb4 kn0 k
  have hok : ai_ok (lw_r sx i ++ [(n : Int)]) (se8_en 0 3 1 20 0 20 0 20) := ok (by omega) (by omega) (by omega) (by omega)
  have hkn : ai_kn ad b (lw_r sx i ++ [(n : Int)]) ws (se8_kn qn) := kc (s1.kn (n := 0) (t := 0) rfl (by omega)) (kc (s2.kn (n := 0) (t := 0) rfl (by omega)) kn0)
  by_cases h6 : qn = 6
  · subst h6
    exact lw_no C e0 e49 hi hL hw hI se8_full hok sb4 hkn k
  refine lw_ch C e0 e49 hi hL hw (List.all_eq_true.mp se8_ra qn (List.mem_range.mpr (by omega))) hok sb4 hkn (fun x r' ws' hch hx' g1 g2 hw' g6 hf => ?_)
  have fV : ai_fr se7_V ws ws' := fr_sub (fun cc j h x hx => by
    have h1 := h (34, 0, 1) (by unfold se7_V; simp)
    have h2 := h (35, 0, 6) (by unfold se7_V; simp)
    have h3 := h (36, 0, 6) (by unfold se7_V; simp)
    have h4 := h (37, 0, 6) (by unfold se7_V; simp)
    have h5 := h (38, 0, 6) (by unfold se7_V; simp)
    have h6 := h (49, 19, 20) (by unfold se7_V; simp)
    have h7 := h (55, 0, 24) (by unfold se7_V; simp)
    dsimp only at h1 h2 h3 h4 h5 h6 h7
    unfold se7_W at hx
    simp only [List.mem_cons, List.not_mem_nil, or_false] at hx
    rcases hx with rfl | rfl | rfl | rfl | rfl | rfl | rfl <;> dsimp only <;> omega) hf
  have old : ∀ {cc j : Nat}, (cc = 35 ∨ cc = 36 ∨ cc = 37 ∨ cc = 38) → j < qn → ai_wr (se7_W qn) cc j j = false := fun {cc j} h1 h2 => wr_no fun x hx => by
    unfold se7_W at hx
    simp only [List.mem_cons, List.not_mem_nil, or_false] at hx
    rcases hx with rfl | rfl | rfl | rfl | rfl | rfl | rfl <;> dsimp only <;> omega
  have old5 : ∀ {j : Nat}, j < 4 * qn → ai_wr (se7_W qn) 55 j j = false := fun {j} h2 => wr_no fun x hx => by
    unfold se7_W at hx
    simp only [List.mem_cons, List.not_mem_nil, or_false] at hx
    rcases hx with rfl | rfl | rfl | rfl | rfl | rfl | rfl <;> dsimp only <;> omega
  have was : ∀ j, j < qn → seB (S j) ∧ ∀ r, r < 4 → vi ws' (35 + r) j (S j r) ∧ vi ws' 55 (4 * j + r) (S j r) := fun j hj => ⟨(sr j hj).1, fun r hr => by
    obtain ⟨c1, c2⟩ := (sr j hj).2 r hr
    exact ⟨c1.fr hf (old (by omega) hj), c2.fr hf (old5 (by omega))⟩⟩
  have r0 : r'[0]? = some 0 := hx'.at rfl
  have r4 : r'[4]? = some (sx (i + 1)).toInt := hx'.at rfl
  have r5 : r'[5]? = some (sx (i + 2)).toInt := hx'.at rfl
  have r6 : r'[6]? = some (sx (i + 3)).toInt := hx'.at rfl
  have r7 : r'[7]? = some (sx (i + 4)).toInt := hx'.at rfl
  refine k ws' hw' ?_
  obtain ⟨hA, hB⟩ := band hch
  obtain ⟨h1, h2⟩ := band hA
  obtain ⟨hC, hE⟩ := band hB
  obtain ⟨m1, hC⟩ := band hC
  obtain ⟨m2, hC⟩ := band hC
  obtain ⟨m3, m4⟩ := band hC
  obtain ⟨o1, hE⟩ := band hE
  obtain ⟨o2, hE⟩ := band hE
  obtain ⟨o3, o4⟩ := band hE
  have w1 := lq7_ok g6 h1 r0 (t := ((qn + 1 : Nat) : Int)) (by omega)
  refine Inv.base (t := t) (g := g) (q := ((qn + 1 : Nat) : Int)) ⟨⟨⟨v1.fr fV (by decide), v7.fr fV (by decide)⟩, ht, hT.fr ht hw' fV (by decide) (by decide)⟩, ⟨u1.fr fV (by decide), u2.fr fV (by decide)⟩, ⟨w1, lq7_ok g6 h2 r0 (by omega)⟩, ⟨y1.fr fV (by decide), y2.fr fV (by decide)⟩, ⟨n1.fr fV (by decide), n2.fr fV (by decide), n3⟩, ⟨f1.fr fV (by decide), f2.fr fV (by decide)⟩, f3.fr fV (by decide), f4.fr fV (by decide)⟩ hp hi0 hi1 fV (by decide) ⟨hs0.fr fV (by decide) (by decide), qn + 1, fun j r => if j = qn then (sx (i + (1 + r))).toInt else S j r, w1, by omega, fun j hj => ?_⟩
  by_cases hjq : j = qn
  · subst hjq
    refine ⟨?_, fun r hr => ?_⟩
    · unfold seB
      simp only [eq_self, if_true]
      exact ⟨⟨by show 0 ≤ (sx (i + 1)).toInt; omega, by show (sx (i + 1)).toInt ≤ 3; omega⟩, ⟨by show 1 ≤ (sx (i + 2)).toInt; omega, by show (sx (i + 2)).toInt ≤ 20; omega⟩, ⟨by show 0 ≤ (sx (i + 3)).toInt; omega, by show (sx (i + 3)).toInt ≤ 20; omega⟩, by show 0 ≤ (sx (i + 4)).toInt; omega, by show (sx (i + 4)).toInt ≤ 20; omega⟩
    · simp only [eq_self, if_true]
      match r, hr with
      | 0, _ => exact ⟨lq7_ok g6 m1 r4 (by rw [show i + (1 + 0) = i + 1 from rfl]; omega), lq7_ok g6 o1 r4 (by rw [show i + (1 + 0) = i + 1 from rfl]; omega)⟩
      | 1, _ => exact ⟨lq7_ok g6 m2 r5 (by rw [show i + (1 + 1) = i + 2 from rfl]; omega), lq7_ok g6 o2 r5 (by rw [show i + (1 + 1) = i + 2 from rfl]; omega)⟩
      | 2, _ => exact ⟨lq7_ok g6 m3 r6 (by rw [show i + (1 + 2) = i + 3 from rfl]; omega), lq7_ok g6 o3 r6 (by rw [show i + (1 + 2) = i + 3 from rfl]; omega)⟩
      | 3, _ => exact ⟨lq7_ok g6 m4 r7 (by rw [show i + (1 + 3) = i + 4 from rfl]; omega), lq7_ok g6 o4 r7 (by rw [show i + (1 + 3) = i + 4 from rfl]; omega)⟩
      | r + 4, h => exact absurd h (by omega)
  · obtain ⟨c1, c2⟩ := was j (by omega)
    refine ⟨?_, fun r hr => ?_⟩
    · unfold seB at c1 ⊢
      simp only [if_neg hjq]
      exact c1
    · dsimp only
      rw [if_neg hjq]
      exact c2 r hr
end LWE
