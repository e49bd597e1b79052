/-! the walk for cases that only read: nothing that is tied is written -/
def tb_WR7 : List (Nat × Nat × Nat) := [(7, 0, 9), (8, 0, 4), (9, 0, 4), (10, 0, 4), (11, 0, 4), (12, 0, 8), (39, 0, 9), (40, 0, 200), (49, 17, 18), (50, 81, 162)]
def tb_K7 : ai_K := (tb_TY, tb_WR7, tb_MT, tb_SP, tb_su, tb_MG)
theorem su7_ok : ai_SU tb_K7 := by
  intro mid d cu st xs M hq hM w0 ad p l e R s m args below meth c D tys A b L sx cells slots Q r0 C k
  dsimp only at hq
  split at hq
  · rename_i hg
    rw [Bool.and_eq_true] at hg
    exact su4_old (ai_beq.mp hg.1) (Nat.le_of_ble_eq_true hg.2) hM C hq k
  · cases hq
noncomputable def m7_x (ms : List mm_e) (n : Nat) : ai_R := Nat.rec (fun _ _ _ _ _ => none) (fun _ rec => mm_b tb_K7 ms rec) n
def m7_ok (e : mm_e) : Prop := ai_SR tb_TY tb_WR7 tb_MT (fun mid _ d _ st => if (Nat.beq e.1 mid && Nat.ble e.2.1 d && mm_es e.2.2.1 st) = true then some e.2.2.2 else none)
theorem m7_x_ok {ms : List mm_e} (hms : ∀ e ∈ ms, m7_ok e) : ∀ n, ai_SR tb_TY tb_WR7 tb_MT (m7_x ms n)
  | 0 => fun mid d cu st ys M hq => by cases hq
  | n + 1 => by
    intro mid d cu st ys M hq hM w0 ad p l e R s m args below meth c D tys A b L sx cells slots Q r0 C k
    have hq : mm_b tb_K7 ms (m7_x ms n) mid M d cu st = some ys := hq
    unfold mm_b at hq
    rw [ai_norm_eq] at hq
    unfold mm_b0 at hq
    split at hq
    · rename_i xs hx
      injection hq with hq
      subst hq
      unfold mm_f at hx
      obtain ⟨e1, he, rfl⟩ := Option.map_eq_some_iff.mp hx
      have h1 := List.find?_some he
      have h2 := List.mem_of_find?_eq_some he
      simp only [Bool.and_eq_true, decide_eq_true_eq] at h1
      exact hms e1 h2 mid d cu st _ M (if_pos (by simp only [Bool.and_eq_true]; exact ⟨⟨h1.1.1.2, h1.1.2⟩, h1.2⟩)) hM C k
    · exact ai_body_ok (K := tb_K7) su7_ok (m7_x_ok hms n) tv_MT mid d cu st ys M (by unfold ai_body; rw [ai_norm_eq]; exact hq) hM C k
noncomputable def m7_c (ms : List mm_e) (cu : List Nat) (M : ai_m) (e : mm_e) : Bool := (m7_x ms 5000 e.1 M e.2.1 cu e.2.2.1).any fun xs => mm_el mm_es xs e.2.2.2
theorem m7_mk {ms : List mm_e} {cu : List Nat} {M : ai_m} {e : mm_e} (hms : ∀ e ∈ ms, m7_ok e) (hM : tb_MT[e.1]? = some M) (h : m7_c ms cu M e = true) : m7_ok e := by
  intro mid d cu' st ys M' hq hM' w0 ad p l en R s m args below meth c D tys A b L sx cells slots Q r0 C k
  dsimp only at hq
  split at hq
  · rename_i hc
    simp only [Bool.and_eq_true] at hc
    have hd := Nat.le_of_ble_eq_true hc.1.2
    have h3 := ai_beq.mp hc.1.1
    subst h3
    have h4 := mm_es_ok hc.2
    subst h4
    injection hq with hq
    subst hq
    rw [hM] at hM'
    injection hM' with hM'
    subst hM'
    unfold m7_c at h
    obtain ⟨xs, h1, h2⟩ := ai_anyE h
    have h2 := mm_el_ok mm_es_ok h2
    subst h2
    exact m7_x_ok hms 5000 e.1 e.2.1 cu e.2.2.1 _ M h1 hM (mm_cx hd C) k
  · cases hq
/-- an end's bounds and knowledge, by what is other than at the beginning: places kept, dropped, new -/
def mm_d {α : Type} : List (Nat × α) → Nat → List α → List α → List α
  | _, _, [], nw => nw
  | [], _, x :: l, nw => x :: mm_d [] 0 l nw
  | (i, y) :: c, n, x :: l, nw => if Nat.beq i n = true then y :: mm_d c (n + 1) l nw else x :: mm_d ((i, y) :: c) (n + 1) l nw
def mm_k {α : Type} : List Nat → Nat → List α → List α
  | _, _, [] => []
  | [], _, x :: l => x :: l
  | i :: c, n, x :: l => if Nat.beq i n = true then mm_k c (n + 1) l else x :: mm_k (i :: c) (n + 1) l
def mm_n (s : ai_s) (pc : Nat) (lo : List (Nat × ai_v)) (sk : List ai_v) (ch : List (Nat × ai_e)) (nw : List ai_e) (kf : List ai_k) (kd : List Nat) (sb : List ai_b) : ai_s := (pc, lo, sk, mm_d ch 0 s.2.2.2.1 nw, kf ++ mm_k kd 0 s.2.2.2.2.1, sb)
/-! the head of a round; a case that only reads -/
def r7_cut : List Nat := [196, 219, 242, 255, 268, 291, 324, 347, 390, 413, 436, 459, 482, 505, 528, 551, 574, 597, 630, 663, 696, 719, 742, 795, 848, 901, 924, 947, 980, 1033, 1076, 1099, 1122, 1165, 1208, 1261, 1274, 1297]
def r7_hd (x : ai_s) : Bool := (r7_cut.any fun q => Nat.beq q x.1) && (x.2.2.1.isEmpty && lw_lo.all fun q => decide (ai_get x.2.1 q.1 = some q.2))
theorem r7_head : ((ai_ex (hk []) 300 169 tb_m169 11 r7_cut (26, lw_lo, [], lw_en, [], [])).any fun xs => xs.all r7_hd) = true := by decide +kernel
def r7_st (pc : Nat) : ai_s := (pc, lw_lo, [], lw_en, [], [])
noncomputable def r7_case (ms : List mm_e) (pc : Nat) : Bool := (m7_x ms 5000 169 tb_m169 11 [1297] (r7_st pc)).any fun ys => ys.all lw_un
def r7_alls : Prop := ∀ pc ∈ ([255, 268, 291, 324, 528, 551, 574, 597, 630, 663, 719, 742, 795, 924, 947, 980, 1033, 1261, 1274, 1297] : List Nat), ∃ ms : List mm_e, (∀ e ∈ ms, m7_ok e) ∧ r7_case ms pc = true
section RD7
variable {ad : List Nat} {p : Program} {l : Launch} {e : Env} {R : Room} {s : State} {m : MethodId} {args : Array Value} {below : List Frame} {meth : Method} {c : Code} {D : va_G} {tys : ai_ty} {A : Nat → Prop} {b L : Nat} {sx : Nat → Int32} {cells slots : Nat} {Q : State → Prop}
/-- the law's locals again -/
theorem lw_lv {i q0 q49 : Nat} {rr r' : List Int} {lo : List (Nat × ai_v)} {lv' : List (Nat × Value)} (hi : i + 5 ≤ L) (hL : L ≤ 2560) (e0 : ad[0]? = some q0) (e49 : ad[49]? = some q49) (hx' : ai_x (lw_r sx i ++ rr) r') (g3 : ai_lo ad b r' lo lv') (c3 : (lw_lo.all fun q => decide (ai_get lo q.1 = some q.2)) = true) : ∀ q ∈ ([(0, .ref b), (1, .ref q0), (2, .ref q49), (3, .int (nI i))] : List (Nat × Value)), q ∈ lv' := by
  obtain ⟨lv2, l1, l2⟩ := lo_pick g3 lw_lo c3
  have hlv : lv2 = [(0, .ref b), (1, .ref q0), (2, .ref q49), (3, .int (nI i))] := by
    cases lv2 with
    | nil => exact l1.elim
    | cons y0 ys =>
      obtain ⟨h1, h2, h3⟩ := l1
      obtain ⟨lv3, rfl, pz1⟩ := lo_ref e0 h3
      obtain ⟨lv4, rfl, pz2⟩ := lo_ref e49 pz1
      obtain ⟨z, lv5, rfl, d1, pz3⟩ := lo_int rfl pz2
      cases lo_nil pz3
      unfold vn at d1
      rw [nm_x hx' (k := 1) rfl] at d1
      have hiI : (nI i).toInt = (i : Int) := nI_toInt (by omega)
      have hz : z = nI i := Int32.toInt_inj.mp (by dsimp only at d1; omega)
      subst hz
      obtain ⟨y1, y2⟩ := y0
      cases h1
      rcases h2 with ⟨q, -⟩ | ⟨q, -⟩ | ⟨q, -⟩ | ⟨q, -⟩ | ⟨-, q⟩
      · exact absurd (show (4 : Nat) = _ from q) (by decide)
      · exact absurd (show (4 : Nat) = _ from q) (by decide)
      · exact absurd (show (4 : Nat) = _ from q) (by decide)
      · exact absurd (show (4 : Nat) = _ from q) (by decide)
      · rw [show y2 = Value.ref b from q]
  subst hlv
  exact l2
theorem lw_head {i q0 q49 : Nat} {ws : va_W} (C : ai_cx tb_m169 11 p R s m args c D tys A b L sx cells slots) (e0 : ad[0]? = some q0) (e49 : ad[49]? = some q49) (hi : i + 5 ≤ L) (hL : L ≤ 2560) (hw : ai_wd tb_TY ad tys ws) (hI : Inv ws)
    (k : ∀ pc ∈ r7_cut, ∀ wc, ai_wd tb_TY ad tys wc → Inv wc → hG tb_m169 p l e R s m args below meth c D A cells slots Q pc [(0, .ref b), (1, .ref q0), (2, .ref q49), (3, .int (nI i))] [] wc) : hG tb_m169 p l e R s m args below meth c D A cells slots Q 26 [(0, .ref b), (1, .ref q0), (2, .ref q49), (3, .int (nI i))] [] ws := by
  have b0 := ai_irg (sx i)
  have b1 := ai_irg (sx (i + 1))
  have b2 := ai_irg (sx (i + 2))
  have b3 := ai_irg (sx (i + 3))
  have b4 := ai_irg (sx (i + 4))
  obtain ⟨xs, y1, y2⟩ := ai_anyE r7_head
  refine hseg (st := (26, lw_lo, [], lw_en, [], [])) (r := lw_r sx i ++ []) y1 rfl C ⟨en_mk (by simp only [lw_r, lw_en, List.append_nil, en_b, and_true]; omega) rfl, sb0, lw_loK (by omega) e0 e49, trivial, hw, k0, fun _ _ _ _ h => h, fun _ => lw_sx hi⟩ (fun x hx r' lv' sk' ws' hx' g' => ?_)
  obtain ⟨g1, g2, g3, g4, g5, g6, g7, g8⟩ := g'
  have hc := List.all_eq_true.mp y2 x hx
  unfold r7_hd at hc
  rw [Bool.and_eq_true, Bool.and_eq_true] at hc
  obtain ⟨c1, c2, c3⟩ := hc
  rw [List.isEmpty_iff.mp c2] at g4
  cases g4.nil
  obtain ⟨pc, hpc, he⟩ := List.any_eq_true.mp c1
  rw [← ai_beq.mp he]
  have l2 := lw_lv hi hL e0 e49 hx' g3 c3
  intro H locs ls hP hD hS hl
  exact k pc hpc ws' g5 (hI.fr0 g5 g7) H locs ls hP hD hS ⟨hl.1, hl.2.1, fun q hq => hl.2.2 q (l2 q hq)⟩
/-- all that is tied stays -/
theorem Inv.rd {ws ws' : va_W} (h : Inv ws) (hw' : ai_wd tb_TY ad tys ws') (hf : ai_fr tb_WR7 ws ws') : Inv ws' := by
  obtain ⟨t, g, u, q, y, n, k0, k1, E, a, P, hb, hp, hi0, hi1, hs⟩ := h
  have hn := hb.2.2.2.2.1.2.2
  exact ⟨t, g, u, q, y, n, k0, k1, E, a, P, hb.fr hw' hf (by decide) (by decide), hp.fr hn hf (by decide) (by decide), fun h => (hi0 h).fr hn hf (by decide) (by decide), fun h => (hi1 h).fr hn hf (by decide) (by decide), hs.fr hf (by decide) (by decide)⟩
theorem lw_rd {i q0 q49 pc : Nat} {ws : va_W} (hall : r7_alls) (hpc : pc ∈ ([255, 268, 291, 324, 528, 551, 574, 597, 630, 663, 719, 742, 795, 924, 947, 980, 1033, 1261, 1274, 1297] : List Nat)) (C : ai_cx tb_m169 11 p R s m args c D tys A b L sx cells slots) (e0 : ad[0]? = some q0) (e49 : ad[49]? = some q49) (hi : i + 5 ≤ L) (hL : L ≤ 2560) (hw : ai_wd tb_TY ad tys ws) (hI : Inv ws)
    (k : ∀ wc, ai_wd tb_TY ad tys wc → Inv wc → hG tb_m169 p l e R s m args below meth c D A cells slots Q 1297 [(0, .ref b), (1, .ref q0), (2, .ref q49), (3, .int (nI i))] [] wc) : hG tb_m169 p l e R s m args below meth c D A cells slots Q pc [(0, .ref b), (1, .ref q0), (2, .ref q49), (3, .int (nI i))] [] ws := by
  have b0 := ai_irg (sx i)
  have b1 := ai_irg (sx (i + 1))
  have b2 := ai_irg (sx (i + 2))
  have b3 := ai_irg (sx (i + 3))
  have b4 := ai_irg (sx (i + 4))
  obtain ⟨ms, hms, hc⟩ := hall pc hpc
  obtain ⟨ys, a5, a6⟩ := ai_anyE hc
  intro H locs ls hP hD hS hl
  refine m7_x_ok hms 5000 169 11 [1297] (r7_st pc) ys tb_m169 a5 rfl (w0 := ws) (r0 := lw_r sx i ++ []) (ad := ad) C (fun x hx r' lv' sk' ws' H' locs' ls' hx' g' hP' hD' hS' hl' => ?_) (lw_r sx i ++ []) [(0, .ref b), (1, .ref q0), (2, .ref q49), (3, .int (nI i))] [] ws H locs ls ai_x.rf ⟨en_mk (by simp only [r7_st, lw_r, lw_en, List.append_nil, en_b, and_true]; omega) rfl, sb0, lw_loK (by omega) e0 e49, trivial, hw, k0, fun _ _ _ _ h => h, fun _ => lw_sx hi⟩ hP hD hS hl
  obtain ⟨g1, g2, g3, g4, g5, g6, g7, g8⟩ := g'
  have hc := List.all_eq_true.mp a6 x hx
  unfold lw_un at hc
  rw [Bool.and_eq_true, Bool.and_eq_true] at hc
  obtain ⟨c1, c2, c3⟩ := hc
  rw [List.isEmpty_iff.mp c2] at g4
  cases g4.nil
  rw [ai_beq.mp c1]
  have l2 := lw_lv hi hL e0 e49 hx' g3 c3
  exact k ws' g5 (hI.rd g5 g7) H' locs' ls' hP' hD' hS' ⟨hl'.1, hl'.2.1, fun q hq => hl'.2.2 q (l2 q hq)⟩
end RD7
