section
/-! feed of class and reference, and in the law -/
section HSB
variable {ad : List Nat} {M : ai_m} {d : Nat} {p : Program} {l : Launch} {e : Env} {R : Room} {s : State} {m : MethodId} {args : Array Value} {below : List Frame} {meth : Method} {c : Code} {D : va_G} {tys : ai_ty} {A : Nat → Prop} {b L : Nat} {sx : Nat → Int32} {cells slots : Nat} {Q : State → Prop}
theorem hastB {pc c0 n a : Nat} {lo hi : Int} {ws : va_W} {v i : Int32} {rest : List Value} {lv : List (Nat × Value)} (C : ai_cx M d p R s m args c D tys A b L sx cells slots) (hd : decode M.2.1 pc = .ok (.iastore, 1)) (hT : tb_TY[c0]? = some (1, n, [(1, 0, lo, hi)])) (hw : ai_wd tb_TY ad tys ws) (ha : ad[c0]? = some a) (h0 : 0 ≤ i.toInt) (hn : i.toInt < n) (hv : lo ≤ v.toInt ∧ v.toInt ≤ hi)
    (k : ∀ ws', ai_wd tb_TY ad tys ws' → ai_fr [(c0, i.toInt.toNat, i.toInt.toNat + 1)] ws ws' → vi ws' c0 i.toInt.toNat v.toInt → hG M p l e R s m args below meth c D A cells slots Q (pc + 1) lv rest ws') : hG M p l e R s m args below meth c D A cells slots Q pc lv (.int v :: .int i :: .ref a :: rest) ws := by
  intro H locs ls hP hD hS hl
  obtain ⟨a', e', w1, w2, w3⟩ := hw.get hT
  cases Option.some.inj (ha.symm.trans w2)
  rcases w3 with ⟨z, -⟩ | ⟨-, cA, f, rfl, ⟨t0, ht0⟩, h5⟩ | ⟨z, -⟩ | ⟨z, -⟩
  · exact absurd (id z : (1 : Nat) = 0) (by decide)
  · have hin : vp_in i n := vp_in_iff.mpr ⟨h0, hn⟩
    have ei : i.toNatClampNeg = i.toInt.toNat := by
      have e : (i.toNatClampNeg : Int) = i.toInt := by
        rw [Int32.toNatClampNeg]
        omega
      omega
    have hw' : ai_wd tb_TY ad tys (ws.set c0 (a, .inl (cA, n, .inl (upd f i.toNatClampNeg v)))) := hw.set hT w1 (Or.inr (Or.inl ⟨Or.inl rfl, cA, _, rfl, ⟨t0, ht0⟩, fun j q hj hq => by
      have h6 := h5 j q hj hq
      have hq2 : q = (1, 0, lo, hi) := by
        unfold ai_pt at hq
        have hq : [((1 : Nat), (0 : Nat), lo, hi)][j % 1]? = some q := hq
        rw [Nat.mod_one] at hq
        cases hq
        rfl
      subst hq2
      show lo ≤ (upd f i.toNatClampNeg v j).toInt ∧ (upd f i.toNatClampNeg v j).toInt ≤ hi
      by_cases hji : j = i.toNatClampNeg
      · have e1 : upd f i.toNatClampNeg v j = v := by
          show (if j = i.toNatClampNeg then v else f j) = v
          rw [if_pos hji]
        rw [e1]
        exact hv
      · have e1 : upd f i.toNatClampNeg v j = f j := by
          show (if j = i.toNatClampNeg then v else f j) = f j
          rw [if_neg hji]
        rw [e1]
        exact h6⟩))
    refine va_iast C.1 C.2.1 C.2.2.2.2.2.2.1 hP hD hS c0 t0 w1 ht0 hin hd (fun H1 locs1 hP1 hD1 hS1 => k _ hw' (fun c' i' x hwr hsl => ai_sl.setA (j := 0) w1 hsl (fun hc hi' => ?_)) ⟨v, ⟨a, _, List.getElem?_set_self (List.getElem?_eq_some_iff.mp w1).1, Or.inr (Or.inl ⟨cA, n, _, rfl, by omega, ?_⟩)⟩, rfl⟩ H1 locs1 ls hP1 hD1 hS1 hl)
    · subst hc
      refine pk_un (fun hh => ?_)
      have : ai_wr [(c', i.toInt.toNat, i.toInt.toNat + 1)] c' i' i' = true := by
        unfold ai_wr
        refine List.any_eq_true.mpr ⟨_, List.mem_singleton.mpr rfl, ?_⟩
        simp only [Bool.and_eq_true, Bool.or_eq_true, decide_eq_true_eq]
        exact ⟨⟨Or.inl trivial, by omega⟩, by omega⟩
      rw [this] at hwr
      cases hwr
    · rw [ei]
      show Value.int v = .int (if i.toInt.toNat = i.toInt.toNat then v else f i.toInt.toNat)
      rw [if_pos rfl]
  · exact absurd (id z : (1 : Nat) = 3) (by decide)
  · exact absurd (id z : (1 : Nat) = 4) (by decide)
end HSB
/-- one int: a number of bounds; a second name -/
def s1_lo (cl : Nat) : List (Nat × ai_v) := [(0, (0, cl, 0, 0)), (1, (1, 2, 0, 0))]
def s1_en (l1 h1 l2 h2 : Int) : List ai_e := [(0, 0, false, 0, 0), (0, 2555, false, 1, 0), (l1, h1, false, 2, 0), (l2, h2, false, 3, 0)]
theorem wr_f : ((ai_ex (hk []) 40 24 tb_m24 9 [21] (0, s1_lo 26, [], s1_en 0 127 160 160, [(26, 1, (1, 3, 0, 0))], [])).any fun xs => xs.all (s3_is 11 0)) = true := by decide +kernel
theorem wr_1 : ((ai_ex (hk []) 40 24 tb_m24 9 [21] (0, s1_lo 26, [], s1_en 0 127 0 159, [(26, 1, (1, 3, 0, 0))], [])).any fun xs => xs.all fun x => ([(21, s1_lo 26, [(1, 2, 0, 0), (1, 3, 0, 0), (0, 27, 0, 0)], [], s1_en 0 127 0 159, [])] : List sm_t).any fun t => sm_is [] x t) = true := by decide +kernel
theorem wr_2 : ((ai_ex (hk [(26, 1, 2)]) 40 24 tb_m24 9 [] (22, s1_lo 26, [], s1_en 0 127 0 159, [(26, 1, (1, 3, 0, 0))], [])).any fun xs => xs.all fun x => ([(33, [], [(1, 0, 0, 1)], [(1, 3, 0, 1)], s1_en 0 127 0 159, [])] : List sm_t).any fun t => sm_is [(26, 1)] x t) = true := by decide +kernel
theorem fdc_b1 : ((ai_ex (hk []) 60 46 tb_m46 10 [17] (0, s1_lo 0, [], s1_en (-2147483648) (-1) 0 160, [], [])).any fun xs => xs.all (s3_is 11 (-1))) = true := by decide +kernel
theorem fdc_b2 : ((ai_ex (hk []) 60 46 tb_m46 10 [17] (0, s1_lo 0, [], s1_en 128 2147483647 0 160, [], [])).any fun xs => xs.all (s3_is 11 (-1))) = true := by decide +kernel
theorem fdm_b1 : ((ai_ex (hk []) 60 99 tb_m99 10 [36] (0, s1_lo 49, [], s1_en (-2147483648) (-1) 0 160, [], [])).any fun xs => xs.all (s3_is 13 (-1))) = true := by decide +kernel
theorem fdm_b2 : ((ai_ex (hk []) 60 99 tb_m99 10 [36] (0, s1_lo 49, [], s1_en 128 2147483647 0 160, [], [])).any fun xs => xs.all (s3_is 13 (-1))) = true := by decide +kernel
theorem fdc_1 : ((ai_ex (hk []) 60 46 tb_m46 10 [17] (0, s1_lo 0, [], s1_en 0 127 0 160, [], [])).any fun xs => xs.all fun x => ([(17, s1_lo 0, [(1, 2, 0, 0), (0, 26, 0, 0)], [], s1_en 0 127 0 160, [])] : List sm_t).any fun t => sm_is [] x t) = true := by decide +kernel
theorem fdc_2 : ((ai_ex (hk []) 60 46 tb_m46 10 [] (20, s1_lo 0, [(1, 0, 0, 0)], s1_en 0 127 0 160, [], [])).any fun xs => xs.all (s3_is 35 (-3))) = true := by decide +kernel
theorem fdc_3 : ((ai_ex (hk []) 60 46 tb_m46 10 [] (20, s1_lo 0, [(1, 0, 0, 1)], s1_en 0 127 1 160, [(26, 1, (1, 3, 0, 0))], [])).any fun xs => xs.all fun x => ([(35, [], [(1, 3, 0, 0)], [], s1_en 0 127 1 160, [])] : List sm_t).any fun t => sm_is [] x t) = true := by decide +kernel
theorem fdm_f : ((ai_ex (hk []) 60 99 tb_m99 10 [36] (0, s1_lo 49, [], s1_en 0 127 160 160, [(49, 7, (1, 3, 0, 0))], [])).any fun xs => xs.all (s3_is 26 (-3))) = true := by decide +kernel
theorem fdm_1 : ((ai_ex (hk []) 60 99 tb_m99 10 [36] (0, s1_lo 49, [], s1_en 0 127 0 159, [(49, 7, (1, 3, 0, 0))], [])).any fun xs => xs.all fun x => ([(36, s1_lo 49, [(1, 2, 0, 0), (1, 3, 0, 0), (0, 52, 0, 0)], [], s1_en 0 127 0 159, [(140, 3, 0, 3, 160)])] : List sm_t).any fun t => sm_is [] x t) = true := by decide +kernel
theorem fdm_2 : ((ai_ex (hk [(49, 7, 8)]) 60 99 tb_m99 10 [] (37, s1_lo 49, [], s1_en 0 127 0 159, [(49, 7, (1, 3, 0, 0))], [])).any fun xs => xs.all fun x => ([(51, [], [(1, 3, 0, 1)], [(1, 3, 0, 1)], s1_en 0 127 0 159, [])] : List sm_t).any fun t => sm_is [(49, 7)] x t) = true := by decide +kernel
section FDC
variable {ad : List Nat} {M : ai_m} {d : Nat} {p : Program} {l : Launch} {e : Env} {R : Room} {s : State} {m : MethodId} {args : Array Value} {below : List Frame} {meth : Method} {c : Code} {D : va_G} {tys : ai_ty} {A : Nat → Prop} {b L : Nat} {sx : Nat → Int32} {cells slots : Nat} {Q : State → Prop}
theorem s1_ok {z : Int32} {y l1 h1 l2 h2 : Int} (a1 : l1 ≤ z.toInt ∧ z.toInt ≤ h1) (a2 : l2 ≤ y ∧ y ≤ h2) : ai_ok [0, 0, z.toInt, y] (s1_en l1 h1 l2 h2) := en_mk (by simp only [s1_en, en_b, and_true]; omega) rfl
theorem s1_l {a cl : Nat} {z : Int32} {y : Int} (ha : ad[cl]? = some a) : ai_lo ad b [0, 0, z.toInt, y] (s1_lo cl) [(0, .ref a), (1, .int z)] := ⟨rfl, Or.inl ⟨rfl, a, ha, rfl⟩, rfl, int_dv (z := z.toInt) rfl (by omega), trivial⟩
theorem s1_un {r' : List Int} {lv' : List (Nat × Value)} {a cl : Nat} {z : Int32} {y : Int} (ha : ad[cl]? = some a) (hx' : ai_x [0, 0, z.toInt, y] r') (hlo : ai_lo ad b r' (s1_lo cl) lv') : lv' = [(0, .ref a), (1, .int z)] := by
  obtain ⟨lv1, rfl, pz1⟩ := lo_ref ha hlo
  obtain ⟨y1, lv2, rfl, d1, pz2⟩ := lo_int rfl pz1
  cases lo_nil pz2
  unfold vn at d1
  rw [nm_x hx' (k := 2) rfl] at d1
  dsimp only at d1
  rw [Int32.toInt_inj.mp (show y1.toInt = z.toInt by omega)]
/-- an answer at once -/
theorem s1_ret {mid cl a N pc pcb : Nat} {cut : List Nat} {zr y l1 h1 l2 h2 : Int} {sk : List ai_v} {skv : List Value} {kn : List ai_k} {z : Int32} {ws : va_W} (hM : tb_MT[mid]? = some M) (hsc : M.2.2.2.2.1 = false) (C : ai_cx M d p R s m args c D tys A b L sx cells slots) (hw : ai_wd tb_TY ad tys ws) (ha : ad[cl]? = some a) (hrun : ((ai_ex (hk []) N mid M d cut (pc, s1_lo cl, sk, s1_en l1 h1 l2 h2, kn, [])).any fun xs => xs.all (s3_is pcb zr)) = true) (a1 : l1 ≤ z.toInt ∧ z.toInt ≤ h1) (a2 : l2 ≤ y ∧ y ≤ h2) (hsk : ai_sk ad b [0, 0, z.toInt, y] sk skv) (hkn : ai_kn ad b [0, 0, z.toInt, y] ws kn)
    (k : ∀ (ws' : va_W) (z' : Int32) (lv' : List (Nat × Value)), ai_wd tb_TY ad tys ws' → ai_fr [] ws ws' → z'.toInt = zr → hG M p l e R s m args below meth c D A cells slots Q pcb lv' [.int z'] ws') : hG M p l e R s m args below meth c D A cells slots Q pc [(0, .ref a), (1, .int z)] skv ws := by
  obtain ⟨xs, y1, y2⟩ := ai_anyE hrun
  refine hseg (st := (pc, s1_lo cl, sk, s1_en l1 h1 l2 h2, kn, [])) y1 hM C ⟨s1_ok a1 a2, sb0, s1_l ha, hsk, hw, hkn, fun _ _ _ _ h => h, fun h => by rw [hsc] at h; cases h⟩ (fun x hx r' lv' sk' ws' hx' g' => ?_)
  obtain ⟨g1, g2, g3, g4, g5, g6, g7, g8⟩ := g'
  have hb := List.all_eq_true.mp y2 x hx
  unfold s3_is at hb
  rw [Bool.and_eq_true, ai_beq, decide_eq_true_eq] at hb
  rw [hb.2] at g4
  obtain ⟨i, rfl, hi⟩ := sk1 rfl g4
  rw [hb.1]
  refine k ws' i lv' g5 g7 ?_
  rw [hi]
  unfold vn
  rw [nm_x hx' (k := 0) rfl]
  show 0 + zr = zr
  omega
def wr_P (ad : List Nat) (tys : ai_ty) (t : Nat) (v : Int) (ws ws' : va_W) (z' : Int32) : Prop := ai_wd tb_TY ad tys ws' ∧ ((t = 160 ∧ ai_fr [] ws ws' ∧ z'.toInt = 0) ∨ (t < 160 ∧ ai_fr [(26, 1, 2), (27, t, t + 1)] ws ws' ∧ vi ws' 26 1 (t + 1 : Nat) ∧ vi ws' 27 t v ∧ z'.toInt = 1))
theorem wr_all {a a27 t : Nat} {z : Int32} {ws : va_W} (C : ai_cx tb_m24 9 p R s m args c D tys A b L sx cells slots) (hw : ai_wd tb_TY ad tys ws) (ha : ad[26]? = some a) (ha27 : ad[27]? = some a27) (ht : t ≤ 160) (hz : 0 ≤ z.toInt ∧ z.toInt ≤ 127) (h26 : vi ws 26 1 t)
    (kk : ∀ (pcr : Nat) (ws' : va_W) (z' : Int32) (lv' : List (Nat × Value)), pcr ∈ [11, 33] → wr_P ad tys t z.toInt ws ws' z' → hG tb_m24 p l e R s m args below meth c D A cells slots Q pcr lv' [.int z'] ws') : hG tb_m24 p l e R s m args below meth c D A cells slots Q 0 [(0, .ref a), (1, .int z)] [] ws := by
  have n0 : ∀ {u v : va_W} {Wx : List (Nat × Nat × Nat)}, ai_fr [] u v → ai_fr Wx u v := fun h => fr_sub (V := []) (fun _ _ _ q hq => by cases hq) h
  by_cases h160 : t = 160
  · subst h160
    exact s1_ret (y := 160) rfl rfl C hw ha wr_f (by omega) (by omega) trivial (kc (h26.kn (n := 3) (t := 160) rfl (by omega)) k0) (fun ws' z' lv' h1 h2 h3 => kk 11 ws' z' lv' (by decide) ⟨h1, Or.inl ⟨rfl, h2, h3⟩⟩)
  have ht' : t < 160 := by omega
  refine hsum (st := (0, s1_lo 26, [], s1_en 0 127 0 159, [(26, 1, (1, 3, 0, 0))], [])) wr_1 rfl C (r := [0, 0, z.toInt, (t : Int)]) ⟨s1_ok hz (by omega), sb0, s1_l ha, trivial, hw, kc (h26.kn (n := 3) (t := (t : Int)) rfl (by omega)) k0, fun _ _ _ _ h => h, fun h => by cases h⟩ (fun x hx r' lv' sk' ws1 hx' hb hl hs hlo hsk hw1 hv' hf1 _ => ?_)
  rw [List.mem_singleton.mp hx] at hlo hsk ⊢
  have e1 := s1_un ha hx' hlo
  subst e1
  obtain ⟨x1, s1, rfl, d1, g4⟩ := hsk.cons
  obtain ⟨x2, s2, rfl, d2, g5⟩ := g4.cons
  obtain ⟨x3, s3, rfl, d3, g6⟩ := g5.cons
  cases g6.nil
  obtain ⟨y1, rfl, t1⟩ := dvn d1 (hx'.at (k := 2) rfl)
  obtain ⟨y2, rfl, t2⟩ := dvn d2 (hx'.at (k := 3) rfl)
  have f3 := ref_of ha27 d3
  subst f3
  have hyt : y2.toInt.toNat = t := by omega
  refine hastB (pc := 21) (c0 := 27) (n := 160) (lo := 0) (hi := 127) C (tv_m24.1.1.1 (21, .iastore, 1) (List.mem_of_getElem? (i := 11) rfl)) rfl hw1 ha27 (by omega) (by omega) (by omega) (fun ws2 hw2 hf2 v2 => ?_)
  rw [hyt] at hf2 v2
  have h26' : vi ws2 26 1 t := (h26.fr hf1 rfl).fr hf2 (wr_no fun q hq => by
    rw [List.mem_singleton.mp hq]
    dsimp only
    omega)
  refine hsum (st := (22, s1_lo 26, [], s1_en 0 127 0 159, [(26, 1, (1, 3, 0, 0))], [])) wr_2 rfl C (r := [0, 0, z.toInt, (t : Int)]) ⟨s1_ok hz (by omega), sb0, s1_l ha, trivial, hw2, kc (h26'.kn (n := 3) (t := (t : Int)) rfl (by omega)) k0, fun _ _ _ _ h => h, fun h => by cases h⟩ (fun x hx r3 lv3 sk3 ws3 hx3 hb3 hl3 hs3 hlo3 hsk3 hw3 hv3 hf3 _ => ?_)
  have hx4 := List.mem_singleton.mp hx
  subst hx4
  obtain ⟨zz, rfl, hzz⟩ := sk1 rfl hsk3
  unfold vn at hzz
  rw [nm_x hx3 (k := 0) rfl] at hzz
  dsimp only at hzz
  obtain ⟨w26, -⟩ := hv3
  refine kk 33 ws3 zz lv3 (by decide) ⟨hw3, Or.inr ⟨ht', ((n0 hf1).tr (fr_sub (fun cc j h q hq => ?_) hf2)).tr (fr_sub (fun cc j h q hq => ?_) hf3), w26.eq (by rw [nm_x hx3 (k := 3) rfl]; dsimp only; omega), (v2.eq (by omega)).fr hf3 rfl, by omega⟩⟩
  · have h1 := h (27, t, t + 1) (by simp)
    rw [List.mem_singleton.mp hq]
    dsimp only at h1 ⊢
    omega
  · have h1 := h (26, 1, 2) (by simp)
    rw [List.mem_singleton.mp hq]
    dsimp only at h1 ⊢
    omega
def fdc_P (ad : List Nat) (tys : ai_ty) (t : Nat) (v : Int) (ws ws' : va_W) (z' : Int32) : Prop := ai_wd tb_TY ad tys ws' ∧ ((t = 160 ∧ ai_fr [] ws ws' ∧ z'.toInt = -3) ∨ (t < 160 ∧ ai_fr [(26, 1, 2), (27, t, t + 1)] ws ws' ∧ vi ws' 26 1 (t + 1 : Nat) ∧ vi ws' 27 t v ∧ z'.toInt = t + 1))
theorem fdc_all {a a26 a27 t : Nat} {z : Int32} {ws : va_W} (C : ai_cx tb_m46 10 p R s m args c D tys A b L sx cells slots) (hw : ai_wd tb_TY ad tys ws) (ha : ad[0]? = some a) (ha26 : ad[26]? = some a26) (ha27 : ad[27]? = some a27) (ht : t ≤ 160) (hz : 0 ≤ z.toInt ∧ z.toInt ≤ 127) (h26 : vi ws 26 1 t)
    (kk : ∀ (ws' : va_W) (z' : Int32) (lv' : List (Nat × Value)), fdc_P ad tys t z.toInt ws ws' z' → hG tb_m46 p l e R s m args below meth c D A cells slots Q 35 lv' [.int z'] ws') : hG tb_m46 p l e R s m args below meth c D A cells slots Q 0 [(0, .ref a), (1, .int z)] [] ws := by
  have n0 : ∀ {u v : va_W} {Wx : List (Nat × Nat × Nat)}, ai_fr [] u v → ai_fr Wx u v := fun h => fr_sub (V := []) (fun _ _ _ q hq => by cases hq) h
  refine hsum (st := (0, s1_lo 0, [], s1_en 0 127 0 160, [], [])) fdc_1 rfl C (r := [0, 0, z.toInt, (t : Int)]) ⟨s1_ok hz (by omega), sb0, s1_l ha, trivial, hw, k0, fun _ _ _ _ h => h, fun h => by cases h⟩ (fun x hx r' lv' sk' ws1 hx' hb hl hs hlo hsk hw1 hv' hf1 _ => ?_)
  rw [List.mem_singleton.mp hx] at hlo hsk ⊢
  have e1 := s1_un ha hx' hlo
  subst e1
  obtain ⟨x1, s1, rfl, d1, g4⟩ := hsk.cons
  obtain ⟨x2, s2, rfl, d2, g5⟩ := g4.cons
  cases g5.nil
  obtain ⟨y1, rfl, t1⟩ := dvn d1 (hx'.at (k := 2) rfl)
  have f2 := ref_of ha26 d2
  subst f2
  have q1 : y1 = z := Int32.toInt_inj.mp (by omega)
  subst q1
  refine hcallZ (q := (61, 0, 24, 1, 2)) (M' := tb_m24) (cl := 26) (a := a26) (As := [.int y1]) (rest := []) (rets := [11, 33]) (P := wr_P ad tys t y1.toInt ws1) C (by decide) (tv_m46.1.1.1 (17, .invokevirtual 61, 3) (List.mem_of_getElem? (i := 10) rfl)) (tv_m46.2 _ (List.mem_of_getElem? (i := 1) rfl)) rfl rfl rfl rfl (by decide) (Nat.le_of_ble_eq_true rfl) rfl rfl rfl rfl hw1 ha26 (by decide) ?_ ?_ ?_ ?_
  · intro pcr hp
    rcases List.mem_cons.mp hp with rfl | hp
    · exact tv_m24.1.1.1 (11, .ireturn, 1) (List.mem_of_getElem? (i := 5) rfl)
    · rw [List.mem_singleton.mp hp]
      exact tv_m24.1.1.1 (33, .ireturn, 1) (List.mem_of_getElem? (i := 19) rfl)
  · intro w z' hP
    rcases hP.2 with ⟨-, -, h⟩ | ⟨-, -, -, -, h⟩
    · exact Or.inl (Int32.toInt_inj.mp h)
    · exact Or.inr (Int32.toInt_inj.mp h)
  · intro p2 e2 R2 s2 m2 args2 below2 meth2 c2 Q2 C2 kk2
    exact wr_all C2 hw1 ha26 ha27 ht hz (h26.fr hf1 rfl) kk2
  · intro ws2 z2 hP
    obtain ⟨hw2, hP⟩ := hP
    rcases hP with ⟨p1, p2, p3⟩ | ⟨p1, p2, p3, p4, p5⟩
    · exact s1_ret (y := 0) rfl rfl C hw2 ha fdc_2 hz (by omega) ⟨int_dv (z := 0) rfl (by omega), trivial⟩ k0 (fun ws' z' lv' h1 h2 h3 => kk ws' z' lv' ⟨h1, Or.inl ⟨p1, (hf1.tr p2).tr h2, h3⟩⟩)
    · refine hsum (st := (20, s1_lo 0, [(1, 0, 0, 1)], s1_en 0 127 1 160, [(26, 1, (1, 3, 0, 0))], [])) fdc_3 rfl C (r := [0, 0, y1.toInt, ((t + 1 : Nat) : Int)]) ⟨s1_ok hz (by omega), sb0, s1_l ha, ⟨int_dv (z := 0) rfl (by omega), trivial⟩, hw2, kc (p3.kn (n := 3) (t := ((t + 1 : Nat) : Int)) rfl (by omega)) k0, fun _ _ _ _ h => h, fun h => by cases h⟩ (fun x hx r3 lv3 sk3 ws3 hx3 hb3 hl3 hs3 hlo3 hsk3 hw3 hv3 hf3 _ => ?_)
      have hx4 := List.mem_singleton.mp hx
      subst hx4
      obtain ⟨zz, rfl, hzz⟩ := sk1 rfl hsk3
      unfold vn at hzz
      rw [nm_x hx3 (k := 3) rfl] at hzz
      dsimp only at hzz
      exact kk ws3 zz lv3 ⟨hw3, Or.inr ⟨p1, ((n0 hf1).tr p2).tr (n0 hf3), p3.fr hf3 rfl, p4.fr hf3 rfl, by omega⟩⟩
def fdm_P (ad : List Nat) (tys : ai_ty) (t : Nat) (v : Int) (ws ws' : va_W) (z' : Int32) : Prop := ai_wd tb_TY ad tys ws' ∧ ((t = 160 ∧ ai_fr [] ws ws' ∧ z'.toInt = -3) ∨ (t < 160 ∧ ai_fr [(49, 7, 8), (52, t, t + 1)] ws ws' ∧ vi ws' 49 7 (t + 1 : Nat) ∧ vi ws' 52 t v ∧ z'.toInt = t + 1))
theorem fdm_all {a a52 t : Nat} {z : Int32} {ws : va_W} (C : ai_cx tb_m99 10 p R s m args c D tys A b L sx cells slots) (hw : ai_wd tb_TY ad tys ws) (ha : ad[49]? = some a) (ha52 : ad[52]? = some a52) (ht : t ≤ 160) (hz : 0 ≤ z.toInt ∧ z.toInt ≤ 127) (h49 : vi ws 49 7 t)
    (kk : ∀ (pcr : Nat) (ws' : va_W) (z' : Int32) (lv' : List (Nat × Value)), pcr ∈ [13, 26, 51] → fdm_P ad tys t z.toInt ws ws' z' → hG tb_m99 p l e R s m args below meth c D A cells slots Q pcr lv' [.int z'] ws') : hG tb_m99 p l e R s m args below meth c D A cells slots Q 0 [(0, .ref a), (1, .int z)] [] ws := by
  have n0 : ∀ {u v : va_W} {Wx : List (Nat × Nat × Nat)}, ai_fr [] u v → ai_fr Wx u v := fun h => fr_sub (V := []) (fun _ _ _ q hq => by cases hq) h
  by_cases h160 : t = 160
  · subst h160
    exact s1_ret (y := 160) rfl rfl C hw ha fdm_f hz (by omega) trivial (kc (h49.kn (n := 3) (t := 160) rfl (by omega)) k0) (fun ws' z' lv' h1 h2 h3 => kk 26 ws' z' lv' (by decide) ⟨h1, Or.inl ⟨rfl, h2, h3⟩⟩)
  have ht' : t < 160 := by omega
  refine hsum (st := (0, s1_lo 49, [], s1_en 0 127 0 159, [(49, 7, (1, 3, 0, 0))], [])) fdm_1 rfl C (r := [0, 0, z.toInt, (t : Int)]) ⟨s1_ok hz (by omega), sb0, s1_l ha, trivial, hw, kc (h49.kn (n := 3) (t := (t : Int)) rfl (by omega)) k0, fun _ _ _ _ h => h, fun h => by cases h⟩ (fun x hx r' lv' sk' ws1 hx' hb hl hs hlo hsk hw1 hv' hf1 _ => ?_)
  rw [List.mem_singleton.mp hx] at hlo hsk ⊢
  have e1 := s1_un ha hx' hlo
  subst e1
  obtain ⟨x1, s1, rfl, d1, g4⟩ := hsk.cons
  obtain ⟨x2, s2, rfl, d2, g5⟩ := g4.cons
  obtain ⟨x3, s3, rfl, d3, g6⟩ := g5.cons
  cases g6.nil
  obtain ⟨y1, rfl, t1⟩ := dvn d1 (hx'.at (k := 2) rfl)
  obtain ⟨y2, rfl, t2⟩ := dvn d2 (hx'.at (k := 3) rfl)
  have f3 := ref_of ha52 d3
  subst f3
  have hyt : y2.toInt.toNat = t := by omega
  refine hastB (pc := 36) (c0 := 52) (n := 160) (lo := 0) (hi := 127) C (tv_m99.1.1.1 (36, .iastore, 1) (List.mem_of_getElem? (i := 19) rfl)) rfl hw1 ha52 (by omega) (by omega) (by omega) (fun ws2 hw2 hf2 v2 => ?_)
  rw [hyt] at hf2 v2
  have h49' : vi ws2 49 7 t := (h49.fr hf1 rfl).fr hf2 (wr_no fun q hq => by
    rw [List.mem_singleton.mp hq]
    dsimp only
    omega)
  refine hsum (st := (37, s1_lo 49, [], s1_en 0 127 0 159, [(49, 7, (1, 3, 0, 0))], [])) fdm_2 rfl C (r := [0, 0, z.toInt, (t : Int)]) ⟨s1_ok hz (by omega), sb0, s1_l ha, trivial, hw2, kc (h49'.kn (n := 3) (t := (t : Int)) rfl (by omega)) k0, fun _ _ _ _ h => h, fun h => by cases h⟩ (fun x hx r3 lv3 sk3 ws3 hx3 hb3 hl3 hs3 hlo3 hsk3 hw3 hv3 hf3 _ => ?_)
  have hx4 := List.mem_singleton.mp hx
  subst hx4
  obtain ⟨zz, rfl, hzz⟩ := sk1 rfl hsk3
  unfold vn at hzz
  rw [nm_x hx3 (k := 3) rfl] at hzz
  dsimp only at hzz
  obtain ⟨w49, -⟩ := hv3
  refine kk 51 ws3 zz lv3 (by decide) ⟨hw3, Or.inr ⟨ht', ((n0 hf1).tr (fr_sub (fun cc j h q hq => ?_) hf2)).tr (fr_sub (fun cc j h q hq => ?_) hf3), w49.eq (by rw [nm_x hx3 (k := 3) rfl]; dsimp only; omega), (v2.eq (by omega)).fr hf3 rfl, by omega⟩⟩
  · have h1 := h (52, t, t + 1) (by simp)
    rw [List.mem_singleton.mp hq]
    dsimp only at h1 ⊢
    omega
  · have h1 := h (49, 7, 8) (by simp)
    rw [List.mem_singleton.mp hq]
    dsimp only at h1 ⊢
    omega
def fd7_V : List (Nat × Nat × Nat) := [(26, 1, 2), (27, 0, 160), (49, 7, 8), (52, 0, 160)]
set_option maxRecDepth 20000 in
set_option maxHeartbeats 1000000 in
theorem lw_feed {i q0 q49 : Nat} {ws : va_W} (C : ai_cx tb_m169 11 p R s m args c D tys A b L sx cells slots) (e0 : ad[0]? = some q0) (e49 : ad[49]? = some q49) (hi : i + 5 ≤ L) (hL : L ≤ 2560) (hw : ai_wd tb_TY ad tys ws) (hI : Inv ws)
    (k : ∀ wc, ai_wd tb_TY ad tys wc → Inv wc → hG tb_m169 p l e R s m args below meth c D A cells slots Q 1298 [(0, .ref b), (1, .ref q0), (2, .ref q49), (3, .int (nI i))] [] wc) : hG tb_m169 p l e R s m args below meth c D A cells slots Q 196 [(0, .ref b), (1, .ref q0), (2, .ref q49), (3, .int (nI i))] [] ws := by
  have r1 : ∀ pcr ∈ [11, 35], decode tb_m46.2.1 pcr = .ok (.ireturn, 1) := by
    intro pcr hpc
    simp only [List.mem_cons, List.not_mem_nil, or_false] at hpc
    rcases hpc with rfl | rfl
    · exact tv_m46.1.1.1 (11, .ireturn, 1) (List.mem_of_getElem? (i := 6) rfl)
    · exact tv_m46.1.1.1 (35, .ireturn, 1) (List.mem_of_getElem? (i := 17) rfl)
  have r2 : ∀ pcr ∈ [13, 26, 51], decode tb_m99.2.1 pcr = .ok (.ireturn, 1) := by
    intro pcr hpc
    simp only [List.mem_cons, List.not_mem_nil, or_false] at hpc
    rcases hpc with rfl | rfl | rfl
    · exact tv_m99.1.1.1 (13, .ireturn, 1) (List.mem_of_getElem? (i := 7) rfl)
    · exact tv_m99.1.1.1 (26, .ireturn, 1) (List.mem_of_getElem? (i := 13) rfl)
    · exact tv_m99.1.1.1 (51, .ireturn, 1) (List.mem_of_getElem? (i := 28) rfl)
  have b1 := ai_irg (sx (i + 1))
  by_cases hz : 0 ≤ (sx (i + 1)).toInt ∧ (sx (i + 1)).toInt ≤ 127
  · obtain ⟨t, g, u, q, y, n, j0, j1, E, a, P, hb, hp, hi0, hi1, hs⟩ := id hI
    obtain ⟨⟨⟨v1, v7⟩, ht, hT⟩, ⟨u1, u2⟩, ⟨s1, s2⟩, ⟨y1, y2⟩, ⟨n1, n2, n3⟩, ⟨f1, f2⟩, f3, f4⟩ := hb
    obtain ⟨a26, -, -, e26, -⟩ := hw.get (c := 26) rfl
    obtain ⟨a27, -, -, e27, -⟩ := hw.get (c := 27) rfl
    obtain ⟨a52, -, -, e52, -⟩ := hw.get (c := 52) rfl
    have n0 : ∀ {u v : va_W} {Wx : List (Nat × Nat × Nat)}, ai_fr [] u v → ai_fr Wx u v := fun h => fr_sub (V := []) (fun _ _ _ q hq => by cases hq) h
    refine law2 (P1 := fun w z1 => fdc_P ad tys t (sx (i + 1)).toInt ws w z1) (P2 := fun wa _ w z1 => fdm_P ad tys t (sx (i + 1)).toInt wa w z1) (rets1 := [11, 35]) (rets2 := [13, 26, 51]) C e0 e49 hi hL hw (n := 1) (cmp := false) (by decide) lr_feedA lr_feedB lr_feedC (q1 := (13, 0, 46, 1, 5)) (tv_m169.1.1.1 (202, .invokevirtual 13, 3) (List.mem_of_getElem? (i := 28) rfl)) (tv_m169.2 _ (List.mem_of_getElem? (i := 0) rfl)) rfl rfl rfl rfl (by decide) (Nat.le_of_ble_eq_true rfl) rfl rfl (q2 := (17, 0, 99, 1, 6)) (tv_m169.1.1.1 (212, .invokevirtual 17, 3) (List.mem_of_getElem? (i := 36) rfl)) (tv_m169.2 _ (List.mem_of_getElem? (i := 1) rfl)) rfl rfl rfl rfl (by decide) (Nat.le_of_ble_eq_true rfl) rfl rfl r1 r2 ?_ (fun wa z1 h => h.1) ?_ ?_ ?_
    · intro p e R s m args below meth c Q w hw' hf C2 kk
      exact fdc_all C2 hw' e0 e26 e27 ht hz (v1.fr hf rfl) (fun w' z' lv hP => kk 35 w' z' lv (by decide) ⟨hP.1, hP.2.imp (fun h => ⟨h.1, hf.tr h.2.1, h.2.2⟩) (fun h => ⟨h.1, (n0 hf).tr h.2.1, h.2.2⟩)⟩)
    · intro p e R s m args below meth c Q wa z1 w hP1 hw' hf C2 kk
      have v7a : vi wa 49 7 t := by
        rcases hP1.2 with h | h
        · exact v7.fr h.2.1 rfl
        · exact v7.fr h.2.1 (wr_no fun q hq => by
            simp only [List.mem_cons, List.not_mem_nil, or_false] at hq
            rcases hq with rfl | rfl <;> dsimp only <;> omega)
      exact fdm_all C2 hw' e49 e52 ht hz (v7a.fr hf rfl) (fun pcr w' z' lv hpr hP => kk pcr w' z' lv hpr ⟨hP.1, hP.2.imp (fun h => ⟨h.1, hf.tr h.2.1, h.2.2⟩) (fun h => ⟨h.1, (n0 hf).tr h.2.1, h.2.2⟩)⟩)
    · intro wa z1 wb z2 h1 h2
      refine ⟨h2.1, fun _ => Int32.toInt_inj.mp ?_⟩
      rcases h1.2 with h3 | h3
      · rcases h2.2 with h4 | h4
        · rw [h3.2.2, h4.2.2]
        · exact absurd h3.1 (by omega)
      · rcases h2.2 with h4 | h4
        · exact absurd h4.1 (by omega)
        · rw [h3.2.2.2.2, h4.2.2.2.2]
    · intro wa z1 wb z2 wc h1 h2 hwc hf
      refine k wc hwc ?_
      rcases h1.2 with h3 | ⟨ht', fa, w26, w27, -⟩
      · rcases h2.2 with h4 | h4
        · exact hI.fr0 hwc ((h3.2.1.tr h4.2.1).tr hf)
        · exact absurd h3.1 (by omega)
      · rcases h2.2 with h4 | ⟨-, fb, x49, x52, -⟩
        · exact absurd h4.1 (by omega)
        · have na : ∀ {cc j : Nat}, (cc ≠ 26 ∧ cc ≠ 27) ∨ (cc = 27 ∧ j ≠ t) → ai_wr [(26, 1, 2), (27, t, t + 1)] cc j j = false := fun {cc j} h => wr_no fun q hq => by
            simp only [List.mem_cons, List.not_mem_nil, or_false] at hq
            rcases hq with rfl | rfl <;> dsimp only <;> omega
          have nb : ∀ {cc j : Nat}, (cc ≠ 49 ∧ cc ≠ 52) ∨ (cc = 52 ∧ j ≠ t) → ai_wr [(49, 7, 8), (52, t, t + 1)] cc j j = false := fun {cc j} h => wr_no fun q hq => by
            simp only [List.mem_cons, List.not_mem_nil, or_false] at hq
            rcases hq with rfl | rfl <;> dsimp only <;> omega
          have fV : ai_fr fd7_V ws wc := ((fr_sub (fun cc j h x hx => by
            have h1 := h (26, 1, 2) (by unfold fd7_V; simp)
            have h2 := h (27, 0, 160) (by unfold fd7_V; simp)
            dsimp only at h1 h2
            simp only [List.mem_cons, List.not_mem_nil, or_false] at hx
            rcases hx with rfl | rfl <;> dsimp only <;> omega) fa).tr (fr_sub (fun cc j h x hx => by
            have h1 := h (49, 7, 8) (by unfold fd7_V; simp)
            have h2 := h (52, 0, 160) (by unfold fd7_V; simp)
            dsimp only at h1 h2
            simp only [List.mem_cons, List.not_mem_nil, or_false] at hx
            rcases hx with rfl | rfl <;> dsimp only <;> omega) fb)).tr (n0 hf)
          have w27' := fx_vi' hwc (k := 27) rfl ((w27.fr fb (nb (Or.inl (by omega)))).fr hf rfl)
          have x52' := fx_vi' hwc (k := 52) rfl (x52.fr hf rfl)
          refine Inv.base (t := t + 1) (g := fun j => if j = t then (sx (i + 1)).toInt else g j) ⟨⟨⟨(w26.fr fb (nb (Or.inl (by omega)))).fr hf rfl, x49.fr hf rfl⟩, by omega, ⟨fun j hj => ?_, fun j hj => ?_⟩⟩, ⟨u1.fr fV (by decide), u2.fr fV (by decide)⟩, ⟨s1.fr fV (by decide), s2.fr fV (by decide)⟩, ⟨y1.fr fV (by decide), y2.fr fV (by decide)⟩, ⟨n1.fr fV (by decide), n2.fr fV (by decide), n3⟩, ⟨f1.fr fV (by decide), f2.fr fV (by decide)⟩, f3.fr fV (by decide), f4.fr fV (by decide)⟩ hp hi0 hi1 fV (by decide) (hs.fr fV (by decide) (by decide))
          · by_cases hjt : j = t
            · rw [hjt, w27']
              show _ = some (if t = t then _ else _)
              rw [if_pos rfl]
            · show _ = some (if j = t then _ else _)
              rw [if_neg hjt]
              exact fr_fx hwc (k := 27) rfl ((fr_sub (W := [(26, 1, 2), (27, t, t + 1), (49, 7, 8), (52, t, t + 1)]) (fun cc j h x hx => by
                have h1 := h (26, 1, 2) (by simp)
                have h2 := h (27, t, t + 1) (by simp)
                dsimp only at h1 h2
                simp only [List.mem_cons, List.not_mem_nil, or_false] at hx
                rcases hx with rfl | rfl <;> dsimp only <;> omega) fa).tr ((fr_sub (fun cc j h x hx => by
                have h1 := h (49, 7, 8) (by simp)
                have h2 := h (52, t, t + 1) (by simp)
                dsimp only at h1 h2
                simp only [List.mem_cons, List.not_mem_nil, or_false] at hx
                rcases hx with rfl | rfl <;> dsimp only <;> omega) fb).tr (n0 hf))) (wr_no fun q hq => by
                simp only [List.mem_cons, List.not_mem_nil, or_false] at hq
                rcases hq with rfl | rfl | rfl | rfl <;> dsimp only <;> omega) (hT.1 j hj)
          · by_cases hjt : j = t
            · rw [hjt, x52']
              show _ = some (if t = t then _ else _)
              rw [if_pos rfl]
            · show _ = some (if j = t then _ else _)
              rw [if_neg hjt]
              exact fr_fx hwc (k := 52) rfl ((fr_sub (W := [(26, 1, 2), (27, t, t + 1), (49, 7, 8), (52, t, t + 1)]) (fun cc j h x hx => by
                have h1 := h (26, 1, 2) (by simp)
                have h2 := h (27, t, t + 1) (by simp)
                dsimp only at h1 h2
                simp only [List.mem_cons, List.not_mem_nil, or_false] at hx
                rcases hx with rfl | rfl <;> dsimp only <;> omega) fa).tr ((fr_sub (fun cc j h x hx => by
                have h1 := h (49, 7, 8) (by simp)
                have h2 := h (52, t, t + 1) (by simp)
                dsimp only at h1 h2
                simp only [List.mem_cons, List.not_mem_nil, or_false] at hx
                rcases hx with rfl | rfl <;> dsimp only <;> omega) fb).tr (n0 hf))) (wr_no fun q hq => by
                simp only [List.mem_cons, List.not_mem_nil, or_false] at hq
                rcases hq with rfl | rfl | rfl | rfl <;> dsimp only <;> omega) (hT.2 j (by omega))
  · have no : ∀ {l1 h1 : Int}, l1 ≤ (sx (i + 1)).toInt → (sx (i + 1)).toInt ≤ h1 → ((ai_ex (hk []) 60 46 tb_m46 10 [17] (0, s1_lo 0, [], s1_en l1 h1 0 160, [], [])).any fun xs => xs.all (s3_is 11 (-1))) = true → ((ai_ex (hk []) 60 99 tb_m99 10 [36] (0, s1_lo 49, [], s1_en l1 h1 0 160, [], [])).any fun xs => xs.all (s3_is 13 (-1))) = true → hG tb_m169 p l e R s m args below meth c D A cells slots Q 196 [(0, .ref b), (1, .ref q0), (2, .ref q49), (3, .int (nI i))] [] ws := fun {l1 h1} a1 a2 ra rb => law2 (P1 := fun w z1 => ai_wd tb_TY ad tys w ∧ ai_fr [] ws w ∧ z1.toInt = -1) (P2 := fun wa _ w z1 => ai_wd tb_TY ad tys w ∧ ai_fr [] wa w ∧ z1.toInt = -1) (rets1 := [11, 35]) (rets2 := [13, 26, 51]) C e0 e49 hi hL hw (n := 1) (cmp := false) (by decide) lr_feedA lr_feedB lr_feedC (q1 := (13, 0, 46, 1, 5)) (tv_m169.1.1.1 (202, .invokevirtual 13, 3) (List.mem_of_getElem? (i := 28) rfl)) (tv_m169.2 _ (List.mem_of_getElem? (i := 0) rfl)) rfl rfl rfl rfl (by decide) (Nat.le_of_ble_eq_true rfl) rfl rfl (q2 := (17, 0, 99, 1, 6)) (tv_m169.1.1.1 (212, .invokevirtual 17, 3) (List.mem_of_getElem? (i := 36) rfl)) (tv_m169.2 _ (List.mem_of_getElem? (i := 1) rfl)) rfl rfl rfl rfl (by decide) (Nat.le_of_ble_eq_true rfl) rfl rfl r1 r2 (fun w hw' hf C2 kk => s1_ret (y := 0) rfl rfl C2 hw' e0 ra ⟨a1, a2⟩ (by omega) trivial k0 (fun w' z' lv h1 h2 h3 => kk 11 w' z' lv (by decide) ⟨h1, hf.tr h2, h3⟩)) (fun wa z1 h => h.1) (fun wa z1 w hP1 hw' hf C2 kk => s1_ret (y := 0) rfl rfl C2 hw' e49 rb ⟨a1, a2⟩ (by omega) trivial k0 (fun w' z' lv h1 h2 h3 => kk 13 w' z' lv (by decide) ⟨h1, hf.tr h2, h3⟩)) (fun wa z1 wb z2 h1 h2 => ⟨h2.1, fun _ => Int32.toInt_inj.mp (by rw [h1.2.2, h2.2.2])⟩) (fun wa z1 wb z2 wc h1 h2 hwc hf => k wc hwc (hI.fr0 hwc ((h1.2.1.tr h2.2.1).tr hf)))
    by_cases h1 : (sx (i + 1)).toInt < 0
    · exact no (by omega) (by omega) fdc_b1 fdm_b1
    · exact no (by omega) (by omega) fdc_b2 fdm_b2
end FDC
end
section
/-! the walk for cases that only read: nothing that is tied is written -/
def tb_WR7 : List (Nat × Nat × Nat) := [(7, 0, 9), (8, 0, 4), (9, 0, 4), (10, 0, 4), (11, 0, 4), (12, 0, 8), (39, 0, 9), (40, 0, 200), (49, 17, 18), (50, 81, 162)]
def tb_K7 : ai_K := (tb_TY, tb_WR7, tb_MT, tb_SP, tb_su, tb_MG)
theorem su7_ok : ai_SU tb_K7 := by
  intro mid d cu st xs M hq hM w0 ad p l e R s m args below meth c D tys A b L sx cells slots Q r0 C k
  dsimp only at hq
  split at hq
  · rename_i hg
    rw [Bool.and_eq_true] at hg
    exact su4_old (ai_beq.mp hg.1) (Nat.le_of_ble_eq_true hg.2) hM C hq k
  · cases hq
noncomputable def m7_x (ms : List mm_e) (n : Nat) : ai_R := Nat.rec (fun _ _ _ _ _ => none) (fun _ rec => mm_b tb_K7 ms rec) n
def m7_ok (e : mm_e) : Prop := ai_SR tb_TY tb_WR7 tb_MT (fun mid _ d _ st => if (Nat.beq e.1 mid && Nat.ble e.2.1 d && mm_es e.2.2.1 st) = true then some e.2.2.2 else none)
theorem m7_x_ok {ms : List mm_e} (hms : ∀ e ∈ ms, m7_ok e) : ∀ n, ai_SR tb_TY tb_WR7 tb_MT (m7_x ms n)
  | 0 => fun mid d cu st ys M hq => by cases hq
  | n + 1 => by
    intro mid d cu st ys M hq hM w0 ad p l e R s m args below meth c D tys A b L sx cells slots Q r0 C k
    have hq : mm_b tb_K7 ms (m7_x ms n) mid M d cu st = some ys := hq
    unfold mm_b at hq
    rw [ai_norm_eq] at hq
    unfold mm_b0 at hq
    split at hq
    · rename_i xs hx
      injection hq with hq
      subst hq
      unfold mm_f at hx
      obtain ⟨e1, he, rfl⟩ := Option.map_eq_some_iff.mp hx
      have h1 := List.find?_some he
      have h2 := List.mem_of_find?_eq_some he
      simp only [Bool.and_eq_true, decide_eq_true_eq] at h1
      exact hms e1 h2 mid d cu st _ M (if_pos (by simp only [Bool.and_eq_true]; exact ⟨⟨h1.1.1.2, h1.1.2⟩, h1.2⟩)) hM C k
    · exact ai_body_ok (K := tb_K7) su7_ok (m7_x_ok hms n) tv_MT mid d cu st ys M (by unfold ai_body; rw [ai_norm_eq]; exact hq) hM C k
noncomputable def m7_c (ms : List mm_e) (cu : List Nat) (M : ai_m) (e : mm_e) : Bool := (m7_x ms 5000 e.1 M e.2.1 cu e.2.2.1).any fun xs => mm_el mm_es xs e.2.2.2
theorem m7_mk {ms : List mm_e} {cu : List Nat} {M : ai_m} {e : mm_e} (hms : ∀ e ∈ ms, m7_ok e) (hM : tb_MT[e.1]? = some M) (h : m7_c ms cu M e = true) : m7_ok e := by
  intro mid d cu' st ys M' hq hM' w0 ad p l en R s m args below meth c D tys A b L sx cells slots Q r0 C k
  dsimp only at hq
  split at hq
  · rename_i hc
    simp only [Bool.and_eq_true] at hc
    have hd := Nat.le_of_ble_eq_true hc.1.2
    have h3 := ai_beq.mp hc.1.1
    subst h3
    have h4 := mm_es_ok hc.2
    subst h4
    injection hq with hq
    subst hq
    rw [hM] at hM'
    injection hM' with hM'
    subst hM'
    unfold m7_c at h
    obtain ⟨xs, h1, h2⟩ := ai_anyE h
    have h2 := mm_el_ok mm_es_ok h2
    subst h2
    exact m7_x_ok hms 5000 e.1 e.2.1 cu e.2.2.1 _ M h1 hM (mm_cx hd C) k
  · cases hq
/-- an end's bounds and knowledge, by what is other than at the beginning: places kept, dropped, new -/
def mm_d {α : Type} : List (Nat × α) → Nat → List α → List α → List α
  | _, _, [], nw => nw
  | [], _, x :: l, nw => x :: mm_d [] 0 l nw
  | (i, y) :: c, n, x :: l, nw => if Nat.beq i n = true then y :: mm_d c (n + 1) l nw else x :: mm_d ((i, y) :: c) (n + 1) l nw
def mm_k {α : Type} : List Nat → Nat → List α → List α
  | _, _, [] => []
  | [], _, x :: l => x :: l
  | i :: c, n, x :: l => if Nat.beq i n = true then mm_k c (n + 1) l else x :: mm_k (i :: c) (n + 1) l
def mm_n (s : ai_s) (pc : Nat) (lo : List (Nat × ai_v)) (sk : List ai_v) (ch : List (Nat × ai_e)) (nw : List ai_e) (kf : List ai_k) (kd : List Nat) (sb : List ai_b) : ai_s := (pc, lo, sk, mm_d ch 0 s.2.2.2.1 nw, kf ++ mm_k kd 0 s.2.2.2.2.1, sb)
/-! the head of a round; a case that only reads -/
def r7_cut : List Nat := [196, 219, 242, 255, 268, 291, 324, 347, 390, 413, 436, 459, 482, 505, 528, 551, 574, 597, 630, 663, 696, 719, 742, 795, 849, 902, 925, 948, 981, 1034, 1077, 1100, 1123, 1166, 1209, 1262, 1275, 1298]
def r7_hd (x : ai_s) : Bool := (r7_cut.any fun q => Nat.beq q x.1) && (x.2.2.1.isEmpty && lw_lo.all fun q => decide (ai_get x.2.1 q.1 = some q.2))
theorem r7_head : ((ai_ex (hk []) 300 169 tb_m169 11 r7_cut (26, lw_lo, [], lw_en, [], [])).any fun xs => xs.all r7_hd) = true := by decide +kernel
def r7_st (pc : Nat) : ai_s := (pc, lw_lo, [], lw_en, [], [])
noncomputable def r7_case (ms : List mm_e) (pc : Nat) : Bool := (m7_x ms 5000 169 tb_m169 11 [1298] (r7_st pc)).any fun ys => ys.all lw_un
def r7_alls : Prop := ∀ pc ∈ ([255, 268, 291, 324, 528, 551, 574, 597, 630, 663, 696, 719, 742, 925, 948, 981, 1034, 1262, 1275, 1298] : List Nat), ∃ ms : List mm_e, (∀ e ∈ ms, m7_ok e) ∧ r7_case ms pc = true
section RD7
variable {ad : List Nat} {p : Program} {l : Launch} {e : Env} {R : Room} {s : State} {m : MethodId} {args : Array Value} {below : List Frame} {meth : Method} {c : Code} {D : va_G} {tys : ai_ty} {A : Nat → Prop} {b L : Nat} {sx : Nat → Int32} {cells slots : Nat} {Q : State → Prop}
/-- the law's locals again -/
theorem lw_lv {i q0 q49 : Nat} {rr r' : List Int} {lo : List (Nat × ai_v)} {lv' : List (Nat × Value)} (hi : i + 5 ≤ L) (hL : L ≤ 2560) (e0 : ad[0]? = some q0) (e49 : ad[49]? = some q49) (hx' : ai_x (lw_r sx i ++ rr) r') (g3 : ai_lo ad b r' lo lv') (c3 : (lw_lo.all fun q => decide (ai_get lo q.1 = some q.2)) = true) : ∀ q ∈ ([(0, .ref b), (1, .ref q0), (2, .ref q49), (3, .int (nI i))] : List (Nat × Value)), q ∈ lv' := by
  obtain ⟨lv2, l1, l2⟩ := lo_pick g3 lw_lo c3
  have hlv : lv2 = [(0, .ref b), (1, .ref q0), (2, .ref q49), (3, .int (nI i))] := by
    cases lv2 with
    | nil => exact l1.elim
    | cons y0 ys =>
      obtain ⟨h1, h2, h3⟩ := l1
      obtain ⟨lv3, rfl, pz1⟩ := lo_ref e0 h3
      obtain ⟨lv4, rfl, pz2⟩ := lo_ref e49 pz1
      obtain ⟨z, lv5, rfl, d1, pz3⟩ := lo_int rfl pz2
      cases lo_nil pz3
      unfold vn at d1
      rw [nm_x hx' (k := 1) rfl] at d1
      have hiI : (nI i).toInt = (i : Int) := nI_toInt (by omega)
      have hz : z = nI i := Int32.toInt_inj.mp (by dsimp only at d1; omega)
      subst hz
      obtain ⟨y1, y2⟩ := y0
      cases h1
      rcases h2 with ⟨q, -⟩ | ⟨q, -⟩ | ⟨q, -⟩ | ⟨q, -⟩ | ⟨-, q⟩
      · exact absurd (show (4 : Nat) = _ from q) (by decide)
      · exact absurd (show (4 : Nat) = _ from q) (by decide)
      · exact absurd (show (4 : Nat) = _ from q) (by decide)
      · exact absurd (show (4 : Nat) = _ from q) (by decide)
      · rw [show y2 = Value.ref b from q]
  subst hlv
  exact l2
theorem lw_head {i q0 q49 : Nat} {ws : va_W} (C : ai_cx tb_m169 11 p R s m args c D tys A b L sx cells slots) (e0 : ad[0]? = some q0) (e49 : ad[49]? = some q49) (hi : i + 5 ≤ L) (hL : L ≤ 2560) (hw : ai_wd tb_TY ad tys ws) (hI : Inv ws)
    (k : ∀ pc ∈ r7_cut, ∀ wc, ai_wd tb_TY ad tys wc → Inv wc → hG tb_m169 p l e R s m args below meth c D A cells slots Q pc [(0, .ref b), (1, .ref q0), (2, .ref q49), (3, .int (nI i))] [] wc) : hG tb_m169 p l e R s m args below meth c D A cells slots Q 26 [(0, .ref b), (1, .ref q0), (2, .ref q49), (3, .int (nI i))] [] ws := by
  have b0 := ai_irg (sx i)
  have b1 := ai_irg (sx (i + 1))
  have b2 := ai_irg (sx (i + 2))
  have b3 := ai_irg (sx (i + 3))
  have b4 := ai_irg (sx (i + 4))
  obtain ⟨xs, y1, y2⟩ := ai_anyE r7_head
  refine hseg (st := (26, lw_lo, [], lw_en, [], [])) (r := lw_r sx i ++ []) y1 rfl C ⟨en_mk (by simp only [lw_r, lw_en, List.append_nil, en_b, and_true]; omega) rfl, sb0, lw_loK (by omega) e0 e49, trivial, hw, k0, fun _ _ _ _ h => h, fun _ => lw_sx hi⟩ (fun x hx r' lv' sk' ws' hx' g' => ?_)
  obtain ⟨g1, g2, g3, g4, g5, g6, g7, g8⟩ := g'
  have hc := List.all_eq_true.mp y2 x hx
  unfold r7_hd at hc
  rw [Bool.and_eq_true, Bool.and_eq_true] at hc
  obtain ⟨c1, c2, c3⟩ := hc
  rw [List.isEmpty_iff.mp c2] at g4
  cases g4.nil
  obtain ⟨pc, hpc, he⟩ := List.any_eq_true.mp c1
  rw [← ai_beq.mp he]
  have l2 := lw_lv hi hL e0 e49 hx' g3 c3
  intro H locs ls hP hD hS hl
  exact k pc hpc ws' g5 (hI.fr0 g5 g7) H locs ls hP hD hS ⟨hl.1, hl.2.1, fun q hq => hl.2.2 q (l2 q hq)⟩
/-- all that is tied stays -/
theorem Inv.rd {ws ws' : va_W} (h : Inv ws) (hw' : ai_wd tb_TY ad tys ws') (hf : ai_fr tb_WR7 ws ws') : Inv ws' := by
  obtain ⟨t, g, u, q, y, n, k0, k1, E, a, P, hb, hp, hi0, hi1, hs⟩ := h
  have hn := hb.2.2.2.2.1.2.2
  exact ⟨t, g, u, q, y, n, k0, k1, E, a, P, hb.fr hw' hf (by decide) (by decide), hp.fr hn hf (by decide) (by decide), fun h => (hi0 h).fr hn hf (by decide) (by decide), fun h => (hi1 h).fr hn hf (by decide) (by decide), hs.fr hf (by decide) (by decide)⟩
theorem lw_rd {i q0 q49 pc : Nat} {ws : va_W} (hall : r7_alls) (hpc : pc ∈ ([255, 268, 291, 324, 528, 551, 574, 597, 630, 663, 696, 719, 742, 925, 948, 981, 1034, 1262, 1275, 1298] : List Nat)) (C : ai_cx tb_m169 11 p R s m args c D tys A b L sx cells slots) (e0 : ad[0]? = some q0) (e49 : ad[49]? = some q49) (hi : i + 5 ≤ L) (hL : L ≤ 2560) (hw : ai_wd tb_TY ad tys ws) (hI : Inv ws)
    (k : ∀ wc, ai_wd tb_TY ad tys wc → Inv wc → hG tb_m169 p l e R s m args below meth c D A cells slots Q 1298 [(0, .ref b), (1, .ref q0), (2, .ref q49), (3, .int (nI i))] [] wc) : hG tb_m169 p l e R s m args below meth c D A cells slots Q pc [(0, .ref b), (1, .ref q0), (2, .ref q49), (3, .int (nI i))] [] ws := by
  have b0 := ai_irg (sx i)
  have b1 := ai_irg (sx (i + 1))
  have b2 := ai_irg (sx (i + 2))
  have b3 := ai_irg (sx (i + 3))
  have b4 := ai_irg (sx (i + 4))
  obtain ⟨ms, hms, hc⟩ := hall pc hpc
  obtain ⟨ys, a5, a6⟩ := ai_anyE hc
  intro H locs ls hP hD hS hl
  refine m7_x_ok hms 5000 169 11 [1298] (r7_st pc) ys tb_m169 a5 rfl (w0 := ws) (r0 := lw_r sx i ++ []) (ad := ad) C (fun x hx r' lv' sk' ws' H' locs' ls' hx' g' hP' hD' hS' hl' => ?_) (lw_r sx i ++ []) [(0, .ref b), (1, .ref q0), (2, .ref q49), (3, .int (nI i))] [] ws H locs ls ai_x.rf ⟨en_mk (by simp only [r7_st, lw_r, lw_en, List.append_nil, en_b, and_true]; omega) rfl, sb0, lw_loK (by omega) e0 e49, trivial, hw, k0, fun _ _ _ _ h => h, fun _ => lw_sx hi⟩ hP hD hS hl
  obtain ⟨g1, g2, g3, g4, g5, g6, g7, g8⟩ := g'
  have hc := List.all_eq_true.mp a6 x hx
  unfold lw_un at hc
  rw [Bool.and_eq_true, Bool.and_eq_true] at hc
  obtain ⟨c1, c2, c3⟩ := hc
  rw [List.isEmpty_iff.mp c2] at g4
  cases g4.nil
  rw [ai_beq.mp c1]
  have l2 := lw_lv hi hL e0 e49 hx' g3 c3
  exact k ws' g5 (hI.rd g5 g7) H' locs' ls' hP' hD' hS' ⟨hl'.1, hl'.2.1, fun q hq => hl'.2.2 q (l2 q hq)⟩
end RD7
end
