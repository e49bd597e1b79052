/-! a test pulled alone: pullsAlone of the class's evening, aloneBy of the reference on page 108 -/
def paF (z k : Int) : Nat → Int → Int → Int → Int
  | 0, all, _, pulls => if z ≤ all then pulls else -4
  | l + 1, all, times, pulls => if z ≤ all then pulls else paF z k l (all + yl k ((l + 1 : Nat) : Int) times) (min 99 (times + 1)) (pulls + 1)
theorem paF_min {z k : Int} (l : Nat) (all times pulls : Int) : paF z k l (min z all) times pulls = paF z k l all times pulls := by
  by_cases h : z ≤ all
  · cases l with
    | zero =>
      show (if z ≤ min z all then pulls else -4) = if z ≤ all then pulls else -4
      rw [if_pos h, if_pos (by omega)]
    | succ l =>
      show (if z ≤ min z all then pulls else paF z k l (min z all + yl k ((l + 1 : Nat) : Int) times) (min 99 (times + 1)) (pulls + 1)) = if z ≤ all then pulls else paF z k l (all + yl k ((l + 1 : Nat) : Int) times) (min 99 (times + 1)) (pulls + 1)
      rw [if_pos h, if_pos (by omega)]
  · rw [show min z all = all by omega]
theorem paF_ge {z k : Int} (l : Nat) {all times pulls : Int} (h : z ≤ all) : paF z k l all times pulls = pulls := by
  cases l with
  | zero => exact if_pos h
  | succ l => exact if_pos h
theorem paF_b {z k : Int} : ∀ (l : Nat) (all times pulls : Int), 0 ≤ pulls → paF z k l all times pulls = -4 ∨ (pulls ≤ paF z k l all times pulls ∧ paF z k l all times pulls ≤ pulls + l)
  | 0, all, times, pulls, h => by
    show (if z ≤ all then pulls else -4) = -4 ∨ (pulls ≤ (if z ≤ all then pulls else -4) ∧ (if z ≤ all then pulls else -4) ≤ pulls + ((0 : Nat) : Int))
    split
    · exact Or.inr ⟨by omega, by omega⟩
    · exact Or.inl rfl
  | l + 1, all, times, pulls, h => by
    by_cases hz : z ≤ all
    · rw [paF_ge (l + 1) hz]
      exact Or.inr ⟨by omega, by omega⟩
    · have h1 : paF z k (l + 1) all times pulls = paF z k l (all + yl k ((l + 1 : Nat) : Int) times) (min 99 (times + 1)) (pulls + 1) := if_neg hz
      rw [h1]
      have := paF_b (z := z) (k := k) l (all + yl k ((l + 1 : Nat) : Int) times) (min 99 (times + 1)) (pulls + 1) (by omega)
      omega
def pa_lo (t : Nat) (r : List (Nat × ai_v)) : List (Nat × ai_v) := (0, (0, 1, 0, 0)) :: (1, (1, 0, 0, (t : Int))) :: r
theorem pa_a : ((List.range 4).all fun t => (ai_ex (hk []) 100 17 tb_m17 8 [22] (0, [(0, (0, 1, 0, 0)), (1, (1, 0, 0, (t : Int))), (2, (1, 2, 0, 0)), (3, (1, 3, 0, 0))], [], [(0, 0, false, 0, 0), (0, 2555, false, 1, 0), (0, 3, false, 2, 0), (0, 20, false, 3, 0), (0, 99, false, 4, 0), (0, 99, false, 5, 0)], [(4, t, (1, 4, 0, 0)), (5, t, (1, 5, 0, 0))], [])).any fun xs => xs.all fun x => ([(22, [(0, (0, 1, 0, 0)), (1, (1, 0, 0, (t : Int))), (2, (1, 2, 0, 0)), (4, (1, 4, 0, 0)), (5, (1, 5, 0, 0)), (6, (1, 0, 0, 0)), (7, (1, 3, 0, 0))], [], [], [(0, 0, false, 0, 0), (0, 2555, false, 1, 0), (0, 3, false, 2, 0), (0, 20, false, 3, 0), (0, 99, false, 4, 0), (0, 99, false, 5, 0)], [])] : List sm_t).any fun y => sm_is [] x y) = true := by decide +kernel
def pa_iS (t : Nat) : List sm_t := [(22, [(0, (0, 1, 0, 0)), (1, (1, 0, 0, (t : Int))), (2, (1, 2, 0, 0)), (4, (1, 11, 0, 0)), (5, (1, 12, 0, 99)), (6, (1, 7, 0, 1)), (7, (1, 3, 0, -1))], [], [], [(0, 0, false, 0, 0), (0, 2555, false, 1, 0), (3, 3, false, 2, 0), (1, 20, false, 3, 0), (0, 98, false, 4, 0), (0, 99, false, 5, 0), (1, 99, false, 6, 0), (0, 20, false, 7, 0), (0, 198, false, 8, 0), (-197, 20, false, 9, 0), (0, 20, false, 10, 0), (0, 118, false, 11, 0), (-98, 0, false, 12, 0)], [(141, 0, 5, 12, -98), (1, 4, 10, 11, 0), (142, 0, 9, 10, 0), (0, 3, 8, 9, 0), (502, 5, 5, 8, 0), (4, 4, 6, 4, 0), (4, 4, 6, 4, 0)]), (22, [(0, (0, 1, 0, 0)), (1, (1, 0, 0, (t : Int))), (2, (1, 2, 0, 0)), (4, (1, 8, 0, 0)), (5, (1, 9, 0, 99)), (6, (1, 7, 0, 1)), (7, (1, 3, 0, -1))], [], [], [(0, 0, false, 0, 0), (0, 2555, false, 1, 0), (0, 0, false, 2, 0), (1, 20, false, 3, 0), (0, 98, false, 4, 0), (0, 99, false, 5, 0), (1, 99, false, 6, 0), (0, 20, false, 7, 0), (1, 118, false, 8, 0), (-98, 0, false, 9, 0)], [(141, 0, 5, 9, -98), (1, 4, 3, 8, 0), (4, 4, 6, 4, 0), (4, 4, 6, 4, 0)]), (22, [(0, (0, 1, 0, 0)), (1, (1, 0, 0, (t : Int))), (2, (1, 2, 0, 0)), (4, (1, 9, 0, 0)), (5, (1, 10, 0, 99)), (6, (1, 7, 0, 1)), (7, (1, 3, 0, -1))], [], [], [(0, 0, false, 0, 0), (0, 2555, false, 1, 0), (1, 1, false, 2, 0), (1, 20, false, 3, 0), (0, 98, false, 4, 0), (0, 99, false, 5, 0), (1, 99, false, 6, 0), (0, 20, false, 7, 0), (0, 10, false, 8, 0), (0, 108, false, 9, 0), (-98, 0, false, 10, 0)], [(141, 0, 5, 10, -98), (1, 4, 8, 9, 0), (152, 3, 3, 8, 0), (4, 4, 6, 4, 0), (4, 4, 6, 4, 0)]), (22, [(0, (0, 1, 0, 0)), (1, (1, 0, 0, (t : Int))), (2, (1, 2, 0, 0)), (4, (1, 10, 0, 0)), (5, (1, 11, 0, 99)), (6, (1, 7, 0, 1)), (7, (1, 3, 0, -1))], [], [], [(0, 0, false, 0, 0), (0, 2555, false, 1, 0), (2, 2, false, 2, 0), (1, 20, false, 3, 0), (0, 98, false, 4, 0), (0, 99, false, 5, 0), (1, 99, false, 6, 0), (0, 20, false, 7, 0), (0, 10, false, 8, 0), (0, 2, false, 9, 0), (0, 100, false, 10, 0), (-98, 0, false, 11, 0)], [(141, 0, 5, 11, -98), (1, 4, 9, 10, 0), (154, 8, 8, 9, 0), (152, 3, 3, 8, 0), (4, 4, 6, 4, 0), (4, 4, 6, 4, 0)])]
theorem pa_i : ((List.range 4).all fun t => (ai_ex (hk []) 300 17 tb_m17 8 [22] (24, [(0, (0, 1, 0, 0)), (1, (1, 0, 0, (t : Int))), (2, (1, 2, 0, 0)), (4, (1, 4, 0, 0)), (5, (1, 5, 0, 0)), (6, (1, 7, 0, 0)), (7, (1, 3, 0, 0))], [(1, 3, 0, 0)], [(0, 0, false, 0, 0), (0, 2555, false, 1, 0), (0, 3, false, 2, 0), (1, 20, false, 3, 0), (0, 98, false, 4, 0), (0, 99, false, 5, 0), (1, 99, false, 6, 0), (0, 20, false, 7, 0)], [(3, t, (1, 6, 0, 0))], [(4, 4, 6, 4, 0)])).any fun xs => xs.all fun x => (pa_iS t).any fun y => sm_is [] x y) = true := by decide +kernel
theorem pa_e0 : ((List.range 4).all fun t => (ai_ex (hk []) 100 17 tb_m17 8 [22] (24, [(0, (0, 1, 0, 0)), (1, (1, 0, 0, (t : Int))), (4, (1, 2, 0, 0)), (6, (1, 4, 0, 0))], [(1, 0, 0, 0)], [(0, 0, false, 0, 0), (0, 2555, false, 1, 0), (0, 118, false, 2, 0), (1, 99, false, 3, 0), (0, 20, false, 4, 0)], [(3, t, (1, 3, 0, 0))], [])).any fun xs => xs.all fun x => ([(90, [], [(1, 0, 0, -4)], [], [(0, 0, false, 0, 0), (0, 2555, false, 1, 0), (0, 98, false, 2, 0), (1, 99, false, 3, 0), (0, 20, false, 4, 0)], [(4, 2, 3, 2, 0)]), (90, [], [(1, 4, 0, 0)], [], [(0, 0, false, 0, 0), (0, 2555, false, 1, 0), (1, 118, false, 2, 0), (1, 99, false, 3, 0), (0, 20, false, 4, 0)], [(5, 2, 3, 2, 0)])] : List sm_t).any fun y => sm_is [] x y) = true := by decide +kernel
theorem pa_e1 : ((List.range 4).all fun t => (ai_ex (hk []) 100 17 tb_m17 8 [22] (24, [(0, (0, 1, 0, 0)), (1, (1, 0, 0, (t : Int))), (4, (1, 2, 0, 0)), (6, (1, 4, 0, 0))], [(1, 5, 0, 0)], [(0, 0, false, 0, 0), (0, 2555, false, 1, 0), (0, 118, false, 2, 0), (1, 99, false, 3, 0), (0, 20, false, 4, 0), (1, 20, false, 5, 0)], [(3, t, (1, 3, 0, 0))], [(5, 2, 3, 2, 0)])).any fun xs => xs.all fun x => ([(90, [], [(1, 4, 0, 0)], [], [(0, 0, false, 0, 0), (0, 2555, false, 1, 0), (1, 118, false, 2, 0), (1, 99, false, 3, 0), (0, 20, false, 4, 0), (1, 20, false, 5, 0)], [(5, 2, 3, 2, 0), (5, 2, 3, 2, 0), (5, 2, 3, 2, 0)])] : List sm_t).any fun y => sm_is [] x y) = true := by decide +kernel
section XPA
variable {ad : List Nat} {M : ai_m} {d : Nat} {p : Program} {l : Launch} {e : Env} {R : Room} {s : State} {m : MethodId} {args : Array Value} {below : List Frame} {meth : Method} {c : Code} {D : va_G} {tys : ai_ty} {A : Nat → Prop} {b L : Nat} {sx : Nat → Int32} {cells slots : Nat} {Q : State → Prop}
theorem pa_loop {a t : Nat} {z k R0 : Int} {zt zk : Int32} {ws0 : va_W} (C : ai_cx tb_m17 8 p R s m args c D tys A b L sx cells slots) (ha : ad[1]? = some a) (ht : t < 4) (et : zt.toInt = t) (ek : zk.toInt = k) (bk : 0 ≤ k ∧ k ≤ 3) (bz : 1 ≤ z ∧ z ≤ 99) (hz0 : vi ws0 3 t z)
    (kk : ∀ (ws' : va_W) (w : Int32) (lv' : List (Nat × Value)), ai_wd tb_TY ad tys ws' → ai_fr [] ws0 ws' → w.toInt = R0 → hG tb_m17 p l e R s m args below meth c D A cells slots Q 90 lv' [.int w] ws') :
    ∀ (f : Nat) (all times pulls : Int) (z4 z5 z6 z7 : Int32) (ws : va_W), z7.toInt = f → z4.toInt = all → z5.toInt = times → z6.toInt = pulls → (0 ≤ all ∧ all ≤ 118) → (0 ≤ times ∧ times ≤ 99) → (0 ≤ pulls ∧ pulls + f ≤ 20) → paF z k f all times pulls = R0 → ai_wd tb_TY ad tys ws → ai_fr [] ws0 ws → hG tb_m17 p l e R s m args below meth c D A cells slots Q 22 [(0, .ref a), (1, .int zt), (2, .int zk), (4, .int z4), (5, .int z5), (6, .int z6), (7, .int z7)] [] ws := by
  intro f
  induction f with
  | zero =>
    intro all times pulls z4 z5 z6 z7 ws e7 e4 e5 e6 ba bt bp hpaF hw hfr
    refine hildw (j := 7) (x := z7) C (tv_m17.1.1.1 (22, .iload 7, 2) (List.mem_of_getElem? (i := 14) rfl)) (List.mem_of_getElem? (i := 6) rfl) ?_
    refine hG_sub (lv2 := [(0, .ref a), (1, .int zt), (4, .int z4), (6, .int z6)]) (by simp) ?_
    refine hsum (st := (24, [(0, (0, 1, 0, 0)), (1, (1, 0, 0, (t : Int))), (4, (1, 2, 0, 0)), (6, (1, 4, 0, 0))], [(1, 0, 0, 0)], [(0, 0, false, 0, 0), (0, 2555, false, 1, 0), (0, 118, false, 2, 0), (1, 99, false, 3, 0), (0, 20, false, 4, 0)], [(3, t, (1, 3, 0, 0))], [])) (List.all_eq_true.mp pa_e0 t (List.mem_range.mpr ht)) rfl C (r := [0, 0, all, z, pulls]) ⟨en_mk (by simp only [en_b, and_true]; omega) rfl, sb0, ⟨rfl, Or.inl ⟨rfl, a, ha, rfl⟩, rfl, int_dv (z := 0) rfl (by omega), rfl, int_dv (z := all) rfl (by omega), rfl, int_dv (z := pulls) rfl (by omega), trivial⟩, ⟨int_dv (z := 0) rfl (by omega), trivial⟩, hw, kc ((hz0.fr hfr rfl).kn (n := 3) (t := z) rfl (by omega)) k0, fun _ _ _ _ h => h, fun h => by cases h⟩ (fun x hx r' lv' sk' ws1 hx' hb hl hs hlo hsk hw1 hv' hf1 _ => ?_)
    have m2 := nm_x hx' (k := 2) rfl
    have m3 := nm_x hx' (k := 3) rfl
    have m4 := nm_x hx' (k := 4) rfl
    have hP : (if z ≤ all then pulls else -4) = R0 := hpaF
    rcases List.mem_cons.mp hx with rfl | hx
    · obtain ⟨w, rfl, hw'⟩ := sk1 rfl hsk
      unfold vn at hw'
      simp (config := { decide := true }) only [bnd_b, lin_b, lin_q, Nat.reduceAdd, Nat.zero_add, Nat.reduceEqDiff, reduceIte, and_true, Int.add_zero] at hb hl
      refine kk ws1 w lv' hw1 (hfr.tr hf1) ?_
      dsimp only at hw'
      rw [← hP]
      split <;> omega
    · have hx9 := List.mem_singleton.mp hx
      subst hx9
      obtain ⟨w, rfl, hw'⟩ := sk1 rfl hsk
      unfold vn at hw'
      simp (config := { decide := true }) only [bnd_b, lin_b, lin_q, Nat.reduceAdd, Nat.zero_add, Nat.reduceEqDiff, reduceIte, and_true, Int.add_zero] at hb hl
      refine kk ws1 w lv' hw1 (hfr.tr hf1) ?_
      dsimp only at hw'
      rw [← hP]
      split <;> omega
  | succ f ih =>
    intro all times pulls z4 z5 z6 z7 ws e7 e4 e5 e6 ba bt bp hpaF hw hfr
    refine hildw (j := 7) (x := z7) C (tv_m17.1.1.1 (22, .iload 7, 2) (List.mem_of_getElem? (i := 14) rfl)) (List.mem_of_getElem? (i := 6) rfl) ?_
    by_cases hz : z ≤ all
    · rw [paF_ge (f + 1) hz] at hpaF
      refine hG_sub (lv2 := [(0, .ref a), (1, .int zt), (4, .int z4), (6, .int z6)]) (by simp) ?_
      refine hsum (st := (24, [(0, (0, 1, 0, 0)), (1, (1, 0, 0, (t : Int))), (4, (1, 2, 0, 0)), (6, (1, 4, 0, 0))], [(1, 5, 0, 0)], [(0, 0, false, 0, 0), (0, 2555, false, 1, 0), (0, 118, false, 2, 0), (1, 99, false, 3, 0), (0, 20, false, 4, 0), (1, 20, false, 5, 0)], [(3, t, (1, 3, 0, 0))], [(5, 2, 3, 2, 0)])) (List.all_eq_true.mp pa_e1 t (List.mem_range.mpr ht)) rfl C (r := [0, 0, all, z, pulls, z7.toInt]) ⟨en_mk (by simp only [en_b, and_true]; omega) rfl, fun q hq => by
        rw [List.mem_singleton.mp hq]
        refine ⟨all, z, all, rfl, rfl, rfl, fun h0 => ?_, fun h0 => ?_, fun h0 => ?_, fun h0 => ?_, fun h0 => ?_, fun h0 => ?_⟩
        all_goals dsimp only at h0 ⊢
        all_goals omega, ⟨rfl, Or.inl ⟨rfl, a, ha, rfl⟩, rfl, int_dv (z := 0) rfl (by omega), rfl, int_dv (z := all) rfl (by omega), rfl, int_dv (z := pulls) rfl (by omega), trivial⟩, ⟨int_dv (z := z7.toInt) rfl (by omega), trivial⟩, hw, kc ((hz0.fr hfr rfl).kn (n := 3) (t := z) rfl (by omega)) k0, fun _ _ _ _ h => h, fun h => by cases h⟩ (fun x hx r' lv' sk' ws1 hx' hb hl hs hlo hsk hw1 hv' hf1 _ => ?_)
      have m4 := nm_x hx' (k := 4) rfl
      have hx9 := List.mem_singleton.mp hx
      subst hx9
      obtain ⟨w, rfl, hw'⟩ := sk1 rfl hsk
      unfold vn at hw'
      dsimp only at hw'
      exact kk ws1 w lv' hw1 (hfr.tr hf1) (by omega)
    have hpaF : paF z k f (all + yl k ((f + 1 : Nat) : Int) times) (min 99 (times + 1)) (pulls + 1) = R0 := by
      rw [← hpaF]
      exact (if_neg hz).symm
    refine hsum (st := (24, [(0, (0, 1, 0, 0)), (1, (1, 0, 0, (t : Int))), (2, (1, 2, 0, 0)), (4, (1, 4, 0, 0)), (5, (1, 5, 0, 0)), (6, (1, 7, 0, 0)), (7, (1, 3, 0, 0))], [(1, 3, 0, 0)], [(0, 0, false, 0, 0), (0, 2555, false, 1, 0), (0, 3, false, 2, 0), (1, 20, false, 3, 0), (0, 98, false, 4, 0), (0, 99, false, 5, 0), (1, 99, false, 6, 0), (0, 20, false, 7, 0)], [(3, t, (1, 6, 0, 0))], [(4, 4, 6, 4, 0)])) (List.all_eq_true.mp pa_i t (List.mem_range.mpr ht)) rfl C (r := [0, 0, k, z7.toInt, all, times, z, pulls]) ⟨en_mk (by simp only [en_b, and_true]; omega) rfl, fun q hq => by
      rw [List.mem_singleton.mp hq]
      refine ⟨all, z, all, rfl, rfl, rfl, fun h0 => ?_, fun h0 => ?_, fun h0 => ?_, fun h0 => ?_, fun h0 => ?_, fun h0 => ?_⟩
      all_goals dsimp only at h0 ⊢
      all_goals omega, ⟨rfl, Or.inl ⟨rfl, a, ha, rfl⟩, rfl, int_dv (z := 0) rfl (by omega), rfl, int_dv (z := k) rfl (by omega), rfl, int_dv (z := all) rfl (by omega), rfl, int_dv (z := times) rfl (by omega), rfl, int_dv (z := pulls) rfl (by omega), rfl, int_dv (z := z7.toInt) rfl (by omega), trivial⟩, ⟨int_dv (z := z7.toInt) rfl (by omega), trivial⟩, hw, kc ((hz0.fr hfr rfl).kn (n := 6) (t := z) rfl (by omega)) k0, fun _ _ _ _ h => h, fun h => by cases h⟩ (fun x hx r' lv' sk' ws1 hx' hb hl hs hlo hsk hw1 hv' hf1 _ => ?_)
    have m0 := nm_x hx' (k := 0) rfl
    have m2 := nm_x hx' (k := 2) rfl
    have m3 := nm_x hx' (k := 3) rfl
    have m4 := nm_x hx' (k := 4) rfl
    have m5 := nm_x hx' (k := 5) rfl
    have m6 := nm_x hx' (k := 6) rfl
    have m7 := nm_x hx' (k := 7) rfl
    unfold pa_iS at hx
    rcases List.mem_cons.mp hx with rfl | hx
    · dsimp only at hlo hsk ⊢
      cases hsk.nil
      have hb' := hb
      simp (config := { decide := true }) only [bnd_b, lin_b, lin_q, Nat.reduceAdd, Nat.zero_add, Nat.reduceEqDiff, reduceIte, and_true, Int.add_zero] at hb hl
      obtain ⟨l1, rfl, p1⟩ := lo_ref ha hlo
      obtain ⟨y1, l2, rfl, d1, p2⟩ := lo_int rfl p1
      obtain ⟨y2, l3, rfl, d2, p3⟩ := lo_int rfl p2
      obtain ⟨y4, l4, rfl, d4, p4⟩ := lo_int rfl p3
      obtain ⟨y5, l5, rfl, d5, p5⟩ := lo_int rfl p4
      obtain ⟨y6, l6, rfl, d6, p6⟩ := lo_int rfl p5
      obtain ⟨y7, l7, rfl, d7, p7⟩ := lo_int rfl p6
      cases lo_nil p7
      unfold vn at d1 d2 d4 d5 d6 d7
      dsimp only at d1 d2 d4 d5 d6 d7
      have e1 : zt = y1 := Int32.toInt_inj.mp (by omega)
      have e2 : zk = y2 := Int32.toInt_inj.mp (by omega)
      subst e1 e2
      have hy := yl_eq k ((f + 1 : Nat) : Int) times
      generalize yl k ((f + 1 : Nat) : Int) times = yy at hy hpaF
      refine ih (all + yy) (min 99 (times + 1)) (pulls + 1) y4 y5 y6 y7 ws1 ?_ ?_ ?_ ?_ ?_ ?_ ?_ hpaF hw1 (hfr.tr hf1)
      all_goals omega
    rcases List.mem_cons.mp hx with rfl | hx
    · dsimp only at hlo hsk ⊢
      cases hsk.nil
      have hb' := hb
      simp (config := { decide := true }) only [bnd_b, lin_b, lin_q, Nat.reduceAdd, Nat.zero_add, Nat.reduceEqDiff, reduceIte, and_true, Int.add_zero] at hb hl
      obtain ⟨l1, rfl, p1⟩ := lo_ref ha hlo
      obtain ⟨y1, l2, rfl, d1, p2⟩ := lo_int rfl p1
      obtain ⟨y2, l3, rfl, d2, p3⟩ := lo_int rfl p2
      obtain ⟨y4, l4, rfl, d4, p4⟩ := lo_int rfl p3
      obtain ⟨y5, l5, rfl, d5, p5⟩ := lo_int rfl p4
      obtain ⟨y6, l6, rfl, d6, p6⟩ := lo_int rfl p5
      obtain ⟨y7, l7, rfl, d7, p7⟩ := lo_int rfl p6
      cases lo_nil p7
      unfold vn at d1 d2 d4 d5 d6 d7
      dsimp only at d1 d2 d4 d5 d6 d7
      have e1 : zt = y1 := Int32.toInt_inj.mp (by omega)
      have e2 : zk = y2 := Int32.toInt_inj.mp (by omega)
      subst e1 e2
      have hy := yl_eq k ((f + 1 : Nat) : Int) times
      generalize yl k ((f + 1 : Nat) : Int) times = yy at hy hpaF
      refine ih (all + yy) (min 99 (times + 1)) (pulls + 1) y4 y5 y6 y7 ws1 ?_ ?_ ?_ ?_ ?_ ?_ ?_ hpaF hw1 (hfr.tr hf1)
      all_goals omega
    rcases List.mem_cons.mp hx with rfl | hx
    · dsimp only at hlo hsk ⊢
      cases hsk.nil
      have hb' := hb
      simp (config := { decide := true }) only [bnd_b, lin_b, lin_q, Nat.reduceAdd, Nat.zero_add, Nat.reduceEqDiff, reduceIte, and_true, Int.add_zero] at hb hl
      obtain ⟨l1, rfl, p1⟩ := lo_ref ha hlo
      obtain ⟨y1, l2, rfl, d1, p2⟩ := lo_int rfl p1
      obtain ⟨y2, l3, rfl, d2, p3⟩ := lo_int rfl p2
      obtain ⟨y4, l4, rfl, d4, p4⟩ := lo_int rfl p3
      obtain ⟨y5, l5, rfl, d5, p5⟩ := lo_int rfl p4
      obtain ⟨y6, l6, rfl, d6, p6⟩ := lo_int rfl p5
      obtain ⟨y7, l7, rfl, d7, p7⟩ := lo_int rfl p6
      cases lo_nil p7
      unfold vn at d1 d2 d4 d5 d6 d7
      dsimp only at d1 d2 d4 d5 d6 d7
      have e1 : zt = y1 := Int32.toInt_inj.mp (by omega)
      have e2 : zk = y2 := Int32.toInt_inj.mp (by omega)
      subst e1 e2
      have hy := yl_eq k ((f + 1 : Nat) : Int) times
      generalize yl k ((f + 1 : Nat) : Int) times = yy at hy hpaF
      refine ih (all + yy) (min 99 (times + 1)) (pulls + 1) y4 y5 y6 y7 ws1 ?_ ?_ ?_ ?_ ?_ ?_ ?_ hpaF hw1 (hfr.tr hf1)
      all_goals omega
    have hx9 := List.mem_singleton.mp hx
    subst hx9
    · dsimp only at hlo hsk ⊢
      cases hsk.nil
      have hb' := hb
      simp (config := { decide := true }) only [bnd_b, lin_b, lin_q, Nat.reduceAdd, Nat.zero_add, Nat.reduceEqDiff, reduceIte, and_true, Int.add_zero] at hb hl
      obtain ⟨l1, rfl, p1⟩ := lo_ref ha hlo
      obtain ⟨y1, l2, rfl, d1, p2⟩ := lo_int rfl p1
      obtain ⟨y2, l3, rfl, d2, p3⟩ := lo_int rfl p2
      obtain ⟨y4, l4, rfl, d4, p4⟩ := lo_int rfl p3
      obtain ⟨y5, l5, rfl, d5, p5⟩ := lo_int rfl p4
      obtain ⟨y6, l6, rfl, d6, p6⟩ := lo_int rfl p5
      obtain ⟨y7, l7, rfl, d7, p7⟩ := lo_int rfl p6
      cases lo_nil p7
      unfold vn at d1 d2 d4 d5 d6 d7
      dsimp only at d1 d2 d4 d5 d6 d7
      have e1 : zt = y1 := Int32.toInt_inj.mp (by omega)
      have e2 : zk = y2 := Int32.toInt_inj.mp (by omega)
      subst e1 e2
      have hy := yl_eq k ((f + 1 : Nat) : Int) times
      generalize yl k ((f + 1 : Nat) : Int) times = yy at hy hpaF
      refine ih (all + yy) (min 99 (times + 1)) (pulls + 1) y4 y5 y6 y7 ws1 ?_ ?_ ?_ ?_ ?_ ?_ ?_ hpaF hw1 (hfr.tr hf1)
      all_goals omega

theorem pq_all {a t : Nat} {z k mm pp s0 : Int} {zt zk zs : Int32} {ws : va_W} (C : ai_cx tb_m17 8 p R s m args c D tys A b L sx cells slots) (ha : ad[1]? = some a) (ht : t < 4) (et : zt.toInt = t) (ek : zk.toInt = k) (es : zs.toInt = s0) (bk : 0 ≤ k ∧ k ≤ 3) (bz : 1 ≤ z ∧ z ≤ 99) (bm : 0 ≤ mm ∧ mm ≤ 99) (bp : 0 ≤ pp ∧ pp ≤ 99) (bs : 0 ≤ s0 ∧ s0 ≤ 20) (hw : ai_wd tb_TY ad tys ws) (h3 : vi ws 3 t z) (h4 : vi ws 4 t mm) (h5 : vi ws 5 t pp)
    (kk : ∀ (ws' : va_W) (w : Int32) (lv' : List (Nat × Value)), ai_wd tb_TY ad tys ws' → ai_fr [] ws ws' → w.toInt = paF z k s0.toNat mm pp 0 → hG tb_m17 p l e R s m args below meth c D A cells slots Q 90 lv' [.int w] ws') : hG tb_m17 p l e R s m args below meth c D A cells slots Q 0 [(0, .ref a), (1, .int zt), (2, .int zk), (3, .int zs)] [] ws := by
  refine hsum (st := (0, [(0, (0, 1, 0, 0)), (1, (1, 0, 0, (t : Int))), (2, (1, 2, 0, 0)), (3, (1, 3, 0, 0))], [], [(0, 0, false, 0, 0), (0, 2555, false, 1, 0), (0, 3, false, 2, 0), (0, 20, false, 3, 0), (0, 99, false, 4, 0), (0, 99, false, 5, 0)], [(4, t, (1, 4, 0, 0)), (5, t, (1, 5, 0, 0))], [])) (List.all_eq_true.mp pa_a t (List.mem_range.mpr ht)) rfl C (r := [0, 0, k, s0, mm, pp]) ⟨en_mk (by simp only [en_b, and_true]; omega) rfl, sb0, ⟨rfl, Or.inl ⟨rfl, a, ha, rfl⟩, rfl, int_dv (z := 0) rfl (by omega), rfl, int_dv (z := k) rfl (by omega), rfl, int_dv (z := s0) rfl (by omega), trivial⟩, trivial, hw, kc (h4.kn (n := 4) (t := mm) rfl (by omega)) (kc (h5.kn (n := 5) (t := pp) rfl (by omega)) k0), fun _ _ _ _ h => h, fun h => by cases h⟩ (fun x hx r' lv' sk' ws1 hx' hb hl hs hlo hsk hw1 hv' hf1 _ => ?_)
  have hx9 := List.mem_singleton.mp hx
  subst hx9
  dsimp only at hlo hsk ⊢
  cases hsk.nil
  obtain ⟨l1, rfl, p1⟩ := lo_ref ha hlo
  obtain ⟨y1, l2, rfl, d1, p2⟩ := lo_int rfl p1
  obtain ⟨y2, l3, rfl, d2, p3⟩ := lo_int rfl p2
  obtain ⟨y4, l4, rfl, d4, p4⟩ := lo_int rfl p3
  obtain ⟨y5, l5, rfl, d5, p5⟩ := lo_int rfl p4
  obtain ⟨y6, l6, rfl, d6, p6⟩ := lo_int rfl p5
  obtain ⟨y7, l7, rfl, d7, p7⟩ := lo_int rfl p6
  cases lo_nil p7
  rw [vn_at hx' (n := 0) (z := 0) rfl] at d1 d6
  rw [vn_at hx' (n := 2) (z := k) rfl] at d2
  rw [vn_at hx' (n := 3) (z := s0) rfl] at d7
  rw [vn_at hx' (n := 4) (z := mm) rfl] at d4
  rw [vn_at hx' (n := 5) (z := pp) rfl] at d5
  exact pa_loop (ws0 := ws) (R0 := paF z k s0.toNat mm pp 0) C ha ht (by omega) (by omega) bk bz h3 kk s0.toNat mm pp 0 y4 y5 y6 y7 ws1 (by omega) (by omega) (by omega) (by omega) (by omega) bp (by omega) rfl hw1 hf1
end XPA
/-! aloneBy -/
theorem al_0 : ((List.range 4).all fun t => (ai_ex (hk []) 20 139 tb_m139 8 [6] (0, [(0, (0, 49, 0, 0)), (1, (1, 0, 0, (t : Int)))], [], [(0, 0, false, 0, 0), (0, 2555, false, 1, 0)], [], [])).any fun xs => xs.all fun x => ([(6, [(0, (0, 49, 0, 0)), (1, (1, 0, 0, (t : Int))), (2, (1, 0, 0, 0))], [(1, 0, 0, (t : Int)), (1, 0, 0, 108), (0, 49, 0, 0)], [], [(0, 0, false, 0, 0), (0, 2555, false, 1, 0)], [])] : List sm_t).any fun y => sm_is [] x y) = true := by decide +kernel
def al_S6 (t : Nat) : List sm_t := [(27, [(0, (0, 49, 0, 0)), (1, (1, 0, 0, (t : Int))), (2, (1, 2, 0, 0))], [], [], [(0, 0, false, 0, 0), (0, 2555, false, 1, 0), (0, 20, false, 2, 0), ((t : Int) + 1, 4, false, 3, 0), (0, 99, false, 4, 0), (1, 99, false, 5, 0), (0, 0, false, 6, 0)], [(140, 4, 5, 4, 0), (5, 5, 4, 5, 0)]), (12, [(0, (0, 49, 0, 0)), (1, (1, 0, 0, (t : Int))), (2, (1, 2, 0, 0))], [], [], [(0, 0, false, 0, 0), (0, 2555, false, 1, 0), (0, 20, false, 2, 0), ((t : Int) + 1, 4, false, 3, 0), (0, 99, false, 4, 0), (1, 99, false, 5, 0), (1, 20, false, 6, 0)], [(140, 4, 5, 4, 0), (5, 5, 4, 5, 0)]), (27, [(0, (0, 49, 0, 0)), (1, (1, 0, 0, (t : Int))), (2, (1, 2, 0, 0))], [], [], [(0, 0, false, 0, 0), (0, 2555, false, 1, 0), (0, 20, false, 2, 0), ((t : Int) + 1, 4, false, 3, 0), (1, 99, false, 4, 0), (1, 99, false, 5, 0), (0, 20, false, 6, 0)], [(4, 4, 5, 4, 1), (5, 4, 5, 4, 0), (5, 5, 4, 5, 0)])]
theorem al_6 : ((List.range 4).all fun t => (ai_ex (hk []) 200 139 tb_m139 8 [12, 27] (6, [(0, (0, 49, 0, 0)), (1, (1, 0, 0, (t : Int))), (2, (1, 2, 0, 0))], [(1, 0, 0, (t : Int)), (1, 0, 0, 108), (0, 49, 0, 0)], [(0, 0, false, 0, 0), (0, 2555, false, 1, 0), (0, 20, false, 2, 0), ((t : Int) + 1, 4, false, 3, 0), (0, 99, false, 4, 0), (1, 99, false, 5, 0), (0, 20, false, 6, 0)], [(50, 116 + t, (1, 4, 0, 0)), (50, 112 + t, (1, 5, 0, 0)), (50, 124, (1, 6, 0, -10)), (49, 1, (1, 3, 0, 0))], [(5, 5, 4, 5, 0)])).any fun xs => xs.all fun x => (al_S6 t).any fun y => sm_is [] x y) = true := by decide +kernel
def al_S27 (t : Nat) : List sm_t := [(43, [], [(1, 0, 0, -4)], [], [(0, 0, false, 0, 0), (0, 2555, false, 1, 0), (0, 20, false, 2, 0), ((t : Int) + 1, 4, false, 3, 0), (0, 99, false, 4, 0), (1, 99, false, 5, 0)], [(140, 4, 5, 4, 0), (5, 5, 4, 5, 0)]), (43, [], [(1, 2, 0, 0)], [], [(0, 0, false, 0, 0), (0, 2555, false, 1, 0), (0, 20, false, 2, 0), ((t : Int) + 1, 4, false, 3, 0), (1, 99, false, 4, 0), (1, 99, false, 5, 0)], [(4, 4, 5, 4, 1), (5, 4, 5, 4, 0), (5, 5, 4, 5, 0)])]
theorem al_27 : ((List.range 4).all fun t => (ai_ex (hk []) 200 139 tb_m139 8 [] (27, [(0, (0, 49, 0, 0)), (1, (1, 0, 0, (t : Int))), (2, (1, 2, 0, 0))], [], [(0, 0, false, 0, 0), (0, 2555, false, 1, 0), (0, 20, false, 2, 0), ((t : Int) + 1, 4, false, 3, 0), (0, 99, false, 4, 0), (1, 99, false, 5, 0)], [(50, 116 + t, (1, 4, 0, 0)), (50, 112 + t, (1, 5, 0, 0)), (49, 1, (1, 3, 0, 0))], [(5, 5, 4, 5, 0)])).any fun xs => xs.all fun x => (al_S27 t).any fun y => sm_is [] x y) = true := by decide +kernel
theorem al_13 : ((List.range 4).all fun t => (ai_ex (hk []) 20 139 tb_m139 8 [17] (13, [(0, (0, 49, 0, 0)), (1, (1, 0, 0, (t : Int))), (2, (1, 2, 0, 0))], [(0, 49, 0, 0)], [(0, 0, false, 0, 0), (0, 2555, false, 1, 0), (0, 20, false, 2, 0)], [], [])).any fun xs => xs.all fun x => ([(17, [(0, (0, 49, 0, 0)), (1, (1, 0, 0, (t : Int))), (2, (1, 2, 0, 0))], [(1, 0, 0, 0), (1, 0, 0, (t : Int)), (1, 0, 0, 108), (0, 49, 0, 0)], [], [(0, 0, false, 0, 0), (0, 2555, false, 1, 0), (0, 20, false, 2, 0)], [])] : List sm_t).any fun y => sm_is [] x y) = true := by decide +kernel
theorem al_20 : ((List.range 4).all fun t => (ai_ex (hk []) 20 139 tb_m139 8 [6] (20, [(0, (0, 49, 0, 0)), (1, (1, 0, 0, (t : Int))), (2, (1, 2, 0, 0))], [(1, 3, 0, 0)], [(0, 0, false, 0, 0), (0, 2555, false, 1, 0), (0, 19, false, 2, 0), (0, 99, false, 3, 0)], [], [])).any fun xs => xs.all fun x => ([(6, [(0, (0, 49, 0, 0)), (1, (1, 0, 0, (t : Int))), (2, (1, 2, 0, 1))], [(1, 0, 0, (t : Int)), (1, 0, 0, 108), (0, 49, 0, 0)], [], [(0, 0, false, 0, 0), (0, 2555, false, 1, 0), (0, 19, false, 2, 0), (0, 99, false, 3, 0)], [])] : List sm_t).any fun y => sm_is [] x y) = true := by decide +kernel
def alW9 : List (Nat × Nat × Nat) := [(50, 108, 135)]
section XAL
variable {ad : List Nat} {M : ai_m} {d : Nat} {p : Program} {l : Launch} {e : Env} {R : Room} {s : State} {m : MethodId} {args : Array Value} {below : List Frame} {meth : Method} {c : Code} {D : va_G} {tys : ai_ty} {A : Nat → Prop} {b L : Nat} {sx : Nat → Int32} {cells slots : Nat} {Q : State → Prop}
theorem al_loop {ar t n : Nat} {z k R0 : Int} {zt : Int32} {ws0 : va_W} (C : ai_cx tb_m139 8 p R s m args c D tys A b L sx cells slots) (ha : ad[49]? = some ar) (hn : n ≤ 4) (ht : t < n) (et : zt.toInt = t) (hv0 : vi ws0 49 1 n)
    (kk : ∀ (ws' : va_W) (w : Int32) (lv' : List (Nat × Value)), ai_wd tb_TY ad tys ws' → ai_fr alW9 ws0 ws' → w.toInt = R0 → hG tb_m139 p l e R s m args below meth c D A cells slots Q 43 lv' [.int w] ws') :
    ∀ (f : Nat) (E : Nat → Int) (z1 z8 z2 : Int32) (ws : va_W), E 16 = f → z1.toInt = t → z8.toInt = 108 → good n E → E t = k → E (4 + t) = z → 0 ≤ z2.toInt → z2.toInt + f ≤ 20 → paF z k f (E (8 + t)) (E (12 + t)) z2.toInt = R0 → ai_wd tb_TY ad tys ws → ai_fr alW9 ws0 ws → pev ws 108 n E → hG tb_m139 p l e R s m args below meth c D A cells slots Q 6 [(0, .ref ar), (1, .int zt), (2, .int z2)] [.int z1, .int z8, .ref ar] ws := by
  intro f
  have n0 : ∀ {u v : va_W} {Wx : List (Nat × Nat × Nat)}, ai_fr [] u v → ai_fr Wx u v := fun h => wsub_ok (V := []) (by rfl) h
  induction f using Nat.strongRecOn with
  | _ f ih =>
    intro E z1 z8 z2 ws e16 e1 e8 hg eE ez hz2 hz2f hpa hw hfr hc
    obtain ⟨b1, b2, b3, b4⟩ := hg.1 t ht
    obtain ⟨b5, b6⟩ := hg.2
    obtain ⟨v1, v2, v3, v4⟩ := hc.1 t ht
    have v2' : ∀ {w : va_W}, ai_fr [] ws w → vi w 50 (112 + t) (E (4 + t)) := fun h => by
      rw [show 112 + t = 4 + t + 108 by omega]
      exact v2.fr h rfl
    have v3' : ∀ {w : va_W}, ai_fr [] ws w → vi w 50 (116 + t) (E (8 + t)) := fun h => by
      rw [show 116 + t = 8 + t + 108 by omega]
      exact v3.fr h rfl
    have hv : vi ws 49 1 n := hv0.fr hfr rfl
    have f0 : ai_fr [] ws ws := fun _ _ _ _ h => h
    have fin : ∀ (ws1 : va_W) (y1 y2 : Int32), y1.toInt = t → y2.toInt = z2.toInt → ai_wd tb_TY ad tys ws1 → ai_fr [] ws ws1 → (E 16 = 0 ∨ E (8 + t) = E (4 + t)) → hG tb_m139 p l e R s m args below meth c D A cells slots Q 27 [(0, .ref ar), (1, .int y1), (2, .int y2)] [] ws1 := by
      intro ws1 y1 y2 ey1 ey2 hw1 hf1 hend
      refine hsum (st := (27, [(0, (0, 49, 0, 0)), (1, (1, 0, 0, (t : Int))), (2, (1, 2, 0, 0))], [], [(0, 0, false, 0, 0), (0, 2555, false, 1, 0), (0, 20, false, 2, 0), ((t : Int) + 1, 4, false, 3, 0), (0, 99, false, 4, 0), (1, 99, false, 5, 0)], [(50, 116 + t, (1, 4, 0, 0)), (50, 112 + t, (1, 5, 0, 0)), (49, 1, (1, 3, 0, 0))], [(5, 5, 4, 5, 0)])) (List.all_eq_true.mp al_27 t (List.mem_range.mpr (by omega))) rfl C (r := [0, 0, z2.toInt, (n : Int), E (8 + t), E (4 + t)]) ⟨en_mk (by simp only [en_b, and_true]; omega) rfl, fun q hq => by
        rw [List.mem_singleton.mp hq]
        refine ⟨E (4 + t), E (8 + t), E (4 + t), rfl, rfl, rfl, fun h0 => ?_, fun h0 => ?_, fun h0 => ?_, fun h0 => ?_, fun h0 => ?_, fun h0 => ?_⟩
        all_goals dsimp only at h0 ⊢
        all_goals omega, ⟨rfl, Or.inl ⟨rfl, ar, ha, rfl⟩, rfl, int_dv (z := 0) rfl (by omega), rfl, int_dv (z := z2.toInt) rfl (by omega), trivial⟩, trivial, hw1, kc ((v3' hf1).kn (n := 4) (t := E (8 + t)) rfl (by omega)) (kc ((v2' hf1).kn (n := 5) (t := E (4 + t)) rfl (by omega)) (kc ((hv.fr hf1 rfl).kn (n := 3) (t := (n : Int)) rfl (by omega)) k0)), fun _ _ _ _ h => h, fun h => by cases h⟩ (fun x hx r' lv' sk' ws2 hx' hb hl hs hlo hsk hw2 hv' hf2 _ => ?_)
      have m2 := nm_x hx' (k := 2) rfl
      have m4 := nm_x hx' (k := 4) rfl
      have m5 := nm_x hx' (k := 5) rfl
      have hfx : ai_fr alW9 ws0 ws2 := (hfr.tr (n0 hf1)).tr (n0 hf2)
      unfold al_S27 at hx
      rcases List.mem_cons.mp hx with rfl | hx
      · obtain ⟨w, rfl, hw'⟩ := sk1 rfl hsk
        unfold vn at hw'
        simp (config := { decide := true }) only [bnd_b, lin_b, lin_q, Nat.reduceAdd, Nat.zero_add, Nat.reduceEqDiff, reduceIte, and_true, Int.add_zero] at hb hl
        dsimp only at hw'
        have hf0 : f = 0 := by omega
        subst hf0
        refine kk ws2 w lv' hw2 hfx ?_
        rw [← hpa]
        show w.toInt = (if z ≤ E (8 + t) then z2.toInt else -4)
        rw [if_neg (by omega)]
        omega
      · have hx9 := List.mem_singleton.mp hx
        subst hx9
        obtain ⟨w, rfl, hw'⟩ := sk1 rfl hsk
        unfold vn at hw'
        simp (config := { decide := true }) only [bnd_b, lin_b, lin_q, Nat.reduceAdd, Nat.zero_add, Nat.reduceEqDiff, reduceIte, and_true, Int.add_zero] at hb hl
        dsimp only at hw'
        refine kk ws2 w lv' hw2 hfx ?_
        rw [← hpa, paF_ge f (by omega)]
        omega
    refine hsum (st := (6, [(0, (0, 49, 0, 0)), (1, (1, 0, 0, (t : Int))), (2, (1, 2, 0, 0))], [(1, 0, 0, (t : Int)), (1, 0, 0, 108), (0, 49, 0, 0)], [(0, 0, false, 0, 0), (0, 2555, false, 1, 0), (0, 20, false, 2, 0), ((t : Int) + 1, 4, false, 3, 0), (0, 99, false, 4, 0), (1, 99, false, 5, 0), (0, 20, false, 6, 0)], [(50, 116 + t, (1, 4, 0, 0)), (50, 112 + t, (1, 5, 0, 0)), (50, 124, (1, 6, 0, -10)), (49, 1, (1, 3, 0, 0))], [(5, 5, 4, 5, 0)])) (List.all_eq_true.mp al_6 t (List.mem_range.mpr (by omega))) rfl C (r := [0, 0, z2.toInt, (n : Int), E (8 + t), E (4 + t), E 16]) ⟨en_mk (by simp only [en_b, and_true]; omega) rfl, fun q hq => by
      rw [List.mem_singleton.mp hq]
      refine ⟨E (4 + t), E (8 + t), E (4 + t), rfl, rfl, rfl, fun h0 => ?_, fun h0 => ?_, fun h0 => ?_, fun h0 => ?_, fun h0 => ?_, fun h0 => ?_⟩
      all_goals dsimp only at h0 ⊢
      all_goals omega, ⟨rfl, Or.inl ⟨rfl, ar, ha, rfl⟩, rfl, int_dv (z := 0) rfl (by omega), rfl, int_dv (z := z2.toInt) rfl (by omega), trivial⟩, ⟨int_dv (z := 0) rfl (by omega), int_dv (z := 0) rfl (by omega), Or.inl ⟨rfl, ar, ha, rfl⟩, trivial⟩, hw, kc ((v3' f0).kn (n := 4) (t := E (8 + t)) rfl (by omega)) (kc ((v2' f0).kn (n := 5) (t := E (4 + t)) rfl (by omega)) (kc (hc.2.1.kn (n := 6) (t := E 16) rfl (by omega)) (kc (hv.kn (n := 3) (t := (n : Int)) rfl (by omega)) k0))), fun _ _ _ _ h => h, fun h => by cases h⟩ (fun x hx r' lv' sk' ws1 hx' hb hl hs hlo hsk hw1 hv' hf1 _ => ?_)
    have m2 := nm_x hx' (k := 2) rfl
    have m4 := nm_x hx' (k := 4) rfl
    have m5 := nm_x hx' (k := 5) rfl
    have m6 := nm_x hx' (k := 6) rfl
    unfold al_S6 at hx
    have lcs : ∀ {lvx : List (Nat × Value)}, ai_lo ad b r' [(0, (0, 49, 0, 0)), (1, (1, 0, 0, (t : Int))), (2, (1, 2, 0, 0))] lvx → ∃ y1 y2 : Int32, lvx = [(0, .ref ar), (1, .int y1), (2, .int y2)] ∧ y1.toInt = t ∧ y2.toInt = z2.toInt := fun h => by
      obtain ⟨l1, rfl, p1⟩ := lo_ref ha h
      obtain ⟨y1, l2, rfl, d1, p2⟩ := lo_int rfl p1
      obtain ⟨y2, l3, rfl, d2, p3⟩ := lo_int rfl p2
      cases lo_nil p3
      rw [vn_at hx' (n := 0) (z := 0) rfl] at d1
      rw [vn_at hx' (n := 2) (z := z2.toInt) rfl] at d2
      exact ⟨y1, y2, rfl, by omega, by omega⟩
    rcases List.mem_cons.mp hx with rfl | hx
    · dsimp only at hlo hsk ⊢
      simp (config := { decide := true }) only [bnd_b, lin_b, lin_q, Nat.reduceAdd, Nat.zero_add, Nat.reduceEqDiff, reduceIte, and_true, Int.add_zero] at hb hl
      cases hsk.nil
      obtain ⟨y1, y2, rfl, ey1, ey2⟩ := lcs hlo
      exact fin ws1 y1 y2 ey1 ey2 hw1 hf1 (Or.inl (by omega))
    rcases List.mem_cons.mp hx with rfl | hx
    · dsimp only at hlo hsk ⊢
      simp (config := { decide := true }) only [bnd_b, lin_b, lin_q, Nat.reduceAdd, Nat.zero_add, Nat.reduceEqDiff, reduceIte, and_true, Int.add_zero] at hb hl
      cases hsk.nil
      obtain ⟨y1, y2, rfl, ey1, ey2⟩ := lcs hlo
      have hyes : 1 ≤ E 16 ∧ E (8 + t) < E (4 + t) := by omega
      obtain ⟨f', rfl⟩ : ∃ f', f = f' + 1 := ⟨f - 1, by omega⟩
      refine hald2 (j := 0) (x := ar) C (tv_m139.1.1.1 (12, .aload_n 0, 1) (List.mem_of_getElem? (i := 7) rfl)) (List.mem_of_getElem? (i := 0) rfl) ?_
      refine hsum (st := (13, [(0, (0, 49, 0, 0)), (1, (1, 0, 0, (t : Int))), (2, (1, 2, 0, 0))], [(0, 49, 0, 0)], [(0, 0, false, 0, 0), (0, 2555, false, 1, 0), (0, 20, false, 2, 0)], [], [])) (List.all_eq_true.mp al_13 t (List.mem_range.mpr (by omega))) rfl C (r := [0, 0, z2.toInt]) ⟨en_mk (by simp only [en_b, and_true]; omega) rfl, sb0, ⟨rfl, Or.inl ⟨rfl, ar, ha, rfl⟩, rfl, int_dv (z := 0) rfl (by omega), rfl, int_dv (z := z2.toInt) rfl (by omega), trivial⟩, ⟨Or.inl ⟨rfl, ar, ha, rfl⟩, trivial⟩, hw1, k0, fun _ _ _ _ h => h, fun h => by cases h⟩ (fun x hx r3 lv3 sk3 ws3 hx3 hb3 hl3 hs3 hlo3 hsk3 hw3 hv3 hf3 _ => ?_)
      have hx9 := List.mem_singleton.mp hx
      subst hx9
      dsimp only at hlo3 hsk3 ⊢
      obtain ⟨l1, rfl, p1⟩ := lo_ref ha hlo3
      obtain ⟨y3, l2, rfl, d3, p2⟩ := lo_int rfl p1
      obtain ⟨y4, l3, rfl, d4, p3⟩ := lo_int rfl p2
      cases lo_nil p3
      rw [vn_at hx3 (n := 0) (z := 0) rfl] at d3
      rw [vn_at hx3 (n := 2) (z := z2.toInt) rfl] at d4
      obtain ⟨x0, s0, rfl, c0, g3⟩ := hsk3.cons
      obtain ⟨x1, s1, rfl, c1, g4⟩ := g3.cons
      obtain ⟨x2, s2, rfl, c2, g5⟩ := g4.cons
      obtain ⟨x3, s3, rfl, c3, g6⟩ := g5.cons
      cases g6.nil
      obtain ⟨u0, rfl, w0⟩ := dvn c0 (hx3.at (k := 0) rfl)
      obtain ⟨u1, rfl, w1⟩ := dvn c1 (hx3.at (k := 0) rfl)
      obtain ⟨u2, rfl, w2⟩ := dvn c2 (hx3.at (k := 0) rfl)
      have f3 := ref_of49 ha c3
      subst f3
      have f13 : ai_fr [] ws ws3 := hf1.tr hf3
      refine hcallI (q := (167, 0, 128, 3, 6)) (M' := tb_m128) (cl := 49) (a := ar) (As := [.int u2, .int u1, .int u0]) (rest := []) (rets := [178]) (P := fun w i => po_P ad tys 108 t false (E t) (E (4 + t)) (E (8 + t)) (E (12 + t)) (E 16) (E 17) ws3 w i) C (by decide) (tv_m139.1.1.1 (17, .invokevirtual 167, 3) (List.mem_of_getElem? (i := 11) rfl)) (tv_m139.2 _ (List.mem_of_getElem? (i := 19) rfl)) rfl rfl rfl rfl (by decide) (Nat.le_of_ble_eq_true rfl) rfl rfl rfl rfl hw3 ha (by decide) ?_ ?_ ?_
      · intro pcr hp
        rw [List.mem_singleton.mp hp]
        exact tv_m128.1.1.1 (178, .ireturn, 1) (List.mem_of_getElem? (i := 114) rfl)
      · intro p2 e2 R2 s2 m2 args2 below2 meth2 c2 Q2 C2 kk2
        exact po_all (sl := false) (mm_cx (by decide) C2) (Or.inr rfl) (by omega) ha (by omega) (by omega) (by rw [if_neg (by decide)]; omega) ⟨b1, b2, b3, b4, b5, b6⟩ (by omega) hw3 ⟨v1.fr f13 rfl, v2.fr f13 rfl, v3.fr f13 rfl, v4.fr f13 rfl, hc.2.1.fr f13 rfl, hc.2.2.fr f13 rfl⟩ (fun w i lv2 hP => kk2 178 w i lv2 (by decide) hP)
      · intro ws4 i hP
        obtain ⟨hw4, hf4, ei, q1, q2, q3, q4⟩ := hP
        rw [if_neg (by decide)] at ei
        have bi : 0 ≤ i.toInt ∧ i.toInt ≤ 99 := by
          have := yl_rg (k := E t) (s := E 16) (p := E (12 + t)) b5.1 b5.2 b4.1
          omega
        refine hsum (st := (20, [(0, (0, 49, 0, 0)), (1, (1, 0, 0, (t : Int))), (2, (1, 2, 0, 0))], [(1, 3, 0, 0)], [(0, 0, false, 0, 0), (0, 2555, false, 1, 0), (0, 19, false, 2, 0), (0, 99, false, 3, 0)], [], [])) (List.all_eq_true.mp al_20 t (List.mem_range.mpr (by omega))) rfl C (r := [0, 0, z2.toInt, i.toInt]) ⟨en_mk (by simp only [en_b, and_true]; omega) rfl, sb0, ⟨rfl, Or.inl ⟨rfl, ar, ha, rfl⟩, rfl, int_dv (z := 0) rfl (by omega), rfl, int_dv (z := z2.toInt) rfl (by omega), trivial⟩, ⟨int_dv (z := i.toInt) rfl (by omega), trivial⟩, hw4, k0, fun _ _ _ _ h => h, fun h => by cases h⟩ (fun x hx r5 lv5 sk5 ws5 hx5 hb5 hl5 hs5 hlo5 hsk5 hw5 hv5 hf5 _ => ?_)
        have hx9 := List.mem_singleton.mp hx
        subst hx9
        dsimp only at hlo5 hsk5 ⊢
        obtain ⟨l1, rfl, p1⟩ := lo_ref ha hlo5
        obtain ⟨y5, l2, rfl, d5, p2⟩ := lo_int rfl p1
        obtain ⟨y6, l3, rfl, d6, p3⟩ := lo_int rfl p2
        cases lo_nil p3
        rw [vn_at hx5 (n := 0) (z := 0) rfl] at d5
        rw [vn_at hx5 (n := 2) (z := z2.toInt) rfl] at d6
        have ey : zt = y5 := Int32.toInt_inj.mp (by omega)
        subst ey
        obtain ⟨x4, s4, rfl, c4, g7⟩ := hsk5.cons
        obtain ⟨x5, s5, rfl, c5, g8⟩ := g7.cons
        obtain ⟨x6, s6, rfl, c6, g9⟩ := g8.cons
        cases g9.nil
        obtain ⟨u4, rfl, w4⟩ := dvn c4 (hx5.at (k := 0) rfl)
        obtain ⟨u5, rfl, w5⟩ := dvn c5 (hx5.at (k := 0) rfl)
        have f6 := ref_of49 ha c6
        subst f6
        obtain ⟨a1, a2, a3, a4⟩ := ev_pull_at (E := E) (t := t) (by omega)
        have e1p : ev_pl E t = ev_pull E t := by
          unfold ev_pl
          rw [if_pos hyes]
        have hfx : ai_fr [(50, 8 + t + 108, 9 + t + 108), (50, 12 + t + 108, 13 + t + 108), (50, 16 + 108, 18 + 108)] ws ws5 := ((n0 f13).tr hf4).tr (n0 hf5)
        have hfW : ai_fr alW9 ws ws5 := fr_sub (fun cc j h q hq => by
          have h1 := h (50, 108, 135) (by unfold alW9; simp)
          dsimp only at h1
          simp only [List.mem_cons, List.not_mem_nil, or_false] at hq
          rcases hq with rfl | rfl | rfl <;> dsimp only <;> omega) hfx
        have m8 : ev_pl E t (8 + t) = min z (E (8 + t) + yl k ((f' + 1 : Nat) : Int) (E (12 + t))) := by
          rw [e1p, a1, ez, eE, e16]
        have m12 : ev_pl E t (12 + t) = min 99 (E (12 + t) + 1) := by
          rw [e1p, a2]
        have hpa2 : paF z k (f' + 1) (E (8 + t)) (E (12 + t)) z2.toInt = paF z k f' (E (8 + t) + yl k ((f' + 1 : Nat) : Int) (E (12 + t))) (min 99 (E (12 + t) + 1)) (z2.toInt + 1) := if_neg (by omega)
        refine ih f' (by omega) (ev_pl E t) u4 u5 y6 ws5 ?_ (by omega) (by omega) (good_pl hn ht hg) ?_ ?_ (by omega) (by omega) ?_ hw5 (hfr.tr hfW) ?_
        · rw [e1p, a4]
          omega
        · rw [ev_pl_ne (by omega) (by omega) (by omega) (by omega)]
          exact eE
        · rw [ev_pl_ne (by omega) (by omega) (by omega) (by omega)]
          exact ez
        · rw [m8, m12, paF_min, show y6.toInt = z2.toInt + 1 by omega, ← hpa2]
          exact hpa
        · refine pev_pl hn ht hc hfx (fun j h1 h2 h3 => wr_no fun q hq => ?_) ?_ ?_ ?_ ?_
          · simp only [List.mem_cons, List.not_mem_nil, or_false] at hq
            rcases hq with rfl | rfl | rfl <;> dsimp only <;> omega
          · rw [e1p, a1]
            exact (q1.fr hf5 rfl).eq (by omega)
          · rw [e1p, a2]
            exact q2.fr hf5 rfl
          · rw [e1p, a4]
            exact q4.fr hf5 rfl
          · rw [e1p, a3]
            exact q3.fr hf5 rfl
    · have hx9 := List.mem_singleton.mp hx
      subst hx9
      dsimp only at hlo hsk ⊢
      simp (config := { decide := true }) only [bnd_b, lin_b, lin_q, Nat.reduceAdd, Nat.zero_add, Nat.reduceEqDiff, reduceIte, and_true, Int.add_zero] at hb hl
      cases hsk.nil
      obtain ⟨y1, y2, rfl, ey1, ey2⟩ := lcs hlo
      exact fin ws1 y1 y2 ey1 ey2 hw1 hf1 (Or.inr (by omega))
theorem al_all {ar t n : Nat} {E : Nat → Int} {zt : Int32} {ws : va_W} (C : ai_cx tb_m139 8 p R s m args c D tys A b L sx cells slots) (ha : ad[49]? = some ar) (hn : n ≤ 4) (ht : t < n) (et : zt.toInt = t) (hg : good n E) (hw : ai_wd tb_TY ad tys ws) (hv : vi ws 49 1 n) (hc : pev ws 108 n E)
    (kk : ∀ (ws' : va_W) (w : Int32) (lv' : List (Nat × Value)), ai_wd tb_TY ad tys ws' → ai_fr alW9 ws ws' → w.toInt = paF (E (4 + t)) (E t) (E 16).toNat (E (8 + t)) (E (12 + t)) 0 → hG tb_m139 p l e R s m args below meth c D A cells slots Q 43 lv' [.int w] ws') : hG tb_m139 p l e R s m args below meth c D A cells slots Q 0 [(0, .ref ar), (1, .int zt)] [] ws := by
  obtain ⟨b5, b6⟩ := hg.2
  refine hsum (st := (0, [(0, (0, 49, 0, 0)), (1, (1, 0, 0, (t : Int)))], [], [(0, 0, false, 0, 0), (0, 2555, false, 1, 0)], [], [])) (List.all_eq_true.mp al_0 t (List.mem_range.mpr (by omega))) rfl C (r := [0, 0]) ⟨en_mk (by simp only [en_b, and_true]; omega) rfl, sb0, ⟨rfl, Or.inl ⟨rfl, ar, ha, rfl⟩, rfl, int_dv (z := 0) rfl (by omega), trivial⟩, trivial, hw, k0, fun _ _ _ _ h => h, fun h => by cases h⟩ (fun x hx r5 lv5 sk5 ws5 hx5 hb5 hl5 hs5 hlo5 hsk5 hw5 hv5 hf5 _ => ?_)
  have hx9 := List.mem_singleton.mp hx
  subst hx9
  dsimp only at hlo5 hsk5 ⊢
  obtain ⟨l1, rfl, p1⟩ := lo_ref ha hlo5
  obtain ⟨y5, l2, rfl, d5, p2⟩ := lo_int rfl p1
  obtain ⟨y6, l3, rfl, d6, p3⟩ := lo_int rfl p2
  cases lo_nil p3
  rw [vn_at hx5 (n := 0) (z := 0) rfl] at d5 d6
  obtain ⟨x4, s4, rfl, c4, g7⟩ := hsk5.cons
  obtain ⟨x5, s5, rfl, c5, g8⟩ := g7.cons
  obtain ⟨x6, s6, rfl, c6, g9⟩ := g8.cons
  cases g9.nil
  obtain ⟨u4, rfl, w4⟩ := dvn c4 (hx5.at (k := 0) rfl)
  obtain ⟨u5, rfl, w5⟩ := dvn c5 (hx5.at (k := 0) rfl)
  have f6 := ref_of49 ha c6
  subst f6
  have e60 : y6.toInt = 0 := by omega
  exact al_loop (ws0 := ws) (z := E (4 + t)) (k := E t) (R0 := paF (E (4 + t)) (E t) (E 16).toNat (E (8 + t)) (E (12 + t)) 0) C ha hn ht (by omega) hv kk (E 16).toNat E u4 u5 y6 ws5 (by omega) (by omega) (by omega) hg rfl rfl (by omega) (by omega) (by rw [e60]) hw5 (wsub_ok (V := []) (by rfl) hf5) (hc.fr hn hf5 (fun _ _ => rfl))
end XAL
