/-! which tests are won, sums over the tests: both sides -/
/-- won from test t on, f more at most -/
def wonF (E : Nat → Int) (n : Nat) : Nat → Nat → Nat → Nat
  | 0, _, acc => acc
  | f + 1, t, acc => if t < n then wonF E n f (t + 1) (if E (8 + t) < E (4 + t) then acc else acc ||| 2 ^ t) else acc
def sumF (F : Nat → Int) (n : Nat) : Nat → Nat → Int → Int
  | 0, _, acc => acc
  | f + 1, t, acc => if t < n then sumF F n f (t + 1) (acc + F t) else acc
theorem or_b : ∀ t, t < 4 → ∀ acc, acc < 16 → acc ||| 2 ^ t < 16 := by decide
theorem or_i : ∀ t, t < 4 → ∀ acc, acc < 16 → (Int32.ofNat acc ||| ((1 : Int32) <<< (Int32.ofNat t &&& 31))).toInt = ((acc ||| 2 ^ t : Nat) : Int) := by decide +kernel
theorem or_0 : ∀ acc, acc < 16 → (Int32.ofNat acc ||| (0 : Int32)).toInt = (acc : Int) := by decide +kernel
theorem i32_of {z : Int32} {n : Nat} (hn : n < 2147483648) (h : z.toInt = n) : z = Int32.ofNat n := Int32.toInt_inj.mp (by rw [h]; exact (nI_toInt (by omega)).symm)
section HOR
variable {ad : List Nat} {M : ai_m} {d : Nat} {p : Program} {l : Launch} {e : Env} {R : Room} {s : State} {m : MethodId} {args : Array Value} {below : List Frame} {meth : Method} {c : Code} {D : va_G} {tys : ai_ty} {A : Nat → Prop} {b L : Nat} {sx : Nat → Int32} {cells slots : Nat} {Q : State → Prop}
theorem hior {pc : Nat} {x y : Int32} {ws : va_W} {sk : List Value} {lv : List (Nat × Value)} (C : ai_cx M d p R s m args c D tys A b L sx cells slots) (hd : decode M.2.1 pc = .ok (.ior, 1)) (k : hG M p l e R s m args below meth c D A cells slots Q (pc + 1) lv (.int (x ||| y) :: sk) ws) : hG M p l e R s m args below meth c D A cells slots Q pc lv (.int y :: .int x :: sk) ws := by
  intro H locs ls hP hD hS hl
  exact lv_ior C.1 C.2.1 hd (k H locs ls hP hD hS hl)
theorem hild2 {pc : Nat} {j : Fin 4} {x : Int32} {ws : va_W} {sk : List Value} {lv : List (Nat × Value)} (C : ai_cx M d p R s m args c D tys A b L sx cells slots) (hd : decode M.2.1 pc = .ok (.iload_n j, 1)) (hm : ((j : Nat), Value.int x) ∈ lv)
    (k : hG M p l e R s m args below meth c D A cells slots Q (pc + 1) lv (.int x :: sk) ws) : hG M p l e R s m args below meth c D A cells slots Q pc lv sk ws := by
  intro H locs ls hP hD hS hl
  obtain ⟨n, hn, hx⟩ := List.getElem_of_mem hm
  exact lv_iload_n C.1 C.2.1 hd rfl (lv_at hl n (by rw [List.getElem?_eq_getElem hn, hx])) (k H locs ls hP hD hS hl)
theorem hildw {pc j : Nat} {x : Int32} {ws : va_W} {sk : List Value} {lv : List (Nat × Value)} (C : ai_cx M d p R s m args c D tys A b L sx cells slots) (hd : decode M.2.1 pc = .ok (.iload j, 2)) (hm : (j, Value.int x) ∈ lv)
    (k : hG M p l e R s m args below meth c D A cells slots Q (pc + 2) lv (.int x :: sk) ws) : hG M p l e R s m args below meth c D A cells slots Q pc lv sk ws := by
  intro H locs ls hP hD hS hl
  obtain ⟨n, hn, hx⟩ := List.getElem_of_mem hm
  exact lv_iload C.1 C.2.1 hd (lv_at hl n (by rw [List.getElem?_eq_getElem hn, hx])) (k H locs ls hP hD hS hl)
theorem hald2 {pc : Nat} {j : Fin 4} {x : Nat} {ws : va_W} {sk : List Value} {lv : List (Nat × Value)} (C : ai_cx M d p R s m args c D tys A b L sx cells slots) (hd : decode M.2.1 pc = .ok (.aload_n j, 1)) (hm : ((j : Nat), Value.ref x) ∈ lv)
    (k : hG M p l e R s m args below meth c D A cells slots Q (pc + 1) lv (.ref x :: sk) ws) : hG M p l e R s m args below meth c D A cells slots Q pc lv sk ws := by
  intro H locs ls hP hD hS hl
  obtain ⟨n, hn, hx⟩ := List.getElem_of_mem hm
  exact lv_aload_n C.1 C.2.1 hd rfl (lv_at hl n (by rw [List.getElem?_eq_getElem hn, hx])) (k H locs ls hP hD hS hl)
end HOR
/-! wonBits -/
theorem wb_e : (([1, 7] : List Nat).all fun cl => (List.range 5).all fun t => (ai_ex (hk []) 60 5 tb_m5 6 [4] (5, [(0, (0, cl, 0, 0)), (1, (1, 3, 0, 0)), (2, (1, 0, 0, (t : Int)))], [(1, 0, 0, (t : Int))], [(0, 0, false, 0, 0), (0, 2555, false, 1, 0), (0, (t : Int), false, 2, 0), (0, 15, false, 3, 0)], [(cl, 0, (1, 2, 0, 0))], [])).any fun xs => xs.all fun x => ([(33, [], [(1, 3, 0, 0)], [], [(0, 0, false, 0, 0), (0, 2555, false, 1, 0), (0, (t : Int), false, 2, 0), (0, 15, false, 3, 0)], [])] : List sm_t).any fun y => sm_is [] x y) = true := by decide +kernel
theorem wb_m : (([1, 7] : List Nat).all fun cl => (List.range 4).all fun t => (ai_ex (hk []) 60 5 tb_m5 6 [4, 23] (5, [(0, (0, cl, 0, 0)), (1, (1, 5, 0, 0)), (2, (1, 0, 0, (t : Int)))], [(1, 0, 0, (t : Int))], [(0, 0, false, 0, 0), (0, 2555, false, 1, 0), ((t : Int) + 1, 4, false, 2, 0), (1, 99, false, 3, 0), (0, 99, false, 4, 0), (0, 15, false, 5, 0)], [(cl, 0, (1, 2, 0, 0)), (cl + 2, t, (1, 3, 0, 0)), (cl + 3, t, (1, 4, 0, 0))], [])).any fun xs => xs.all fun x => ([(23, [(0, (0, cl, 0, 0)), (1, (1, 5, 0, 0)), (2, (1, 0, 0, (t : Int)))], [(1, 0, 0, (t : Int)), (1, 0, 0, 1), (1, 5, 0, 0)], [], [(0, 0, false, 0, 0), (0, 2555, false, 1, 0), ((t : Int) + 1, 4, false, 2, 0), (1, 99, false, 3, 0), (1, 99, false, 4, 0), (0, 15, false, 5, 0)], [(5, 4, 3, 4, 0)]), (4, [(0, (0, cl, 0, 0)), (1, (1, 5, 0, 0)), (2, (1, 0, 0, (t : Int) + 1))], [], [], [(0, 0, false, 0, 0), (0, 2555, false, 1, 0), ((t : Int) + 1, 4, false, 2, 0), (1, 99, false, 3, 0), (0, 98, false, 4, 0), (0, 15, false, 5, 0)], [(4, 4, 3, 4, 0)])] : List sm_t).any fun y => sm_is [] x y) = true := by decide +kernel
theorem wb_b : (([1, 7] : List Nat).all fun cl => (List.range 4).all fun t => (ai_ex (hk []) 60 5 tb_m5 6 [4] (25, [(0, (0, cl, 0, 0)), (2, (1, 0, 0, (t : Int)))], [(1, 2, 0, 0)], [(0, 0, false, 0, 0), (0, 2555, false, 1, 0), (0, 15, false, 2, 0)], [], [])).any fun xs => xs.all fun x => ([(4, [(0, (0, cl, 0, 0)), (1, (1, 2, 0, 0)), (2, (1, 0, 0, (t : Int) + 1))], [], [], [(0, 0, false, 0, 0), (0, 2555, false, 1, 0), (0, 15, false, 2, 0)], [])] : List sm_t).any fun y => sm_is [] x y) = true := by decide +kernel
section Lwb
variable {ad : List Nat} {M : ai_m} {d : Nat} {p : Program} {l : Launch} {e : Env} {R : Room} {s : State} {m : MethodId} {args : Array Value} {below : List Frame} {meth : Method} {c : Code} {D : va_G} {tys : ai_ty} {A : Nat → Prop} {b L : Nat} {sx : Nat → Int32} {cells slots : Nat} {Q : State → Prop}
theorem wb_loop {cl a n : Nat} {E : Nat → Int} {ws0 : va_W} (C : ai_cx tb_m5 6 p R s m args c D tys A b L sx cells slots) (hg0 : cl = 1 ∨ cl = 7) (ha : ad[cl]? = some a) (hn : n ≤ 4) (hg : good n E)
    (kk : ∀ (ws' : va_W) (z : Int32) (lv' : List (Nat × Value)), ai_wd tb_TY ad tys ws' → ai_fr [] ws0 ws' → z.toInt = wonF E n 5 0 0 → hG tb_m5 p l e R s m args below meth c D A cells slots Q 33 lv' [.int z] ws') :
    ∀ (f t : Nat) (acc : Nat) (za zt : Int32) (ws : va_W), t + f = 5 → t ≤ 4 → acc < 16 → za.toInt = acc → zt.toInt = t → wonF E n f t acc = wonF E n 5 0 0 → ai_wd tb_TY ad tys ws → ai_fr [] ws0 ws → (vi ws cl 0 n ∧ cev ws cl n E) → hG tb_m5 p l e R s m args below meth c D A cells slots Q 4 [(0, .ref a), (1, .int za), (2, .int zt)] [] ws := by
  intro f
  induction f with
  | zero =>
    intro t acc za zt ws hf h4 _ _ _ _ _ _ _
    exact absurd hf (by omega)
  | succ f ih =>
    intro t acc za zt ws hf h4 hac eza ezt hW hw hfr hh
    refine hild2 (j := 2) (x := zt) C (tv_m5.1.1.1 (4, .iload_n 2, 1) (List.mem_of_getElem? (i := 4) rfl)) (List.mem_of_getElem? (i := 2) rfl) ?_
    by_cases htn : t < n
    · obtain ⟨-, c2, c3, -⟩ := hh.2.1 t htn
      obtain ⟨-, g2, g3, -⟩ := hg.1 t htn
      refine hsum (st := (5, [(0, (0, cl, 0, 0)), (1, (1, 5, 0, 0)), (2, (1, 0, 0, (t : Int)))], [(1, 0, 0, (t : Int))], [(0, 0, false, 0, 0), (0, 2555, false, 1, 0), ((t : Int) + 1, 4, false, 2, 0), (1, 99, false, 3, 0), (0, 99, false, 4, 0), (0, 15, false, 5, 0)], [(cl, 0, (1, 2, 0, 0)), (cl + 2, t, (1, 3, 0, 0)), (cl + 3, t, (1, 4, 0, 0))], [])) (List.all_eq_true.mp (List.all_eq_true.mp wb_m cl (by rcases hg0 with rfl | rfl <;> simp)) t (List.mem_range.mpr (by omega))) rfl C (r := [0, 0, (n : Int), E (4 + t), E (8 + t), (acc : Int)]) ⟨en_mk (by simp only [en_b, and_true]; omega) rfl, sb0, ⟨rfl, Or.inl ⟨rfl, a, ha, rfl⟩, rfl, int_dv (z := (acc : Int)) rfl (by omega), rfl, int_dv (z := 0) rfl (by omega), trivial⟩, ⟨int_dv (z := 0) rfl (by omega), trivial⟩, hw, kc (hh.1.kn (n := 2) (t := (n : Int)) rfl (by omega)) (kc (c2.kn (n := 3) (t := E (4 + t)) rfl (by omega)) (kc (c3.kn (n := 4) (t := E (8 + t)) rfl (by omega)) k0)), fun _ _ _ _ h => h, fun h => by cases h⟩ (fun x hx r' lv' sk' ws1 hx' hb hl hs hlo hsk hw1 hv' hf1 _ => ?_)
      have h3 := nm_x hx' (k := 3) rfl
      have h4' := nm_x hx' (k := 4) rfl
      have hh1 : (vi ws1 cl 0 n ∧ cev ws1 cl n E) := ⟨hh.1.fr hf1 rfl, hh.2.fr hf1 rfl⟩
      rcases List.mem_cons.mp hx with rfl | hx
      · dsimp only at hlo hsk ⊢
        obtain ⟨lw1, rfl, pw1⟩ := lo_ref ha hlo
        obtain ⟨ya, lw2, rfl, da, pw2⟩ := lo_int rfl pw1
        obtain ⟨yt, lw3, rfl, dt, pw3⟩ := lo_int rfl pw2
        cases lo_nil pw3
        rw [vn_at hx' (n := 0) (z := 0) rfl] at dt
        rw [vn_at hx' (n := 5) (z := (acc : Int)) rfl] at da
        obtain ⟨x1, s1, rfl, d1, g4⟩ := hsk.cons
        obtain ⟨x2, s2, rfl, d2, g5⟩ := g4.cons
        obtain ⟨x3, s3, rfl, d3, g6⟩ := g5.cons
        cases g6.nil
        obtain ⟨u1, rfl, w1⟩ := dvn d1 (hx'.at (k := 0) rfl)
        obtain ⟨u2, rfl, w2⟩ := dvn d2 (hx'.at (k := 0) rfl)
        obtain ⟨u3, rfl, w3⟩ := dvn d3 (hx'.at (k := 5) rfl)
        have q1 : u1 = Int32.ofNat t := i32_of (by omega) (by omega)
        have q2 : u2 = 1 := Int32.toInt_inj.mp (by rw [w2]; decide)
        have q3 : u3 = Int32.ofNat acc := i32_of (by omega) (by omega)
        subst q1 q2 q3
        have hne : ¬ (E (8 + t) < E (4 + t)) := by
          simp (config := { decide := true }) only [bnd_b, lin_b, lin_q, Nat.reduceAdd, Nat.zero_add, Nat.reduceEqDiff, reduceIte, and_true, Int.add_zero] at hb hl
          omega
        have hor := or_i t (by omega) acc hac
        refine hishl (pc := 23) C (tv_m5.1.1.1 (23, .ishl, 1) (List.mem_of_getElem? (i := 15) rfl)) ?_
        refine hior (pc := 24) C (tv_m5.1.1.1 (24, .ior, 1) (List.mem_of_getElem? (i := 16) rfl)) ?_
        have hob := or_b t (by omega) acc hac
        refine hG_sub (lv2 := [(0, .ref a), (2, .int yt)]) (by
          intro q hq
          simp only [List.mem_cons, List.not_mem_nil, or_false] at hq ⊢
          rcases hq with rfl | rfl <;> simp) ?_
        refine hsum (st := (25, [(0, (0, cl, 0, 0)), (2, (1, 0, 0, (t : Int)))], [(1, 2, 0, 0)], [(0, 0, false, 0, 0), (0, 2555, false, 1, 0), (0, 15, false, 2, 0)], [], [])) (List.all_eq_true.mp (List.all_eq_true.mp wb_b cl (by rcases hg0 with rfl | rfl <;> simp)) t (List.mem_range.mpr (by omega))) rfl C (r := [0, 0, ((acc ||| 2 ^ t : Nat) : Int)]) ⟨en_mk (by simp only [en_b, and_true]; omega) rfl, sb0, ⟨rfl, Or.inl ⟨rfl, a, ha, rfl⟩, rfl, int_dv (z := 0) rfl (by omega), trivial⟩, ⟨int_dv (z := ((acc ||| 2 ^ t : Nat) : Int)) rfl (by omega), trivial⟩, hw1, k0, fun _ _ _ _ h => h, fun h => by cases h⟩ (fun x hx r2 lv2 sk2 ws2 hx2 hb2 hl2 hs2 hlo2 hsk2 hw2 hv2 hf2 _ => ?_)
        rw [List.mem_singleton.mp hx] at hlo2 hsk2 ⊢
        dsimp only at hlo2 hsk2 ⊢
        cases hsk2.nil
        obtain ⟨lx1, rfl, px1⟩ := lo_ref ha hlo2
        obtain ⟨ya2, lx2, rfl, da2, px2⟩ := lo_int rfl px1
        obtain ⟨yt2, lx3, rfl, dt2, px3⟩ := lo_int rfl px2
        cases lo_nil px3
        rw [vn_at hx2 (n := 0) (z := 0) rfl] at dt2
        rw [vn_at hx2 (n := 2) (z := ((acc ||| 2 ^ t : Nat) : Int)) rfl] at da2
        refine ih (t + 1) (acc ||| 2 ^ t) ya2 yt2 ws2 (by omega) (by omega) hob (by omega) (by omega) ?_ hw2 ((hfr.tr hf1).tr hf2) ⟨hh1.1.fr hf2 rfl, hh1.2.fr hf2 rfl⟩
        rw [← hW]
        show _ = (if t < n then wonF E n f (t + 1) (if E (8 + t) < E (4 + t) then acc else acc ||| 2 ^ t) else acc)
        rw [if_pos htn, if_neg hne]
      · have hx9 := List.mem_singleton.mp hx
        subst hx9
        dsimp only at hlo hsk ⊢
        cases hsk.nil
        obtain ⟨lw1, rfl, pw1⟩ := lo_ref ha hlo
        obtain ⟨ya, lw2, rfl, da, pw2⟩ := lo_int rfl pw1
        obtain ⟨yt, lw3, rfl, dt, pw3⟩ := lo_int rfl pw2
        cases lo_nil pw3
        rw [vn_at hx' (n := 0) (z := 0) rfl] at dt
        rw [vn_at hx' (n := 5) (z := (acc : Int)) rfl] at da
        have hlt : E (8 + t) < E (4 + t) := by
          simp (config := { decide := true }) only [bnd_b, lin_b, lin_q, Nat.reduceAdd, Nat.zero_add, Nat.reduceEqDiff, reduceIte, and_true, Int.add_zero] at hb hl
          omega
        refine ih (t + 1) acc ya yt ws1 (by omega) (by omega) hac (by omega) (by omega) ?_ hw1 (hfr.tr hf1) hh1
        rw [← hW]
        show _ = (if t < n then wonF E n f (t + 1) (if E (8 + t) < E (4 + t) then acc else acc ||| 2 ^ t) else acc)
        rw [if_pos htn, if_pos hlt]
    · refine hsum (st := (5, [(0, (0, cl, 0, 0)), (1, (1, 3, 0, 0)), (2, (1, 0, 0, (t : Int)))], [(1, 0, 0, (t : Int))], [(0, 0, false, 0, 0), (0, 2555, false, 1, 0), (0, (t : Int), false, 2, 0), (0, 15, false, 3, 0)], [(cl, 0, (1, 2, 0, 0))], [])) (List.all_eq_true.mp (List.all_eq_true.mp wb_e cl (by rcases hg0 with rfl | rfl <;> simp)) t (List.mem_range.mpr (by omega))) rfl C (r := [0, 0, (n : Int), (acc : Int)]) ⟨en_mk (by simp only [en_b, and_true]; omega) rfl, sb0, ⟨rfl, Or.inl ⟨rfl, a, ha, rfl⟩, rfl, int_dv (z := (acc : Int)) rfl (by omega), rfl, int_dv (z := 0) rfl (by omega), trivial⟩, ⟨int_dv (z := 0) rfl (by omega), trivial⟩, hw, kc (hh.1.kn (n := 2) (t := (n : Int)) rfl (by omega)) k0, fun _ _ _ _ h => h, fun h => by cases h⟩ (fun x hx r' lv' sk' ws1 hx' hb hl hs hlo hsk hw1 hv' hf1 _ => ?_)
      have hx9 := List.mem_singleton.mp hx
      subst hx9
      obtain ⟨z, rfl, hz⟩ := sk1 rfl hsk
      rw [vn_at hx' (n := 3) (z := (acc : Int)) rfl] at hz
      refine kk ws1 z lv' hw1 (hfr.tr hf1) ?_
      rw [hz, ← hW]
      show _ = ((wonF E n (f + 1) t acc : Nat) : Int)
      unfold wonF
      rw [if_neg htn]
      exact Int.add_zero _
end Lwb
theorem wb_0 : (([1, 7] : List Nat).all fun cl => (ai_ex (hk []) 20 5 tb_m5 6 [4] (0, [(0, (0, cl, 0, 0))], [], [(0, 0, false, 0, 0), (0, 2555, false, 1, 0)], [], [])).any fun xs => xs.all fun x => ([(4, [(0, (0, cl, 0, 0)), (1, (1, 0, 0, 0)), (2, (1, 0, 0, 0))], [], [], [(0, 0, false, 0, 0), (0, 2555, false, 1, 0)], [])] : List sm_t).any fun y => sm_is [] x y) = true := by decide +kernel
section Mwb
variable {ad : List Nat} {M : ai_m} {d : Nat} {p : Program} {l : Launch} {e : Env} {R : Room} {s : State} {m : MethodId} {args : Array Value} {below : List Frame} {meth : Method} {c : Code} {D : va_G} {tys : ai_ty} {A : Nat → Prop} {b L : Nat} {sx : Nat → Int32} {cells slots : Nat} {Q : State → Prop}
theorem wb_all {cl a n : Nat} {E : Nat → Int} {ws : va_W} (C : ai_cx tb_m5 6 p R s m args c D tys A b L sx cells slots) (hg0 : cl = 1 ∨ cl = 7) (ha : ad[cl]? = some a) (hn : n ≤ 4) (hg : good n E) (hw : ai_wd tb_TY ad tys ws) (hh : (vi ws cl 0 n ∧ cev ws cl n E))
    (kk : ∀ (ws' : va_W) (z : Int32) (lv' : List (Nat × Value)), ai_wd tb_TY ad tys ws' → ai_fr [] ws ws' → z.toInt = wonF E n 5 0 0 → hG tb_m5 p l e R s m args below meth c D A cells slots Q 33 lv' [.int z] ws') : hG tb_m5 p l e R s m args below meth c D A cells slots Q 0 [(0, .ref a)] [] ws := by
  refine hsum (st := (0, [(0, (0, cl, 0, 0))], [], [(0, 0, false, 0, 0), (0, 2555, false, 1, 0)], [], [])) (List.all_eq_true.mp wb_0 cl (by rcases hg0 with rfl | rfl <;> simp)) rfl C (r := [0, 0]) ⟨en_mk (by simp only [en_b, and_true]; omega) rfl, sb0, ⟨rfl, Or.inl ⟨rfl, a, ha, rfl⟩, trivial⟩, trivial, hw, k0, fun _ _ _ _ h => h, fun h => by cases h⟩ (fun x hx r' lv' sk' ws1 hx' hb hl hs hlo hsk hw1 hv' hf1 _ => ?_)
  rw [List.mem_singleton.mp hx] at hlo hsk ⊢
  dsimp only at hlo hsk ⊢
  cases hsk.nil
  obtain ⟨lw1, rfl, pw1⟩ := lo_ref ha hlo
  obtain ⟨ya, lw2, rfl, da, pw2⟩ := lo_int rfl pw1
  obtain ⟨yt, lw3, rfl, dt, pw3⟩ := lo_int rfl pw2
  cases lo_nil pw3
  rw [vn_at hx' (n := 0) (z := 0) rfl] at dt
  rw [vn_at hx' (n := 0) (z := 0) rfl] at da
  exact wb_loop (ws0 := ws) C hg0 ha hn hg (fun ws' z lv h1 h2 h3 => kk ws' z lv h1 h2 h3) 5 0 0 ya yt ws1 rfl (by decide) (by decide) (by omega) (by omega) rfl hw1 hf1 ⟨hh.1.fr hf1 rfl, hh.2.fr hf1 rfl⟩
end Mwb
/-! wonOn -/
theorem wo_e : (([0, 108] : List Nat).all fun pg => (List.range 5).all fun t => (ai_ex (hk []) 60 116 tb_m116 6 [4] (5, [(0, (0, 49, 0, 0)), (1, (1, 0, 0, (pg : Int))), (2, (1, 3, 0, 0)), (3, (1, 0, 0, (t : Int)))], [(1, 0, 0, (t : Int))], [(0, 0, false, 0, 0), (0, 2555, false, 1, 0), (0, (t : Int), false, 2, 0), (0, 15, false, 3, 0)], [(49, 1, (1, 2, 0, 0))], [])).any fun xs => xs.all fun x => ([(38, [], [(1, 3, 0, 0)], [], [(0, 0, false, 0, 0), (0, 2555, false, 1, 0), (0, (t : Int), false, 2, 0), (0, 15, false, 3, 0)], [])] : List sm_t).any fun y => sm_is [] x y) = true := by decide +kernel
theorem wo_m : (([0, 108] : List Nat).all fun pg => (List.range 4).all fun t => (ai_ex (hk []) 60 116 tb_m116 6 [4, 24, 29] (5, [(0, (0, 49, 0, 0)), (1, (1, 0, 0, (pg : Int))), (2, (1, 5, 0, 0)), (3, (1, 0, 0, (t : Int)))], [(1, 0, 0, (t : Int))], [(0, 0, false, 0, 0), (0, 2555, false, 1, 0), ((t : Int) + 1, 4, false, 2, 0), (1, 99, false, 3, 0), (0, 99, false, 4, 0), (0, 15, false, 5, 0)], [(49, 1, (1, 2, 0, 0)), (50, 4 + t + pg, (1, 3, 0, 0)), (50, 8 + t + pg, (1, 4, 0, 0))], [])).any fun xs => xs.all fun x => ([(24, [(0, (0, 49, 0, 0)), (1, (1, 0, 0, (pg : Int))), (2, (1, 5, 0, 0)), (3, (1, 0, 0, (t : Int)))], [(1, 0, 0, (t : Int)), (1, 0, 0, 1), (1, 5, 0, 0)], [], [(0, 0, false, 0, 0), (0, 2555, false, 1, 0), ((t : Int) + 1, 4, false, 2, 0), (1, 99, false, 3, 0), (1, 99, false, 4, 0), (0, 15, false, 5, 0)], [(4, 4, 3, 4, 1), (5, 4, 3, 4, 0)]), (29, [(0, (0, 49, 0, 0)), (1, (1, 0, 0, (pg : Int))), (2, (1, 5, 0, 0)), (3, (1, 0, 0, (t : Int)))], [(1, 0, 0, 0), (1, 5, 0, 0)], [], [(0, 0, false, 0, 0), (0, 2555, false, 1, 0), ((t : Int) + 1, 4, false, 2, 0), (1, 99, false, 3, 0), (0, 99, false, 4, 0), (0, 15, false, 5, 0)], [(140, 4, 3, 4, 0)])] : List sm_t).any fun y => sm_is [] x y) = true := by decide +kernel
theorem wo_b : (([0, 108] : List Nat).all fun pg => (List.range 4).all fun t => (ai_ex (hk []) 60 116 tb_m116 6 [4] (30, [(0, (0, 49, 0, 0)), (1, (1, 0, 0, (pg : Int))), (3, (1, 0, 0, (t : Int)))], [(1, 2, 0, 0)], [(0, 0, false, 0, 0), (0, 2555, false, 1, 0), (0, 15, false, 2, 0)], [], [])).any fun xs => xs.all fun x => ([(4, [(0, (0, 49, 0, 0)), (1, (1, 0, 0, (pg : Int))), (2, (1, 2, 0, 0)), (3, (1, 0, 0, (t : Int) + 1))], [], [], [(0, 0, false, 0, 0), (0, 2555, false, 1, 0), (0, 15, false, 2, 0)], [])] : List sm_t).any fun y => sm_is [] x y) = true := by decide +kernel
section Lwo
variable {ad : List Nat} {M : ai_m} {d : Nat} {p : Program} {l : Launch} {e : Env} {R : Room} {s : State} {m : MethodId} {args : Array Value} {below : List Frame} {meth : Method} {c : Code} {D : va_G} {tys : ai_ty} {A : Nat → Prop} {b L : Nat} {sx : Nat → Int32} {cells slots : Nat} {Q : State → Prop}
theorem wo_loop {pg a n : Nat} {E : Nat → Int} {zp : Int32} {ws0 : va_W} (C : ai_cx tb_m116 6 p R s m args c D tys A b L sx cells slots) (hg0 : pg = 0 ∨ pg = 108) (ha : ad[49]? = some a) (hzp : zp.toInt = pg) (hn : n ≤ 4) (hg : good n E)
    (kk : ∀ (ws' : va_W) (z : Int32) (lv' : List (Nat × Value)), ai_wd tb_TY ad tys ws' → ai_fr [] ws0 ws' → z.toInt = wonF E n 5 0 0 → hG tb_m116 p l e R s m args below meth c D A cells slots Q 38 lv' [.int z] ws') :
    ∀ (f t : Nat) (acc : Nat) (za zt : Int32) (ws : va_W), t + f = 5 → t ≤ 4 → acc < 16 → za.toInt = acc → zt.toInt = t → wonF E n f t acc = wonF E n 5 0 0 → ai_wd tb_TY ad tys ws → ai_fr [] ws0 ws → (vi ws 49 1 n ∧ pev ws pg n E) → hG tb_m116 p l e R s m args below meth c D A cells slots Q 4 [(0, .ref a), (1, .int zp), (2, .int za), (3, .int zt)] [] ws := by
  intro f
  induction f with
  | zero =>
    intro t acc za zt ws hf h4 _ _ _ _ _ _ _
    exact absurd hf (by omega)
  | succ f ih =>
    intro t acc za zt ws hf h4 hac eza ezt hW hw hfr hh
    refine hild2 (j := 3) (x := zt) C (tv_m116.1.1.1 (4, .iload_n 3, 1) (List.mem_of_getElem? (i := 4) rfl)) (List.mem_of_getElem? (i := 3) rfl) ?_
    by_cases htn : t < n
    · obtain ⟨-, c2, c3, -⟩ := hh.2.1 t htn
      obtain ⟨-, g2, g3, -⟩ := hg.1 t htn
      refine hsum (st := (5, [(0, (0, 49, 0, 0)), (1, (1, 0, 0, (pg : Int))), (2, (1, 5, 0, 0)), (3, (1, 0, 0, (t : Int)))], [(1, 0, 0, (t : Int))], [(0, 0, false, 0, 0), (0, 2555, false, 1, 0), ((t : Int) + 1, 4, false, 2, 0), (1, 99, false, 3, 0), (0, 99, false, 4, 0), (0, 15, false, 5, 0)], [(49, 1, (1, 2, 0, 0)), (50, 4 + t + pg, (1, 3, 0, 0)), (50, 8 + t + pg, (1, 4, 0, 0))], [])) (List.all_eq_true.mp (List.all_eq_true.mp wo_m pg (by rcases hg0 with rfl | rfl <;> simp)) t (List.mem_range.mpr (by omega))) rfl C (r := [0, 0, (n : Int), E (4 + t), E (8 + t), (acc : Int)]) ⟨en_mk (by simp only [en_b, and_true]; omega) rfl, sb0, ⟨rfl, Or.inl ⟨rfl, a, ha, rfl⟩, rfl, int_dv (z := 0) rfl (by omega), rfl, int_dv (z := (acc : Int)) rfl (by omega), rfl, int_dv (z := 0) rfl (by omega), trivial⟩, ⟨int_dv (z := 0) rfl (by omega), trivial⟩, hw, kc (hh.1.kn (n := 2) (t := (n : Int)) rfl (by omega)) (kc (c2.kn (n := 3) (t := E (4 + t)) rfl (by omega)) (kc (c3.kn (n := 4) (t := E (8 + t)) rfl (by omega)) k0)), fun _ _ _ _ h => h, fun h => by cases h⟩ (fun x hx r' lv' sk' ws1 hx' hb hl hs hlo hsk hw1 hv' hf1 _ => ?_)
      have h3 := nm_x hx' (k := 3) rfl
      have h4' := nm_x hx' (k := 4) rfl
      have hh1 : (vi ws1 49 1 n ∧ pev ws1 pg n E) := ⟨hh.1.fr hf1 rfl, hh.2.fr hn hf1 (fun _ _ => rfl)⟩
      rcases List.mem_cons.mp hx with rfl | hx
      · dsimp only at hlo hsk ⊢
        obtain ⟨lw1, rfl, pw1⟩ := lo_ref ha hlo
        obtain ⟨yp, lw2, rfl, dp, pw2⟩ := lo_int rfl pw1
        obtain ⟨ya, lw3, rfl, da, pw3⟩ := lo_int rfl pw2
        obtain ⟨yt, lw4, rfl, dt, pw4⟩ := lo_int rfl pw3
        cases lo_nil pw4
        rw [vn_at hx' (n := 0) (z := 0) rfl] at dp
        have ep : zp = yp := Int32.toInt_inj.mp (by omega)
        subst ep
        rw [vn_at hx' (n := 0) (z := 0) rfl] at dt
        rw [vn_at hx' (n := 5) (z := (acc : Int)) rfl] at da
        obtain ⟨x1, s1, rfl, d1, g4⟩ := hsk.cons
        obtain ⟨x2, s2, rfl, d2, g5⟩ := g4.cons
        obtain ⟨x3, s3, rfl, d3, g6⟩ := g5.cons
        cases g6.nil
        obtain ⟨u1, rfl, w1⟩ := dvn d1 (hx'.at (k := 0) rfl)
        obtain ⟨u2, rfl, w2⟩ := dvn d2 (hx'.at (k := 0) rfl)
        obtain ⟨u3, rfl, w3⟩ := dvn d3 (hx'.at (k := 5) rfl)
        have q1 : u1 = Int32.ofNat t := i32_of (by omega) (by omega)
        have q2 : u2 = 1 := Int32.toInt_inj.mp (by rw [w2]; decide)
        have q3 : u3 = Int32.ofNat acc := i32_of (by omega) (by omega)
        subst q1 q2 q3
        have hne : ¬ (E (8 + t) < E (4 + t)) := by
          simp (config := { decide := true }) only [bnd_b, lin_b, lin_q, Nat.reduceAdd, Nat.zero_add, Nat.reduceEqDiff, reduceIte, and_true, Int.add_zero] at hb hl
          omega
        have hor := or_i t (by omega) acc hac
        refine hishl (pc := 24) C (tv_m116.1.1.1 (24, .ishl, 1) (List.mem_of_getElem? (i := 16) rfl)) ?_
        refine hgoto (pc := 25) (tgt := 29) C (tv_m116.1.1.1 (25, .goto 4, 3) (List.mem_of_getElem? (i := 17) rfl)) (by decide) ?_
        refine hior (pc := 29) C (tv_m116.1.1.1 (29, .ior, 1) (List.mem_of_getElem? (i := 19) rfl)) ?_
        have hob := or_b t (by omega) acc hac
        refine hG_sub (lv2 := [(0, .ref a), (1, .int zp), (3, .int yt)]) (by
          intro q hq
          simp only [List.mem_cons, List.not_mem_nil, or_false] at hq ⊢
          rcases hq with rfl | rfl | rfl <;> simp) ?_
        refine hsum (st := (30, [(0, (0, 49, 0, 0)), (1, (1, 0, 0, (pg : Int))), (3, (1, 0, 0, (t : Int)))], [(1, 2, 0, 0)], [(0, 0, false, 0, 0), (0, 2555, false, 1, 0), (0, 15, false, 2, 0)], [], [])) (List.all_eq_true.mp (List.all_eq_true.mp wo_b pg (by rcases hg0 with rfl | rfl <;> simp)) t (List.mem_range.mpr (by omega))) rfl C (r := [0, 0, ((acc ||| 2 ^ t : Nat) : Int)]) ⟨en_mk (by simp only [en_b, and_true]; omega) rfl, sb0, ⟨rfl, Or.inl ⟨rfl, a, ha, rfl⟩, rfl, int_dv (z := 0) rfl (by omega), rfl, int_dv (z := 0) rfl (by omega), trivial⟩, ⟨int_dv (z := ((acc ||| 2 ^ t : Nat) : Int)) rfl (by omega), trivial⟩, hw1, k0, fun _ _ _ _ h => h, fun h => by cases h⟩ (fun x hx r2 lv2 sk2 ws2 hx2 hb2 hl2 hs2 hlo2 hsk2 hw2 hv2 hf2 _ => ?_)
        rw [List.mem_singleton.mp hx] at hlo2 hsk2 ⊢
        dsimp only at hlo2 hsk2 ⊢
        cases hsk2.nil
        obtain ⟨lx1, rfl, px1⟩ := lo_ref ha hlo2
        obtain ⟨yp2, lx2, rfl, dp2, px2⟩ := lo_int rfl px1
        obtain ⟨ya2, lx3, rfl, da2, px3⟩ := lo_int rfl px2
        obtain ⟨yt2, lx4, rfl, dt2, px4⟩ := lo_int rfl px3
        cases lo_nil px4
        rw [vn_at hx2 (n := 0) (z := 0) rfl] at dp2
        have ep2 : zp = yp2 := Int32.toInt_inj.mp (by omega)
        subst ep2
        rw [vn_at hx2 (n := 0) (z := 0) rfl] at dt2
        rw [vn_at hx2 (n := 2) (z := ((acc ||| 2 ^ t : Nat) : Int)) rfl] at da2
        refine ih (t + 1) (acc ||| 2 ^ t) ya2 yt2 ws2 (by omega) (by omega) hob (by omega) (by omega) ?_ hw2 ((hfr.tr hf1).tr hf2) ⟨hh1.1.fr hf2 rfl, hh1.2.fr hn hf2 (fun _ _ => rfl)⟩
        rw [← hW]
        show _ = (if t < n then wonF E n f (t + 1) (if E (8 + t) < E (4 + t) then acc else acc ||| 2 ^ t) else acc)
        rw [if_pos htn, if_neg hne]
      · have hx9 := List.mem_singleton.mp hx
        subst hx9
        dsimp only at hlo hsk ⊢
        obtain ⟨lw1, rfl, pw1⟩ := lo_ref ha hlo
        obtain ⟨yp, lw2, rfl, dp, pw2⟩ := lo_int rfl pw1
        obtain ⟨ya, lw3, rfl, da, pw3⟩ := lo_int rfl pw2
        obtain ⟨yt, lw4, rfl, dt, pw4⟩ := lo_int rfl pw3
        cases lo_nil pw4
        rw [vn_at hx' (n := 0) (z := 0) rfl] at dp
        have ep : zp = yp := Int32.toInt_inj.mp (by omega)
        subst ep
        rw [vn_at hx' (n := 0) (z := 0) rfl] at dt
        rw [vn_at hx' (n := 5) (z := (acc : Int)) rfl] at da
        obtain ⟨x2, s2, rfl, d2, g5⟩ := hsk.cons
        obtain ⟨x3, s3, rfl, d3, g6⟩ := g5.cons
        cases g6.nil
        obtain ⟨u2, rfl, w2⟩ := dvn d2 (hx'.at (k := 0) rfl)
        obtain ⟨u3, rfl, w3⟩ := dvn d3 (hx'.at (k := 5) rfl)
        have q2 : u2 = 0 := Int32.toInt_inj.mp (by rw [w2]; decide)
        have q3 : u3 = Int32.ofNat acc := i32_of (by omega) (by omega)
        subst q2 q3
        have hlt : E (8 + t) < E (4 + t) := by
          simp (config := { decide := true }) only [bnd_b, lin_b, lin_q, Nat.reduceAdd, Nat.zero_add, Nat.reduceEqDiff, reduceIte, and_true, Int.add_zero] at hb hl
          omega
        have hor := or_0 acc hac
        refine hior (pc := 29) C (tv_m116.1.1.1 (29, .ior, 1) (List.mem_of_getElem? (i := 19) rfl)) ?_
        have hob := hac
        refine hG_sub (lv2 := [(0, .ref a), (1, .int zp), (3, .int yt)]) (by
          intro q hq
          simp only [List.mem_cons, List.not_mem_nil, or_false] at hq ⊢
          rcases hq with rfl | rfl | rfl <;> simp) ?_
        refine hsum (st := (30, [(0, (0, 49, 0, 0)), (1, (1, 0, 0, (pg : Int))), (3, (1, 0, 0, (t : Int)))], [(1, 2, 0, 0)], [(0, 0, false, 0, 0), (0, 2555, false, 1, 0), (0, 15, false, 2, 0)], [], [])) (List.all_eq_true.mp (List.all_eq_true.mp wo_b pg (by rcases hg0 with rfl | rfl <;> simp)) t (List.mem_range.mpr (by omega))) rfl C (r := [0, 0, ((acc : Nat) : Int)]) ⟨en_mk (by simp only [en_b, and_true]; omega) rfl, sb0, ⟨rfl, Or.inl ⟨rfl, a, ha, rfl⟩, rfl, int_dv (z := 0) rfl (by omega), rfl, int_dv (z := 0) rfl (by omega), trivial⟩, ⟨int_dv (z := ((acc : Nat) : Int)) rfl (by omega), trivial⟩, hw1, k0, fun _ _ _ _ h => h, fun h => by cases h⟩ (fun x hx r2 lv2 sk2 ws2 hx2 hb2 hl2 hs2 hlo2 hsk2 hw2 hv2 hf2 _ => ?_)
        rw [List.mem_singleton.mp hx] at hlo2 hsk2 ⊢
        dsimp only at hlo2 hsk2 ⊢
        cases hsk2.nil
        obtain ⟨lx1, rfl, px1⟩ := lo_ref ha hlo2
        obtain ⟨yp2, lx2, rfl, dp2, px2⟩ := lo_int rfl px1
        obtain ⟨ya2, lx3, rfl, da2, px3⟩ := lo_int rfl px2
        obtain ⟨yt2, lx4, rfl, dt2, px4⟩ := lo_int rfl px3
        cases lo_nil px4
        rw [vn_at hx2 (n := 0) (z := 0) rfl] at dp2
        have ep2 : zp = yp2 := Int32.toInt_inj.mp (by omega)
        subst ep2
        rw [vn_at hx2 (n := 0) (z := 0) rfl] at dt2
        rw [vn_at hx2 (n := 2) (z := ((acc : Nat) : Int)) rfl] at da2
        refine ih (t + 1) (acc) ya2 yt2 ws2 (by omega) (by omega) hob (by omega) (by omega) ?_ hw2 ((hfr.tr hf1).tr hf2) ⟨hh1.1.fr hf2 rfl, hh1.2.fr hn hf2 (fun _ _ => rfl)⟩
        rw [← hW]
        show _ = (if t < n then wonF E n f (t + 1) (if E (8 + t) < E (4 + t) then acc else acc ||| 2 ^ t) else acc)
        rw [if_pos htn, if_pos hlt]
    · refine hsum (st := (5, [(0, (0, 49, 0, 0)), (1, (1, 0, 0, (pg : Int))), (2, (1, 3, 0, 0)), (3, (1, 0, 0, (t : Int)))], [(1, 0, 0, (t : Int))], [(0, 0, false, 0, 0), (0, 2555, false, 1, 0), (0, (t : Int), false, 2, 0), (0, 15, false, 3, 0)], [(49, 1, (1, 2, 0, 0))], [])) (List.all_eq_true.mp (List.all_eq_true.mp wo_e pg (by rcases hg0 with rfl | rfl <;> simp)) t (List.mem_range.mpr (by omega))) rfl C (r := [0, 0, (n : Int), (acc : Int)]) ⟨en_mk (by simp only [en_b, and_true]; omega) rfl, sb0, ⟨rfl, Or.inl ⟨rfl, a, ha, rfl⟩, rfl, int_dv (z := 0) rfl (by omega), rfl, int_dv (z := (acc : Int)) rfl (by omega), rfl, int_dv (z := 0) rfl (by omega), trivial⟩, ⟨int_dv (z := 0) rfl (by omega), trivial⟩, hw, kc (hh.1.kn (n := 2) (t := (n : Int)) rfl (by omega)) k0, fun _ _ _ _ h => h, fun h => by cases h⟩ (fun x hx r' lv' sk' ws1 hx' hb hl hs hlo hsk hw1 hv' hf1 _ => ?_)
      have hx9 := List.mem_singleton.mp hx
      subst hx9
      obtain ⟨z, rfl, hz⟩ := sk1 rfl hsk
      rw [vn_at hx' (n := 3) (z := (acc : Int)) rfl] at hz
      refine kk ws1 z lv' hw1 (hfr.tr hf1) ?_
      rw [hz, ← hW]
      show _ = ((wonF E n (f + 1) t acc : Nat) : Int)
      unfold wonF
      rw [if_neg htn]
      exact Int.add_zero _
end Lwo
theorem wo_0 : (([0, 108] : List Nat).all fun pg => (ai_ex (hk []) 20 116 tb_m116 6 [4] (0, [(0, (0, 49, 0, 0)), (1, (1, 0, 0, (pg : Int)))], [], [(0, 0, false, 0, 0), (0, 2555, false, 1, 0)], [], [])).any fun xs => xs.all fun x => ([(4, [(0, (0, 49, 0, 0)), (1, (1, 0, 0, (pg : Int))), (2, (1, 0, 0, 0)), (3, (1, 0, 0, 0))], [], [], [(0, 0, false, 0, 0), (0, 2555, false, 1, 0)], [])] : List sm_t).any fun y => sm_is [] x y) = true := by decide +kernel
section Mwo
variable {ad : List Nat} {M : ai_m} {d : Nat} {p : Program} {l : Launch} {e : Env} {R : Room} {s : State} {m : MethodId} {args : Array Value} {below : List Frame} {meth : Method} {c : Code} {D : va_G} {tys : ai_ty} {A : Nat → Prop} {b L : Nat} {sx : Nat → Int32} {cells slots : Nat} {Q : State → Prop}
theorem wo_all {pg a n : Nat} {E : Nat → Int} {zp : Int32} {ws : va_W} (C : ai_cx tb_m116 6 p R s m args c D tys A b L sx cells slots) (hg0 : pg = 0 ∨ pg = 108) (ha : ad[49]? = some a) (hzp : zp.toInt = pg) (hn : n ≤ 4) (hg : good n E) (hw : ai_wd tb_TY ad tys ws) (hh : (vi ws 49 1 n ∧ pev ws pg n E))
    (kk : ∀ (ws' : va_W) (z : Int32) (lv' : List (Nat × Value)), ai_wd tb_TY ad tys ws' → ai_fr [] ws ws' → z.toInt = wonF E n 5 0 0 → hG tb_m116 p l e R s m args below meth c D A cells slots Q 38 lv' [.int z] ws') : hG tb_m116 p l e R s m args below meth c D A cells slots Q 0 [(0, .ref a), (1, .int zp)] [] ws := by
  refine hsum (st := (0, [(0, (0, 49, 0, 0)), (1, (1, 0, 0, (pg : Int)))], [], [(0, 0, false, 0, 0), (0, 2555, false, 1, 0)], [], [])) (List.all_eq_true.mp wo_0 pg (by rcases hg0 with rfl | rfl <;> simp)) rfl C (r := [0, 0]) ⟨en_mk (by simp only [en_b, and_true]; omega) rfl, sb0, ⟨rfl, Or.inl ⟨rfl, a, ha, rfl⟩, rfl, int_dv (z := 0) rfl (by omega), trivial⟩, trivial, hw, k0, fun _ _ _ _ h => h, fun h => by cases h⟩ (fun x hx r' lv' sk' ws1 hx' hb hl hs hlo hsk hw1 hv' hf1 _ => ?_)
  rw [List.mem_singleton.mp hx] at hlo hsk ⊢
  dsimp only at hlo hsk ⊢
  cases hsk.nil
  obtain ⟨lw1, rfl, pw1⟩ := lo_ref ha hlo
  obtain ⟨yp, lw2, rfl, dp, pw2⟩ := lo_int rfl pw1
  obtain ⟨ya, lw3, rfl, da, pw3⟩ := lo_int rfl pw2
  obtain ⟨yt, lw4, rfl, dt, pw4⟩ := lo_int rfl pw3
  cases lo_nil pw4
  rw [vn_at hx' (n := 0) (z := 0) rfl] at dp
  have ep : zp = yp := Int32.toInt_inj.mp (by omega)
  subst ep
  rw [vn_at hx' (n := 0) (z := 0) rfl] at dt
  rw [vn_at hx' (n := 0) (z := 0) rfl] at da
  exact wo_loop (ws0 := ws) C hg0 ha hzp hn hg (fun ws' z lv h1 h2 h3 => kk ws' z lv h1 h2 h3) 5 0 0 ya yt ws1 rfl (by decide) (by decide) (by omega) (by omega) rfl hw1 hf1 ⟨hh.1.fr hf1 rfl, hh.2.fr hn hf1 (fun _ _ => rfl)⟩
end Mwo
/-! sumOf -/
theorem su_e : (([1, 7] : List Nat).all fun cl => ([2, 3, 4] : List Nat).all fun q => (List.range 5).all fun t => (ai_ex (hk []) 60 10 tb_m10 6 [4] (5, [(0, (0, cl, 0, 0)), (1, (0, cl + q, 0, 0)), (2, (1, 3, 0, 0)), (3, (1, 0, 0, (t : Int)))], [(1, 0, 0, (t : Int))], [(0, 0, false, 0, 0), (0, 2555, false, 1, 0), (0, (t : Int), false, 2, 0), (0, 396, false, 3, 0)], [(cl, 0, (1, 2, 0, 0))], [])).any fun xs => xs.all fun x => ([(25, [], [(1, 3, 0, 0)], [], [(0, 0, false, 0, 0), (0, 2555, false, 1, 0), (0, (t : Int), false, 2, 0), (0, 396, false, 3, 0)], [])] : List sm_t).any fun y => sm_is [] x y) = true := by decide +kernel
theorem su_m : (([1, 7] : List Nat).all fun cl => ([2, 3, 4] : List Nat).all fun q => (List.range 4).all fun t => (ai_ex (hk []) 60 10 tb_m10 6 [4] (5, [(0, (0, cl, 0, 0)), (1, (0, cl + q, 0, 0)), (2, (1, 4, 0, 0)), (3, (1, 0, 0, (t : Int)))], [(1, 0, 0, (t : Int))], [(0, 0, false, 0, 0), (0, 2555, false, 1, 0), ((t : Int) + 1, 4, false, 2, 0), (0, 99, false, 3, 0), (0, 297, false, 4, 0)], [(cl, 0, (1, 2, 0, 0)), (cl + q, t, (1, 3, 0, 0))], [])).any fun xs => xs.all fun x => ([(4, [(0, (0, cl, 0, 0)), (1, (0, cl + q, 0, 0)), (2, (1, 5, 0, 0)), (3, (1, 0, 0, (t : Int) + 1))], [], [], [(0, 0, false, 0, 0), (0, 2555, false, 1, 0), ((t : Int) + 1, 4, false, 2, 0), (0, 99, false, 3, 0), (0, 297, false, 4, 0), (0, 396, false, 5, 0)], [(1, 4, 3, 5, 0)])] : List sm_t).any fun y => sm_is [] x y) = true := by decide +kernel
section Lsu
variable {ad : List Nat} {M : ai_m} {d : Nat} {p : Program} {l : Launch} {e : Env} {R : Room} {s : State} {m : MethodId} {args : Array Value} {below : List Frame} {meth : Method} {c : Code} {D : va_G} {tys : ai_ty} {A : Nat → Prop} {b L : Nat} {sx : Nat → Int32} {cells slots : Nat} {Q : State → Prop}
theorem su_loop {cl a n aR q : Nat} {F : Nat → Int} {ws0 : va_W} (C : ai_cx tb_m10 6 p R s m args c D tys A b L sx cells slots) (hg0 : cl = 1 ∨ cl = 7) (ha : ad[cl]? = some a) (hq : q = 2 ∨ q = 3 ∨ q = 4) (haR : ad[cl + q]? = some aR) (hn : n ≤ 4) (hF : ∀ i, i < n → 0 ≤ F i ∧ F i ≤ 99)
    (kk : ∀ (ws' : va_W) (z : Int32) (lv' : List (Nat × Value)), ai_wd tb_TY ad tys ws' → ai_fr [] ws0 ws' → z.toInt = sumF F n 5 0 0 → hG tb_m10 p l e R s m args below meth c D A cells slots Q 25 lv' [.int z] ws') :
    ∀ (f t : Nat) (acc : Int) (za zt : Int32) (ws : va_W), t + f = 5 → t ≤ 4 → (0 ≤ acc ∧ acc ≤ 99 * (t : Int)) → za.toInt = acc → zt.toInt = t → sumF F n f t acc = sumF F n 5 0 0 → ai_wd tb_TY ad tys ws → ai_fr [] ws0 ws → (vi ws cl 0 n ∧ ∀ i, i < n → vi ws (cl + q) i (F i)) → hG tb_m10 p l e R s m args below meth c D A cells slots Q 4 [(0, .ref a), (1, .ref aR), (2, .int za), (3, .int zt)] [] ws := by
  intro f
  induction f with
  | zero =>
    intro t acc za zt ws hf h4 _ _ _ _ _ _ _
    exact absurd hf (by omega)
  | succ f ih =>
    intro t acc za zt ws hf h4 hac eza ezt hW hw hfr hh
    refine hild2 (j := 3) (x := zt) C (tv_m10.1.1.1 (4, .iload_n 3, 1) (List.mem_of_getElem? (i := 4) rfl)) (List.mem_of_getElem? (i := 3) rfl) ?_
    by_cases htn : t < n
    · have c3 := hh.2 t htn
      have g3 := hF t htn
      refine hsum (st := (5, [(0, (0, cl, 0, 0)), (1, (0, cl + q, 0, 0)), (2, (1, 4, 0, 0)), (3, (1, 0, 0, (t : Int)))], [(1, 0, 0, (t : Int))], [(0, 0, false, 0, 0), (0, 2555, false, 1, 0), ((t : Int) + 1, 4, false, 2, 0), (0, 99, false, 3, 0), (0, 297, false, 4, 0)], [(cl, 0, (1, 2, 0, 0)), (cl + q, t, (1, 3, 0, 0))], [])) (List.all_eq_true.mp (List.all_eq_true.mp (List.all_eq_true.mp su_m cl (by rcases hg0 with rfl | rfl <;> simp)) q (by rcases hq with rfl | rfl | rfl <;> simp)) t (List.mem_range.mpr (by omega))) rfl C (r := [0, 0, (n : Int), F t, acc]) ⟨en_mk (by simp only [en_b, and_true]; omega) rfl, sb0, ⟨rfl, Or.inl ⟨rfl, a, ha, rfl⟩, rfl, Or.inl ⟨rfl, aR, haR, rfl⟩, rfl, int_dv (z := acc) rfl (by omega), rfl, int_dv (z := 0) rfl (by omega), trivial⟩, ⟨int_dv (z := 0) rfl (by omega), trivial⟩, hw, kc (hh.1.kn (n := 2) (t := (n : Int)) rfl (by omega)) (kc (c3.kn (n := 3) (t := F t) rfl (by omega)) k0), fun _ _ _ _ h => h, fun h => by cases h⟩ (fun x hx r' lv' sk' ws1 hx' hb hl hs hlo hsk hw1 hv' hf1 _ => ?_)
      have hx9 := List.mem_singleton.mp hx
      subst hx9
      dsimp only at hlo hsk ⊢
      cases hsk.nil
      have h3 := nm_x hx' (k := 3) rfl
      have h4' := nm_x hx' (k := 4) rfl
      obtain ⟨lw1, rfl, pw1⟩ := lo_ref ha hlo
      obtain ⟨lw2, rfl, pw2⟩ := lo_ref haR pw1
      obtain ⟨ya, lw3, rfl, da, pw3⟩ := lo_int rfl pw2
      obtain ⟨yt, lw4, rfl, dt, pw4⟩ := lo_int rfl pw3
      cases lo_nil pw4
      rw [vn_at hx' (n := 0) (z := 0) rfl] at dt
      unfold vn at da
      dsimp only at da
      simp (config := { decide := true }) only [bnd_b, lin_b, lin_q, Nat.reduceAdd, Nat.zero_add, Nat.reduceEqDiff, reduceIte, and_true, Int.add_zero] at hb hl
      refine ih (t + 1) (acc + F t) ya yt ws1 (by omega) (by omega) (by omega) (by omega) (by omega) ?_ hw1 (hfr.tr hf1) ⟨hh.1.fr hf1 rfl, fun i hi => (hh.2 i hi).fr hf1 rfl⟩
      rw [← hW]
      show _ = (if t < n then sumF F n f (t + 1) (acc + F t) else acc)
      rw [if_pos htn]
    · refine hsum (st := (5, [(0, (0, cl, 0, 0)), (1, (0, cl + q, 0, 0)), (2, (1, 3, 0, 0)), (3, (1, 0, 0, (t : Int)))], [(1, 0, 0, (t : Int))], [(0, 0, false, 0, 0), (0, 2555, false, 1, 0), (0, (t : Int), false, 2, 0), (0, 396, false, 3, 0)], [(cl, 0, (1, 2, 0, 0))], [])) (List.all_eq_true.mp (List.all_eq_true.mp (List.all_eq_true.mp su_e cl (by rcases hg0 with rfl | rfl <;> simp)) q (by rcases hq with rfl | rfl | rfl <;> simp)) t (List.mem_range.mpr (by omega))) rfl C (r := [0, 0, (n : Int), acc]) ⟨en_mk (by simp only [en_b, and_true]; omega) rfl, sb0, ⟨rfl, Or.inl ⟨rfl, a, ha, rfl⟩, rfl, Or.inl ⟨rfl, aR, haR, rfl⟩, rfl, int_dv (z := acc) rfl (by omega), rfl, int_dv (z := 0) rfl (by omega), trivial⟩, ⟨int_dv (z := 0) rfl (by omega), trivial⟩, hw, kc (hh.1.kn (n := 2) (t := (n : Int)) rfl (by omega)) k0, fun _ _ _ _ h => h, fun h => by cases h⟩ (fun x hx r' lv' sk' ws1 hx' hb hl hs hlo hsk hw1 hv' hf1 _ => ?_)
      have hx9 := List.mem_singleton.mp hx
      subst hx9
      obtain ⟨z, rfl, hz⟩ := sk1 rfl hsk
      rw [vn_at hx' (n := 3) (z := acc) rfl] at hz
      refine kk ws1 z lv' hw1 (hfr.tr hf1) ?_
      rw [hz, ← hW]
      show _ = sumF F n (f + 1) t acc
      unfold sumF
      rw [if_neg htn]
      exact Int.add_zero _
end Lsu
theorem su_0 : (([1, 7] : List Nat).all fun cl => ([2, 3, 4] : List Nat).all fun q => (ai_ex (hk []) 20 10 tb_m10 6 [4] (0, [(0, (0, cl, 0, 0)), (1, (0, cl + q, 0, 0))], [], [(0, 0, false, 0, 0), (0, 2555, false, 1, 0)], [], [])).any fun xs => xs.all fun x => ([(4, [(0, (0, cl, 0, 0)), (1, (0, cl + q, 0, 0)), (2, (1, 0, 0, 0)), (3, (1, 0, 0, 0))], [], [], [(0, 0, false, 0, 0), (0, 2555, false, 1, 0)], [])] : List sm_t).any fun y => sm_is [] x y) = true := by decide +kernel
section Msu
variable {ad : List Nat} {M : ai_m} {d : Nat} {p : Program} {l : Launch} {e : Env} {R : Room} {s : State} {m : MethodId} {args : Array Value} {below : List Frame} {meth : Method} {c : Code} {D : va_G} {tys : ai_ty} {A : Nat → Prop} {b L : Nat} {sx : Nat → Int32} {cells slots : Nat} {Q : State → Prop}
theorem su_all {cl a n aR q : Nat} {F : Nat → Int} {ws : va_W} (C : ai_cx tb_m10 6 p R s m args c D tys A b L sx cells slots) (hg0 : cl = 1 ∨ cl = 7) (ha : ad[cl]? = some a) (hq : q = 2 ∨ q = 3 ∨ q = 4) (haR : ad[cl + q]? = some aR) (hn : n ≤ 4) (hF : ∀ i, i < n → 0 ≤ F i ∧ F i ≤ 99) (hw : ai_wd tb_TY ad tys ws) (hh : (vi ws cl 0 n ∧ ∀ i, i < n → vi ws (cl + q) i (F i)))
    (kk : ∀ (ws' : va_W) (z : Int32) (lv' : List (Nat × Value)), ai_wd tb_TY ad tys ws' → ai_fr [] ws ws' → z.toInt = sumF F n 5 0 0 → hG tb_m10 p l e R s m args below meth c D A cells slots Q 25 lv' [.int z] ws') : hG tb_m10 p l e R s m args below meth c D A cells slots Q 0 [(0, .ref a), (1, .ref aR)] [] ws := by
  refine hsum (st := (0, [(0, (0, cl, 0, 0)), (1, (0, cl + q, 0, 0))], [], [(0, 0, false, 0, 0), (0, 2555, false, 1, 0)], [], [])) (List.all_eq_true.mp (List.all_eq_true.mp su_0 cl (by rcases hg0 with rfl | rfl <;> simp)) q (by rcases hq with rfl | rfl | rfl <;> simp)) rfl C (r := [0, 0]) ⟨en_mk (by simp only [en_b, and_true]; omega) rfl, sb0, ⟨rfl, Or.inl ⟨rfl, a, ha, rfl⟩, rfl, Or.inl ⟨rfl, aR, haR, rfl⟩, trivial⟩, trivial, hw, k0, fun _ _ _ _ h => h, fun h => by cases h⟩ (fun x hx r' lv' sk' ws1 hx' hb hl hs hlo hsk hw1 hv' hf1 _ => ?_)
  rw [List.mem_singleton.mp hx] at hlo hsk ⊢
  dsimp only at hlo hsk ⊢
  cases hsk.nil
  obtain ⟨lw1, rfl, pw1⟩ := lo_ref ha hlo
  obtain ⟨lw2, rfl, pw2⟩ := lo_ref haR pw1
  obtain ⟨ya, lw3, rfl, da, pw3⟩ := lo_int rfl pw2
  obtain ⟨yt, lw4, rfl, dt, pw4⟩ := lo_int rfl pw3
  cases lo_nil pw4
  rw [vn_at hx' (n := 0) (z := 0) rfl] at dt
  rw [vn_at hx' (n := 0) (z := 0) rfl] at da
  exact su_loop (ws0 := ws) C hg0 ha hq haR hn hF (fun ws' z lv h1 h2 h3 => kk ws' z lv h1 h2 h3) 5 0 0 ya yt ws1 rfl (by decide) (by omega) (by omega) (by omega) rfl hw1 hf1 ⟨hh.1.fr hf1 rfl, fun i hi => (hh.2 i hi).fr hf1 rfl⟩
end Msu
/-! movedOn -/
theorem mo_e : (([0, 108] : List Nat).all fun pg => (List.range 5).all fun t => (ai_ex (hk []) 60 117 tb_m117 6 [4] (5, [(0, (0, 49, 0, 0)), (1, (1, 0, 0, (pg : Int))), (2, (1, 3, 0, 0)), (3, (1, 0, 0, (t : Int)))], [(1, 0, 0, (t : Int))], [(0, 0, false, 0, 0), (0, 2555, false, 1, 0), (0, (t : Int), false, 2, 0), (0, 396, false, 3, 0)], [(49, 1, (1, 2, 0, 0))], [])).any fun xs => xs.all fun x => ([(33, [], [(1, 3, 0, 0)], [], [(0, 0, false, 0, 0), (0, 2555, false, 1, 0), (0, (t : Int), false, 2, 0), (0, 396, false, 3, 0)], [])] : List sm_t).any fun y => sm_is [] x y) = true := by decide +kernel
theorem mo_m : (([0, 108] : List Nat).all fun pg => (List.range 4).all fun t => (ai_ex (hk []) 60 117 tb_m117 6 [4] (5, [(0, (0, 49, 0, 0)), (1, (1, 0, 0, (pg : Int))), (2, (1, 4, 0, 0)), (3, (1, 0, 0, (t : Int)))], [(1, 0, 0, (t : Int))], [(0, 0, false, 0, 0), (0, 2555, false, 1, 0), ((t : Int) + 1, 4, false, 2, 0), (0, 99, false, 3, 0), (0, 297, false, 4, 0)], [(49, 1, (1, 2, 0, 0)), (50, 8 + t + pg, (1, 3, 0, 0))], [])).any fun xs => xs.all fun x => ([(4, [(0, (0, 49, 0, 0)), (1, (1, 0, 0, (pg : Int))), (2, (1, 5, 0, 0)), (3, (1, 0, 0, (t : Int) + 1))], [], [], [(0, 0, false, 0, 0), (0, 2555, false, 1, 0), ((t : Int) + 1, 4, false, 2, 0), (0, 99, false, 3, 0), (0, 297, false, 4, 0), (0, 396, false, 5, 0)], [(1, 4, 3, 5, 0)])] : List sm_t).any fun y => sm_is [] x y) = true := by decide +kernel
section Lmo
variable {ad : List Nat} {M : ai_m} {d : Nat} {p : Program} {l : Launch} {e : Env} {R : Room} {s : State} {m : MethodId} {args : Array Value} {below : List Frame} {meth : Method} {c : Code} {D : va_G} {tys : ai_ty} {A : Nat → Prop} {b L : Nat} {sx : Nat → Int32} {cells slots : Nat} {Q : State → Prop}
theorem mo_loop {pg a n : Nat} {F : Nat → Int} {zp : Int32} {ws0 : va_W} (C : ai_cx tb_m117 6 p R s m args c D tys A b L sx cells slots) (hg0 : pg = 0 ∨ pg = 108) (ha : ad[49]? = some a) (hzp : zp.toInt = pg) (hn : n ≤ 4) (hF : ∀ i, i < n → 0 ≤ F i ∧ F i ≤ 99)
    (kk : ∀ (ws' : va_W) (z : Int32) (lv' : List (Nat × Value)), ai_wd tb_TY ad tys ws' → ai_fr [] ws0 ws' → z.toInt = sumF F n 5 0 0 → hG tb_m117 p l e R s m args below meth c D A cells slots Q 33 lv' [.int z] ws') :
    ∀ (f t : Nat) (acc : Int) (za zt : Int32) (ws : va_W), t + f = 5 → t ≤ 4 → (0 ≤ acc ∧ acc ≤ 99 * (t : Int)) → za.toInt = acc → zt.toInt = t → sumF F n f t acc = sumF F n 5 0 0 → ai_wd tb_TY ad tys ws → ai_fr [] ws0 ws → (vi ws 49 1 n ∧ ∀ i, i < n → vi ws 50 (8 + i + pg) (F i)) → hG tb_m117 p l e R s m args below meth c D A cells slots Q 4 [(0, .ref a), (1, .int zp), (2, .int za), (3, .int zt)] [] ws := by
  intro f
  induction f with
  | zero =>
    intro t acc za zt ws hf h4 _ _ _ _ _ _ _
    exact absurd hf (by omega)
  | succ f ih =>
    intro t acc za zt ws hf h4 hac eza ezt hW hw hfr hh
    refine hild2 (j := 3) (x := zt) C (tv_m117.1.1.1 (4, .iload_n 3, 1) (List.mem_of_getElem? (i := 4) rfl)) (List.mem_of_getElem? (i := 3) rfl) ?_
    by_cases htn : t < n
    · have c3 := hh.2 t htn
      have g3 := hF t htn
      refine hsum (st := (5, [(0, (0, 49, 0, 0)), (1, (1, 0, 0, (pg : Int))), (2, (1, 4, 0, 0)), (3, (1, 0, 0, (t : Int)))], [(1, 0, 0, (t : Int))], [(0, 0, false, 0, 0), (0, 2555, false, 1, 0), ((t : Int) + 1, 4, false, 2, 0), (0, 99, false, 3, 0), (0, 297, false, 4, 0)], [(49, 1, (1, 2, 0, 0)), (50, 8 + t + pg, (1, 3, 0, 0))], [])) (List.all_eq_true.mp (List.all_eq_true.mp mo_m pg (by rcases hg0 with rfl | rfl <;> simp)) t (List.mem_range.mpr (by omega))) rfl C (r := [0, 0, (n : Int), F t, acc]) ⟨en_mk (by simp only [en_b, and_true]; omega) rfl, sb0, ⟨rfl, Or.inl ⟨rfl, a, ha, rfl⟩, rfl, int_dv (z := 0) rfl (by omega), rfl, int_dv (z := acc) rfl (by omega), rfl, int_dv (z := 0) rfl (by omega), trivial⟩, ⟨int_dv (z := 0) rfl (by omega), trivial⟩, hw, kc (hh.1.kn (n := 2) (t := (n : Int)) rfl (by omega)) (kc (c3.kn (n := 3) (t := F t) rfl (by omega)) k0), fun _ _ _ _ h => h, fun h => by cases h⟩ (fun x hx r' lv' sk' ws1 hx' hb hl hs hlo hsk hw1 hv' hf1 _ => ?_)
      have hx9 := List.mem_singleton.mp hx
      subst hx9
      dsimp only at hlo hsk ⊢
      cases hsk.nil
      have h3 := nm_x hx' (k := 3) rfl
      have h4' := nm_x hx' (k := 4) rfl
      obtain ⟨lw1, rfl, pw1⟩ := lo_ref ha hlo
      obtain ⟨yp, lw2, rfl, dp, pw2⟩ := lo_int rfl pw1
      obtain ⟨ya, lw3, rfl, da, pw3⟩ := lo_int rfl pw2
      obtain ⟨yt, lw4, rfl, dt, pw4⟩ := lo_int rfl pw3
      cases lo_nil pw4
      rw [vn_at hx' (n := 0) (z := 0) rfl] at dp
      have ep : zp = yp := Int32.toInt_inj.mp (by omega)
      subst ep
      rw [vn_at hx' (n := 0) (z := 0) rfl] at dt
      unfold vn at da
      dsimp only at da
      simp (config := { decide := true }) only [bnd_b, lin_b, lin_q, Nat.reduceAdd, Nat.zero_add, Nat.reduceEqDiff, reduceIte, and_true, Int.add_zero] at hb hl
      refine ih (t + 1) (acc + F t) ya yt ws1 (by omega) (by omega) (by omega) (by omega) (by omega) ?_ hw1 (hfr.tr hf1) ⟨hh.1.fr hf1 rfl, fun i hi => (hh.2 i hi).fr hf1 rfl⟩
      rw [← hW]
      show _ = (if t < n then sumF F n f (t + 1) (acc + F t) else acc)
      rw [if_pos htn]
    · refine hsum (st := (5, [(0, (0, 49, 0, 0)), (1, (1, 0, 0, (pg : Int))), (2, (1, 3, 0, 0)), (3, (1, 0, 0, (t : Int)))], [(1, 0, 0, (t : Int))], [(0, 0, false, 0, 0), (0, 2555, false, 1, 0), (0, (t : Int), false, 2, 0), (0, 396, false, 3, 0)], [(49, 1, (1, 2, 0, 0))], [])) (List.all_eq_true.mp (List.all_eq_true.mp mo_e pg (by rcases hg0 with rfl | rfl <;> simp)) t (List.mem_range.mpr (by omega))) rfl C (r := [0, 0, (n : Int), acc]) ⟨en_mk (by simp only [en_b, and_true]; omega) rfl, sb0, ⟨rfl, Or.inl ⟨rfl, a, ha, rfl⟩, rfl, int_dv (z := 0) rfl (by omega), rfl, int_dv (z := acc) rfl (by omega), rfl, int_dv (z := 0) rfl (by omega), trivial⟩, ⟨int_dv (z := 0) rfl (by omega), trivial⟩, hw, kc (hh.1.kn (n := 2) (t := (n : Int)) rfl (by omega)) k0, fun _ _ _ _ h => h, fun h => by cases h⟩ (fun x hx r' lv' sk' ws1 hx' hb hl hs hlo hsk hw1 hv' hf1 _ => ?_)
      have hx9 := List.mem_singleton.mp hx
      subst hx9
      obtain ⟨z, rfl, hz⟩ := sk1 rfl hsk
      rw [vn_at hx' (n := 3) (z := acc) rfl] at hz
      refine kk ws1 z lv' hw1 (hfr.tr hf1) ?_
      rw [hz, ← hW]
      show _ = sumF F n (f + 1) t acc
      unfold sumF
      rw [if_neg htn]
      exact Int.add_zero _
end Lmo
theorem mo_0 : (([0, 108] : List Nat).all fun pg => (ai_ex (hk []) 20 117 tb_m117 6 [4] (0, [(0, (0, 49, 0, 0)), (1, (1, 0, 0, (pg : Int)))], [], [(0, 0, false, 0, 0), (0, 2555, false, 1, 0)], [], [])).any fun xs => xs.all fun x => ([(4, [(0, (0, 49, 0, 0)), (1, (1, 0, 0, (pg : Int))), (2, (1, 0, 0, 0)), (3, (1, 0, 0, 0))], [], [], [(0, 0, false, 0, 0), (0, 2555, false, 1, 0)], [])] : List sm_t).any fun y => sm_is [] x y) = true := by decide +kernel
section Mmo
variable {ad : List Nat} {M : ai_m} {d : Nat} {p : Program} {l : Launch} {e : Env} {R : Room} {s : State} {m : MethodId} {args : Array Value} {below : List Frame} {meth : Method} {c : Code} {D : va_G} {tys : ai_ty} {A : Nat → Prop} {b L : Nat} {sx : Nat → Int32} {cells slots : Nat} {Q : State → Prop}
theorem mo_all {pg a n : Nat} {F : Nat → Int} {zp : Int32} {ws : va_W} (C : ai_cx tb_m117 6 p R s m args c D tys A b L sx cells slots) (hg0 : pg = 0 ∨ pg = 108) (ha : ad[49]? = some a) (hzp : zp.toInt = pg) (hn : n ≤ 4) (hF : ∀ i, i < n → 0 ≤ F i ∧ F i ≤ 99) (hw : ai_wd tb_TY ad tys ws) (hh : (vi ws 49 1 n ∧ ∀ i, i < n → vi ws 50 (8 + i + pg) (F i)))
    (kk : ∀ (ws' : va_W) (z : Int32) (lv' : List (Nat × Value)), ai_wd tb_TY ad tys ws' → ai_fr [] ws ws' → z.toInt = sumF F n 5 0 0 → hG tb_m117 p l e R s m args below meth c D A cells slots Q 33 lv' [.int z] ws') : hG tb_m117 p l e R s m args below meth c D A cells slots Q 0 [(0, .ref a), (1, .int zp)] [] ws := by
  refine hsum (st := (0, [(0, (0, 49, 0, 0)), (1, (1, 0, 0, (pg : Int)))], [], [(0, 0, false, 0, 0), (0, 2555, false, 1, 0)], [], [])) (List.all_eq_true.mp mo_0 pg (by rcases hg0 with rfl | rfl <;> simp)) rfl C (r := [0, 0]) ⟨en_mk (by simp only [en_b, and_true]; omega) rfl, sb0, ⟨rfl, Or.inl ⟨rfl, a, ha, rfl⟩, rfl, int_dv (z := 0) rfl (by omega), trivial⟩, trivial, hw, k0, fun _ _ _ _ h => h, fun h => by cases h⟩ (fun x hx r' lv' sk' ws1 hx' hb hl hs hlo hsk hw1 hv' hf1 _ => ?_)
  rw [List.mem_singleton.mp hx] at hlo hsk ⊢
  dsimp only at hlo hsk ⊢
  cases hsk.nil
  obtain ⟨lw1, rfl, pw1⟩ := lo_ref ha hlo
  obtain ⟨yp, lw2, rfl, dp, pw2⟩ := lo_int rfl pw1
  obtain ⟨ya, lw3, rfl, da, pw3⟩ := lo_int rfl pw2
  obtain ⟨yt, lw4, rfl, dt, pw4⟩ := lo_int rfl pw3
  cases lo_nil pw4
  rw [vn_at hx' (n := 0) (z := 0) rfl] at dp
  have ep : zp = yp := Int32.toInt_inj.mp (by omega)
  subst ep
  rw [vn_at hx' (n := 0) (z := 0) rfl] at dt
  rw [vn_at hx' (n := 0) (z := 0) rfl] at da
  exact mo_loop (ws0 := ws) C hg0 ha hzp hn hF (fun ws' z lv h1 h2 h3 => kk ws' z lv h1 h2 h3) 5 0 0 ya yt ws1 rfl (by decide) (by omega) (by omega) (by omega) rfl hw1 hf1 ⟨hh.1.fr hf1 rfl, fun i hi => (hh.2 i hi).fr hf1 rfl⟩
end Mmo
