/-! the reference's step: its first two loops (blanks, letters) -/
def ms_lo : List (Nat × ai_v) := [(0, (0, 49, 0, 0))]
def ms_pc (j : Nat) : Nat := if j = 0 then 8 else 84
def ms_go (j : Nat) : Nat := if j = 0 then 31 else 115
def ms_ex (j : Nat) : Nat := if j = 0 then 34 else 118
def ms_WR : List (Nat × Nat × Nat) := [(49, 11, 12)]
def ms_st (j : Nat) : ai_s := (ms_pc j, ms_lo, [], [(0, 0, false, 0, 0), (0, 2555, false, 1, 0), (0, 160, false, 2, 0), (0, 160, false, 3, 0)], [(49, 7, (1, 2, 0, 0)), (49, 11, (1, 3, 0, 0))], [])
def ms_g (x : ai_s) (h : Nat → ai_e → Bool) : Bool := x.2.2.2.2.2.any fun q => Nat.beq q.1 1052 && (Nat.beq q.2.1 3 && (decide (q.2.2.2.2 = 0) && (x.2.2.2.1[q.2.2.2.1]?).any (h q.2.2.2.1)))
def ms_ok (j : Nat) (x : ai_s) : Bool := x.2.2.1.isEmpty &&
  ((Nat.beq x.1 (ms_ex j) && (decide (ai_lk x.2.2.2.2.1 49 11 = some (1, 3, 0, 0)) && (decide (x.2.1 = ms_lo) && (av_f x 5 3 2 none 0 || (av_f x 4 3 2 none 0 && ms_g x fun v e => decide (e.2.1 < fx_lo j) || decide (fx_hi j < e.1) || (decide (fx_lo j = fx_hi j) && av_f x 140 v 0 none (fx_lo j))))))) ||
   (Nat.beq x.1 (ms_go j) && (decide (ai_lk x.2.2.2.2.1 49 11 = some (1, 3, 0, 1)) && (decide (x.2.1 = ms_lo) && (av_f x 4 3 2 none 0 && ms_g x fun _ e => decide (fx_lo j ≤ e.1) && decide (e.2.1 ≤ fx_hi j))))))
theorem ms_r0 : ((ai_ex (hk ms_WR) 200 104 tb_m104 5 [31, 34] (ms_st 0)).any fun xs => xs.all (ms_ok 0)) = true := by decide +kernel
theorem ms_r1 : ((ai_ex (hk ms_WR) 200 104 tb_m104 5 [115, 118] (ms_st 1)).any fun xs => xs.all (ms_ok 1)) = true := by decide +kernel
theorem ms_run (j : Nat) (hj : j < 2) : ((ai_ex (hk ms_WR) 200 104 tb_m104 5 [ms_go j, ms_ex j] (ms_st j)).any fun xs => xs.all (ms_ok j)) = true := by
  match j, hj with
  | 0, _ => exact ms_r0
  | 1, _ => exact ms_r1
  | j + 2, hj => exact absurd hj (by omega)
theorem ms_gok {w0 : va_W} {r : List Int} {x : ai_s} {zc t : Int} {h : Nat → ai_e → Bool} (g1 : ai_ok r x.2.2.2.1) (g2 : ai_sb w0 r x.2.2.2.2.2) (h3 : r[3]? = some zc) (ht : fx_o w0 52 zc.toNat = some t) (hh : ms_g x h = true) : ∃ (v : Nat) (e : ai_e), h v e = true ∧ r[v]? = some t ∧ e.1 ≤ t ∧ t ≤ e.2.1 := by
  obtain ⟨q, hq, hh⟩ := List.any_eq_true.mp hh
  rw [Bool.and_eq_true, Bool.and_eq_true, Bool.and_eq_true, ai_beq, ai_beq, decide_eq_true_eq] at hh
  obtain ⟨a1, a2, a3, a4⟩ := hh
  obtain ⟨ya, yb, yr, -, -, -, -, -, -, -, -, e9⟩ := g2 q hq
  obtain ⟨z1, z2, f1, f2, f3, f4⟩ := (e9 (by omega)).1 (by omega)
  rw [a2, h3] at f1
  cases f1
  rw [a1, a3, Int.add_zero, show 1052 - 1000 = 52 from rfl] at f4
  have f5 := f4 t ht
  subst f5
  obtain ⟨e, b1, b2, b3⟩ := ai_any g1 f2 a4
  exact ⟨_, e, b1, f2, b2, b3⟩
theorem av_ne {w0 : va_W} {r : List Int} {x : ai_s} {a : Nat} {o za : Int} (g2 : ai_sb w0 r x.2.2.2.2.2) (h0 : r[0]? = some 0) (ha : r[a]? = some za) (h : av_f x 140 a 0 none o = true) : za ≠ o := by
  obtain ⟨q, hq, h1, h2, h3, h4, -⟩ := av_mem h
  obtain ⟨ua, ub, ur, -, -, -, -, -, -, -, -, u9⟩ := g2 q hq
  obtain ⟨t1, t2, k1, k2, -, -, -, k6, -⟩ := (u9 (by omega)).2.1 (by omega)
  obtain ⟨tb, k7, k8⟩ := k6 h1
  rw [h2, ha] at k1
  cases k1
  rw [h3, h0] at k7
  cases k7
  rw [h4, Int.zero_add] at k8
  exact k8
/-- a field of the reference, within its kind's bounds -/
theorem f49 {ad : List Nat} {tys : ai_ty} {ws : va_W} {i : Nat} {z : Int32} {lo hi : Int} (h : ai_wd tb_TY ad tys ws) (hs : ai_sl ws 49 i (.int z)) (hF : (tb_TY[49]?).bind (fun t => t.2.2[i]?) = some (1, 0, lo, hi)) : lo ≤ z.toInt ∧ z.toInt ≤ hi := by
  obtain ⟨y, h1, h2, h3⟩ := pl_f (k := 49) (ci := 6) (lo := lo) (hi := hi) (i := i) h rfl hF
  have := hs.fun h1
  cases this
  exact ⟨h2, h3⟩
section MST
variable {ad : List Nat} {p : Program} {l : Launch} {e : Env} {R : Room} {s : State} {m : MethodId} {args : Array Value} {below : List Frame} {meth : Method} {c : Code} {D : va_G} {tys : ai_ty} {A : Nat → Prop} {b L : Nat} {sx : Nat → Int32} {cells slots : Nat} {Q : State → Prop}
theorem ms_step {j : Nat} (hj : j < 2) (C : ai_cx tb_m104 5 p R s m args c D tys A b L sx cells slots) {ws : va_W} {zn zc : Int32} {g : Nat → Int} (hw : ai_wd tb_TY ad tys ws) (hn : ai_sl ws 49 7 (.int zn)) (hc : ai_sl ws 49 11 (.int zc)) (hg : ∀ i, i < 160 → fx_o ws 52 i = some (g i)) {lv : List (Nat × Value)} (hlv : ai_lo ad b [0] ms_lo lv)
    (k1 : ∀ (ws' : va_W) (lv' : List (Nat × Value)), ai_wd tb_TY ad tys ws' → ai_fr ms_WR ws ws' → ai_sl ws' 49 11 (.int zc) → ai_lo ad b [0] ms_lo lv' → (zn.toInt.toNat ≤ zc.toInt.toNat ∨ g zc.toInt.toNat < fx_lo j ∨ fx_hi j < g zc.toInt.toNat) → hG tb_m104 p l e R s m args below meth c D A cells slots Q (ms_ex j) lv' [] ws')
    (k2 : ∀ (ws' : va_W) (lv' : List (Nat × Value)) (zc' : Int32), ai_wd tb_TY ad tys ws' → ai_fr ms_WR ws ws' → ai_sl ws' 49 11 (.int zc') → zc'.toInt = zc.toInt + 1 → zc.toInt < zn.toInt → fx_lo j ≤ g zc.toInt.toNat → g zc.toInt.toNat ≤ fx_hi j → ai_lo ad b [0] ms_lo lv' → hG tb_m104 p l e R s m args below meth c D A cells slots Q (ms_go j) lv' [] ws') : hG tb_m104 p l e R s m args below meth c D A cells slots Q (ms_pc j) lv [] ws := by
  obtain ⟨n0, n1⟩ := f49 (i := 7) hw hn rfl
  obtain ⟨c0, c1⟩ := f49 (i := 11) hw hc rfl
  obtain ⟨xs, h1, h2⟩ := ai_anyE (ms_run j hj)
  have gm : ai_gm tb_TY ms_WR ws ad b L sx tys tb_m104.2.2.2.2.1 [0, 0, zn.toInt, zc.toInt] (ms_st j) lv [] ws := by
    refine ⟨⟨rfl, fun k z e hz he => ?_⟩, (fun q hq => by cases hq), lo0_ok (r := [0]) rfl rfl rfl hlv, trivial, hw, fun q hq => ?_, fun _ _ _ _ h => h, fun h => by cases h⟩
    · match k, hz, he with
      | 0, hz, he => cases hz; cases he; exact ⟨Int.le_refl _, Int.le_refl _, (fun h => by cases h), 0, rfl, Int.le_refl _⟩
      | 1, hz, he => cases hz; cases he; exact ⟨by decide, by decide, (fun h => by cases h), 0, rfl, Int.le_refl _⟩
      | 2, hz, he => cases hz; cases he; exact ⟨n0, n1, (fun h => by cases h), _, rfl, by show zn.toInt + 0 ≤ zn.toInt; omega⟩
      | 3, hz, he => cases hz; cases he; exact ⟨c0, c1, (fun h => by cases h), _, rfl, by show zc.toInt + 0 ≤ zc.toInt; omega⟩
      | k + 4, hz, he => cases hz
    · have hq : q ∈ [(49, 7, ((1, 2, 0, 0) : ai_v)), (49, 11, (1, 3, 0, 0))] := hq
      rcases List.mem_cons.mp hq with rfl | hq
      · exact kn1 hn (n := 2) (t := zn.toInt) rfl (by omega)
      · rcases List.mem_cons.mp hq with rfl | hq
        · exact kn1 hc (n := 3) (t := zc.toInt) rfl (by omega)
        · cases hq
  refine hseg (st := ms_st j) h1 rfl C gm (fun x hx r' lv' sk' ws' hx' g' => ?_)
  obtain ⟨g1, g2, g3, g4, g5, g6, g7, g8⟩ := g'
  have r0 : r'[0]? = some 0 := hx'.at rfl
  have r2 : r'[2]? = some zn.toInt := hx'.at rfl
  have r3 : r'[3]? = some zc.toInt := hx'.at rfl
  have hox := List.all_eq_true.mp h2 x hx
  unfold ms_ok at hox
  rw [Bool.and_eq_true, Bool.or_eq_true] at hox
  obtain ⟨hs, hox⟩ := hox
  have hsk : sk' = [] := by
    rw [List.isEmpty_iff.mp hs] at g4
    exact g4.nil
  subst hsk
  rcases hox with hox | hox
  · rw [Bool.and_eq_true, Bool.and_eq_true, Bool.and_eq_true, ai_beq, decide_eq_true_eq, decide_eq_true_eq, Bool.or_eq_true] at hox
    obtain ⟨p1, p2, p0, p3⟩ := hox
    obtain ⟨x1, s1, d1⟩ := ai_lk_ok g6 p2
    obtain ⟨i, rfl, hi⟩ := dvn d1 r3
    have hii : i = zc := Int32.toInt_inj.mp (by rw [hi]; omega)
    subst hii
    rw [p1]
    refine k1 ws' lv' g5 g7 s1 (lo0_ok r0 rfl rfl (by rw [← p0]; exact g3)) ?_
    rcases p3 with p3 | p3
    · have := av_f5 g2 r3 r2 p3
      exact Or.inl (by omega)
    · rw [Bool.and_eq_true] at p3
      have h4 := av_f4 g2 r3 r2 p3.1
      obtain ⟨v, e0, b1, b2, b3, b4⟩ := ms_gok g1 g2 r3 (hg _ (by omega)) p3.2
      rw [Bool.or_eq_true, Bool.or_eq_true, Bool.and_eq_true, decide_eq_true_eq, decide_eq_true_eq, decide_eq_true_eq] at b1
      rcases b1 with (b1 | b1) | b1
      · exact Or.inr (Or.inl (by omega))
      · exact Or.inr (Or.inr (by omega))
      · have := av_ne g2 r0 b2 b1.2
        exact Or.inr (by omega)
  · rw [Bool.and_eq_true, Bool.and_eq_true, Bool.and_eq_true, Bool.and_eq_true, ai_beq, decide_eq_true_eq, decide_eq_true_eq] at hox
    obtain ⟨p1, p2, p3, p4, p5⟩ := hox
    obtain ⟨x1, s1, d1⟩ := ai_lk_ok g6 p2
    obtain ⟨i, rfl, hi⟩ := dvn d1 r3
    have h4 := av_f4 g2 r3 r2 p4
    obtain ⟨v, e0, b1, b2, b3, b4⟩ := ms_gok g1 g2 r3 (hg _ (by omega)) p5
    rw [Bool.and_eq_true, decide_eq_true_eq, decide_eq_true_eq] at b1
    rw [p1]
    exact k2 ws' lv' i g5 g7 s1 hi (by omega) (by omega) (by omega) (lo0_ok r0 rfl rfl (by rw [← p3]; exact g3))
end MST
