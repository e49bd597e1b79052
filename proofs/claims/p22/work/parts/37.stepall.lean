/-! the reference's step is sp_tok over row 52 -/
theorem lkv {ad : List Nat} {b : Nat} {r : List Int} {ws : va_W} {kn : List ai_k} {k i n : Nat} {o z : Int} (g6 : ai_kn ad b r ws kn) (h : ai_lk kn k i = some (1, n, 0, o)) (hr : r[n]? = some z) : ∃ j : Int32, ai_sl ws k i (.int j) ∧ j.toInt = z + o := by
  obtain ⟨x, s, d⟩ := ai_lk_ok g6 h
  obtain ⟨j, rfl, hj⟩ := dvn d hr
  exact ⟨j, s, hj⟩
def mgi (x : ai_s) (lo hi : Int) : Bool := mg x 3 0 fun _ e => decide (lo ≤ e.1) && decide (e.2.1 ≤ hi)
def mgo (x : ai_s) (lo hi : Int) : Bool := mg x 3 0 fun _ e => decide (e.2.1 < lo) || decide (hi < e.1)
def mgn (x : ai_s) : Bool := mg x 3 0 fun v e => decide (e.2.1 < 59) || decide (59 < e.1) || av_f x 140 v 0 none 59
def s9 (x : ai_s) (i : Nat) (v : ai_v) : Bool := decide (ai_lk x.2.2.2.2.1 49 i = some v)
def st_WR : List (Nat × Nat × Nat) := [(49, 9, 15)]
def st_0 : ai_s := (0, ms_lo, [], [(0, 0, false, 0, 0), (0, 2555, false, 1, 0)], [(49, 9, (1, 0, 0, 0))], [])
def st_0ok (x : ai_s) : Bool := x.2.2.1.isEmpty && (Nat.beq x.1 8 && decide (x.2.1 = ms_lo))
theorem st_r0 : ((ai_ex (hk []) 20 104 tb_m104 5 [8] st_0).any fun xs => xs.all st_0ok) = true := by decide +kernel
def st_34 : ai_s := (34, ms_lo, [], mf_e, [(49, 7, (1, 2, 0, 0)), (49, 11, (1, 3, 0, 0)), (49, 9, (1, 0, 0, 0))], [])
def st_34ok (x : ai_s) : Bool := x.2.2.1.isEmpty && (s9 x 12 (1, 3, 0, 0) &&
  ((Nat.beq x.1 269 && (s9 x 13 (1, 0, 0, 0) && (s9 x 9 (1, 0, 0, 0) && (s9 x 11 (1, 3, 0, 0) && (s9 x 14 (1, 0, 0, 0) && av_f x 5 3 2 none 0))))) ||
   (av_f x 4 3 2 none 0 &&
    ((Nat.beq x.1 269 && (s9 x 13 (1, 0, 0, 3) && (s9 x 9 (1, 0, 0, 0) && (s9 x 11 (1, 3, 0, 1) && (s9 x 14 (1, 0, 0, 0) && mgi x 59 59))))) ||
     ((Nat.beq x.1 269 && (s9 x 9 (1, 0, 0, 1) && (s9 x 10 (1, 3, 0, 0) && (mgn x && (mgo x 97 122 && mgo x 48 57))))) ||
      (decide (ai_get x.2.1 0 = some (0, 49, 0, 0)) && (s9 x 9 (1, 0, 0, 0) && (s9 x 11 (1, 3, 0, 0) && (s9 x 14 (1, 0, 0, 0) &&
       ((Nat.beq x.1 84 && mgi x 97 122) || (Nat.beq x.1 140 && mgi x 48 57)))))))))))
theorem st_r34 : ((ai_ex (hk st_WR) 200 104 tb_m104 5 [84, 140] st_34).any fun xs => xs.all st_34ok) = true := by decide +kernel
def st_118 : ai_s := (118, ms_lo, [], [(0, 0, false, 0, 0), (0, 2555, false, 1, 0)], [], [])
def st_118ok (x : ai_s) : Bool := x.2.2.1.isEmpty && (Nat.beq x.1 269 && s9 x 13 (1, 0, 0, 1))
theorem st_r118 : ((ai_ex (hk [(49, 13, 14)]) 20 104 tb_m104 5 [] st_118).any fun xs => xs.all st_118ok) = true := by decide +kernel
def st_W217 : List (Nat × Nat × Nat) := [(49, 9, 11), (49, 13, 14)]
def st_217 : ai_s := (217, ms_lo, [], mf_e, [(49, 12, (1, 2, 0, 0)), (49, 11, (1, 3, 0, 0)), (49, 9, (1, 0, 0, 0))], [])
def st_217ok (x : ai_s) : Bool := x.2.2.1.isEmpty && (Nat.beq x.1 269 &&
  (((tn_d x fun e => decide (e.2.1 ≤ 2)) && (s9 x 9 (1, 0, 0, 0) && s9 x 13 (1, 0, 0, 2))) ||
   ((tn_d x fun e => decide (3 ≤ e.1)) && (s9 x 9 (1, 0, 0, 1) && s9 x 10 (1, 2, 0, 0)))))
theorem st_r217 : ((ai_ex (hk st_W217) 60 104 tb_m104 5 [] st_217).any fun xs => xs.all st_217ok) = true := by decide +kernel
section STA
variable {ad : List Nat} {M : ai_m} {p : Program} {l : Launch} {e : Env} {R : Room} {s : State} {m : MethodId} {args : Array Value} {below : List Frame} {meth : Method} {c : Code} {D : va_G} {tys : ai_ty} {A : Nat → Prop} {b L : Nat} {sx : Nat → Int32} {cells slots : Nat} {Q : State → Prop}
theorem hG_this {r : List Int} {lo : List (Nat × ai_v)} {lv : List (Nat × Value)} {cl pc : Nat} {sk : List Value} {ws : va_W} (h : ai_lo ad b r lo lv) (hg : ai_get lo 0 = some (0, cl, 0, 0)) (k : ∀ lv1, ai_lo ad b [0] [(0, (0, cl, 0, 0))] lv1 → hG M p l e R s m args below meth c D A cells slots Q pc lv1 sk ws) : hG M p l e R s m args below meth c D A cells slots Q pc lv sk ws := by
  obtain ⟨n, x, h1, h2⟩ := ai_get_ok h hg
  intro H locs ls hP hD hS hl
  refine k [(0, x)] ⟨rfl, ?_, trivial⟩ H locs ls hP hD hS ⟨hl.1, hl.2.1, fun q hq => ?_⟩
  · rcases h2 with h2 | ⟨q, -⟩ | ⟨q, -⟩ | ⟨q, -⟩ | ⟨q, -⟩
    · exact Or.inl h2
    · exact absurd (id q : (0 : Nat) = 1) (by decide)
    · exact absurd (id q : (0 : Nat) = 2) (by decide)
    · exact absurd (id q : (0 : Nat) = 3) (by decide)
    · exact absurd (id q : (0 : Nat) = 4) (by decide)
  · rw [List.mem_singleton.mp hq]
    exact lv_at hl n h1
/-- what the reference's cells are behind a step: token t from f to e, its number v -/
def st_is (ws : va_W) (t f e : Nat) (v : Int) : Prop :=
  (t = 4 → ∃ zb za : Int32, ai_sl ws 49 9 (.int zb) ∧ zb.toInt = 1 ∧ ai_sl ws 49 10 (.int za) ∧ za.toInt = (f : Int)) ∧
  (t ≠ 4 → ∃ zb zs zh zt zv : Int32, ai_sl ws 49 9 (.int zb) ∧ zb.toInt = 0 ∧ ai_sl ws 49 11 (.int zs) ∧ zs.toInt = (e : Int) ∧ ai_sl ws 49 12 (.int zh) ∧ zh.toInt = (f : Int) ∧ ai_sl ws 49 13 (.int zt) ∧ zt.toInt = (t : Int) ∧ ai_sl ws 49 14 (.int zv) ∧ zv.toInt = v)
theorem st_fr {W : List (Nat × Nat × Nat)} {u v : va_W} (h : ai_fr W u v) (hw : ∀ q ∈ W, q.1 = 49 ∧ 9 ≤ q.2.1 ∧ q.2.2 ≤ 15) : ai_fr st_WR u v := fun c i x a b' => h c i x (by
  unfold ai_wr st_WR at a
  unfold ai_wr
  rw [List.any_eq_false] at a ⊢
  intro q hq hx
  have := a (49, 9, 15) (List.mem_singleton.mpr rfl)
  obtain ⟨w1, w2, w3⟩ := hw q hq
  simp only [Bool.and_eq_true, Bool.or_eq_true, decide_eq_true_eq] at hx this
  omega) b'
set_option maxHeartbeats 4000000 in
theorem st_all (C : ai_cx tb_m104 5 p R s m args c D tys A b L sx cells slots) {ws : va_W} {zn zp zo : Int32} {g : Nat → Int} (hw : ai_wd tb_TY ad tys ws) (hn : ai_sl ws 49 7 (.int zn)) (hp : ai_sl ws 49 11 (.int zp)) (hb : ai_sl ws 49 9 (.int zo)) (hb0 : zo.toInt = 0) (hg : ∀ i, i < 160 → fx_o ws 52 i = some (g i)) {lv : List (Nat × Value)} (hlv : ai_lo ad b [0] ms_lo lv)
    (k : ∀ (ws' : va_W) (lv' : List (Nat × Value)) (t f en : Nat) (v : Int), ai_wd tb_TY ad tys ws' → ai_fr st_WR ws ws' → sp_tok g zn.toInt.toNat zp.toInt.toNat = (t, f, en, v) → f ≤ 160 → en ≤ 160 → -2147483648 ≤ v → v ≤ 2147483647 → st_is ws' t f en v → hG tb_m104 p l e R s m args below meth c D A cells slots Q 269 lv' [] ws') : hG tb_m104 p l e R s m args below meth c D A cells slots Q 0 lv [] ws := by
  obtain ⟨n0, n1⟩ := f49 (i := 7) hw hn rfl
  obtain ⟨xs0, h01, h02⟩ := ai_anyE st_r0
  have gm0 : ai_gm tb_TY [] ws ad b L sx tys tb_m104.2.2.2.2.1 [0, 0] st_0 lv [] ws := by
    refine ⟨en_mk (by simp only [st_0, en_b, and_true]; omega) rfl, (fun q hq => by cases hq), lo0_ok (r := [0]) rfl rfl rfl hlv, trivial, hw, kc (kn1 hb (n := 0) (t := 0) rfl (by omega)) k0, fun _ _ _ _ h => h, fun h => by cases h⟩
  refine hseg (st := st_0) h01 rfl C gm0 (fun x hx r' lv1 sk' ws0 hx' g' => ?_)
  obtain ⟨-, -, g3, g4, hw0, -, f0, -⟩ := g'
  have r0 : r'[0]? = some 0 := hx'.at rfl
  have hox := List.all_eq_true.mp h02 x hx
  unfold st_0ok at hox
  rw [Bool.and_eq_true, Bool.and_eq_true, ai_beq, decide_eq_true_eq] at hox
  obtain ⟨hs, p1, p2⟩ := hox
  have hsk : sk' = [] := by
    rw [List.isEmpty_iff.mp hs] at g4
    exact g4.nil
  subst hsk
  rw [p1]
  have hlv1 : ai_lo ad b [0] ms_lo lv1 := lo0_ok r0 rfl rfl (by rw [← p2]; exact g3)
  clear g3 g4 hx hx' hs p1 p2 r0 r'
  have wn : ∀ (k i : Nat), ai_wr [] k i i = false := fun _ _ => rfl
  have hn0 := f0 49 7 _ (wn _ _) hn
  have hp0 := f0 49 11 _ (wn _ _) hp
  have hb00 := f0 49 9 _ (wn _ _) hb
  have hg0 : ∀ i, i < 160 → fx_o ws0 52 i = some (g i) := fun i hi => fr_fx hw0 (k := 52) rfl f0 (wn _ _) (hg i hi)
  have F0 : ai_fr st_WR ws ws0 := st_fr f0 (fun q hq => by cases hq)
  refine ms_loop (j := 0) (by decide) C ((160 - zp.toInt).toNat + 1) ws0 zp lv1 (Nat.lt_succ_self _) hw0 hn0 hp0 hg0 hlv1 (fun ws1 lv2 zf hw1 f1 hc1 hlv2 eF => ?_)
  have hn1 := f1 49 7 _ (by decide) hn0
  have hb1 := f1 49 9 _ (by decide) hb00
  have hg1 : ∀ i, i < 160 → fx_o ws1 52 i = some (g i) := fun i hi => fr_fx hw1 (k := 52) rfl f1 (by unfold ai_wr ms_WR; simp) (hg0 i hi)
  have F1 : ai_fr st_WR ws ws1 := F0.tr (st_fr f1 (fun q hq => by rw [List.mem_singleton.mp hq]; decide))
  have eF : tp_skip g zn.toInt.toNat 32 32 zp.toInt.toNat = zf.toInt.toNat := eF.symm
  obtain ⟨c0, c1⟩ := f49 (i := 11) hw1 hc1 rfl
  obtain ⟨xs1, h11, h12⟩ := ai_anyE st_r34
  have gm1 : ai_gm tb_TY st_WR ws1 ad b L sx tys tb_m104.2.2.2.2.1 [0, 0, zn.toInt, zf.toInt] st_34 lv2 [] ws1 := by
    refine ⟨en_mk (by simp only [st_34, mf_e, en_b, and_true]; omega) rfl, (fun q hq => by cases hq), lo0_ok (r := [0]) rfl rfl rfl hlv2, trivial, hw1, kc (kn1 hn1 (n := 2) (t := zn.toInt) rfl (by omega)) (kc (kn1 hc1 (n := 3) (t := zf.toInt) rfl (by omega)) (kc (kn1 hb1 (n := 0) (t := 0) rfl (by omega)) k0)), fun _ _ _ _ h => h, fun h => by cases h⟩
  refine hseg (st := st_34) h11 rfl C gm1 (fun x hx r' lv3 sk' ws2 hx' g' => ?_)
  obtain ⟨g1, g2, g3, g4, hw2, g6, f2, -⟩ := g'
  have F2 : ai_fr st_WR ws ws2 := F1.tr f2
  have r0 : r'[0]? = some 0 := hx'.at rfl
  have r2 : r'[2]? = some zn.toInt := hx'.at rfl
  have r3 : r'[3]? = some zf.toInt := hx'.at rfl
  have hox := List.all_eq_true.mp h12 x hx
  unfold st_34ok at hox
  rw [Bool.and_eq_true, Bool.and_eq_true, Bool.or_eq_true] at hox
  obtain ⟨hs, q12, hox⟩ := hox
  have hsk : sk' = [] := by
    rw [List.isEmpty_iff.mp hs] at g4
    exact g4.nil
  subst hsk
  obtain ⟨zh, s12, e12⟩ := lkv g6 (decide_eq_true_eq.mp q12) r3
  have bt : zf.toInt < zn.toInt → fx_o ws1 52 (zf.toInt + 0).toNat = some (g zf.toInt.toNat) := fun h => by
    rw [Int.add_zero]
    exact hg1 _ (by omega)
  have bi : ∀ {lo hi : Int}, zf.toInt < zn.toInt → mgi x lo hi = true → lo ≤ g zf.toInt.toNat ∧ g zf.toInt.toNat ≤ hi := fun {lo hi} h hh => by
    obtain ⟨v, e0, b1, -, b2, b3⟩ := mg_ok g1 g2 r3 (bt h) hh
    rw [Bool.and_eq_true, decide_eq_true_eq, decide_eq_true_eq] at b1
    omega
  have bo : ∀ {lo hi : Int}, zf.toInt < zn.toInt → mgo x lo hi = true → g zf.toInt.toNat < lo ∨ hi < g zf.toInt.toNat := fun {lo hi} h hh => by
    obtain ⟨v, e0, b1, -, b2, b3⟩ := mg_ok g1 g2 r3 (bt h) hh
    rw [Bool.or_eq_true, decide_eq_true_eq, decide_eq_true_eq] at b1
    omega
  rcases hox with hox | hox
  · rw [Bool.and_eq_true, Bool.and_eq_true, Bool.and_eq_true, Bool.and_eq_true, Bool.and_eq_true, ai_beq] at hox
    obtain ⟨p1, q13, q9, q11, q14, h5⟩ := hox
    obtain ⟨zt, s13, e13⟩ := lkv g6 (decide_eq_true_eq.mp q13) r0
    obtain ⟨zb, s9', e9⟩ := lkv g6 (decide_eq_true_eq.mp q9) r0
    obtain ⟨zs, s11, e11⟩ := lkv g6 (decide_eq_true_eq.mp q11) r3
    obtain ⟨zv, s14, e14⟩ := lkv g6 (decide_eq_true_eq.mp q14) r0
    have h5 := av_f5 g2 r3 r2 h5
    rw [p1]
    refine k ws2 lv3 0 zf.toInt.toNat zf.toInt.toNat 0 hw2 F2 ?_ (by omega) (by omega) (by decide) (by decide) ⟨fun h => absurd h (by decide), fun _ => ⟨zb, zs, zh, zt, zv, s9', by omega, s11, by omega, s12, by omega, s13, by omega, s14, by omega⟩⟩
    unfold sp_tok
    rw [eF, if_pos (by omega)]
  · rw [Bool.and_eq_true] at hox
    obtain ⟨h4, hox⟩ := hox
    have h4 := av_f4 g2 r3 r2 h4
    have h4 : zf.toInt < zn.toInt := by omega
    rw [Bool.or_eq_true] at hox
    rcases hox with hox | hox
    · rw [Bool.and_eq_true, Bool.and_eq_true, Bool.and_eq_true, Bool.and_eq_true, Bool.and_eq_true, ai_beq] at hox
      obtain ⟨p1, q13, q9, q11, q14, i0⟩ := hox
      obtain ⟨zt, s13, e13⟩ := lkv g6 (decide_eq_true_eq.mp q13) r0
      obtain ⟨zb, s9', e9⟩ := lkv g6 (decide_eq_true_eq.mp q9) r0
      obtain ⟨zs, s11, e11⟩ := lkv g6 (decide_eq_true_eq.mp q11) r3
      obtain ⟨zv, s14, e14⟩ := lkv g6 (decide_eq_true_eq.mp q14) r0
      have i0 := bi h4 i0
      rw [p1]
      refine k ws2 lv3 3 zf.toInt.toNat (zf.toInt.toNat + 1) 0 hw2 F2 ?_ (by omega) (by omega) (by decide) (by decide) ⟨fun h => absurd h (by decide), fun _ => ⟨zb, zs, zh, zt, zv, s9', by omega, s11, by omega, s12, by omega, s13, by omega, s14, by omega⟩⟩
      unfold sp_tok
      rw [eF, if_neg (by omega), if_pos (by omega)]
    · rw [Bool.or_eq_true] at hox
      rcases hox with hox | hox
      · rw [Bool.and_eq_true, Bool.and_eq_true, Bool.and_eq_true, Bool.and_eq_true, Bool.and_eq_true, ai_beq] at hox
        obtain ⟨p1, q9, q10, m1, m2, m3⟩ := hox
        obtain ⟨zb, s9', e9⟩ := lkv g6 (decide_eq_true_eq.mp q9) r0
        obtain ⟨za, s10, e10⟩ := lkv g6 (decide_eq_true_eq.mp q10) r3
        have m2 := bo h4 m2
        have m3 := bo h4 m3
        have m1 : g zf.toInt.toNat ≠ 59 := by
          obtain ⟨v, e0, b1, b4, b2, b3⟩ := mg_ok g1 g2 r3 (bt h4) m1
          rw [Bool.or_eq_true, Bool.or_eq_true, decide_eq_true_eq, decide_eq_true_eq] at b1
          rcases b1 with (b1 | b1) | b1
          · omega
          · omega
          · exact av_ne g2 r0 b4 b1
        rw [p1]
        refine k ws2 lv3 4 zf.toInt.toNat zf.toInt.toNat 0 hw2 F2 ?_ (by omega) (by omega) (by decide) (by decide) ⟨fun _ => ⟨zb, za, s9', by omega, s10, by omega⟩, fun h => absurd rfl h⟩
        unfold sp_tok
        rw [eF, if_neg (by omega), if_neg m1, if_neg (fun hc => by have := tp_i_iff.mp hc; omega), if_neg (fun hc => by have := tp_i_iff.mp hc; omega)]
      · rw [Bool.and_eq_true, Bool.and_eq_true, Bool.and_eq_true, Bool.and_eq_true, decide_eq_true_eq, Bool.or_eq_true] at hox
        obtain ⟨q0, q9, q11, q14, hox⟩ := hox
        obtain ⟨zb, s9', e9⟩ := lkv g6 (decide_eq_true_eq.mp q9) r0
        obtain ⟨zs, s11, e11⟩ := lkv g6 (decide_eq_true_eq.mp q11) r3
        obtain ⟨zv, s14, e14⟩ := lkv g6 (decide_eq_true_eq.mp q14) r0
        have ezs : zs = zf := Int32.toInt_inj.mp (by omega)
        have ezh : zh = zf := Int32.toInt_inj.mp (by omega)
        subst ezs
        subst ezh
        have hn2 : ai_sl ws2 49 7 (.int zn) := f2 49 7 _ (by decide) hn1
        have hg2 : ∀ i, i < 160 → fx_o ws2 52 i = some (g i) := fun i hi => fr_fx hw2 (k := 52) rfl f2 (by unfold ai_wr st_WR; simp) (hg1 i hi)
        rcases hox with hox | hox
        · rw [Bool.and_eq_true, ai_beq] at hox
          have i0 := bi h4 hox.2
          rw [hox.1]
          refine hG_this g3 q0 (fun lv4 hlv4 => ?_)
          refine ms_loop (j := 1) (by decide) C ((160 - zh.toInt).toNat + 1) ws2 zh lv4 (Nat.lt_succ_self _) hw2 hn2 s11 hg2 hlv4 (fun ws3 lv5 ze hw3 f3 hc3 hlv5 eE => ?_)
          have eE : tp_skip g zn.toInt.toNat 97 122 zh.toInt.toNat = ze.toInt.toNat := eE.symm
          have F3 : ai_fr st_WR ws ws3 := F2.tr (st_fr f3 (fun q hq => by rw [List.mem_singleton.mp hq]; decide))
          have s93 := f3 49 9 _ (by decide) s9'
          have s123 := f3 49 12 _ (by decide) s12
          have s143 := f3 49 14 _ (by decide) s14
          obtain ⟨d0, d1⟩ := f49 (i := 11) hw3 hc3 rfl
          obtain ⟨xs2, h21, h22⟩ := ai_anyE st_r118
          have gm2 : ai_gm tb_TY [(49, 13, 14)] ws3 ad b L sx tys tb_m104.2.2.2.2.1 [0, 0] st_118 lv5 [] ws3 := by
            refine ⟨en_mk (by simp only [st_118, en_b, and_true]; omega) rfl, (fun q hq => by cases hq), lo0_ok (r := [0]) rfl rfl rfl hlv5, trivial, hw3, k0, fun _ _ _ _ h => h, fun h => by cases h⟩
          refine hseg (st := st_118) h21 rfl C gm2 (fun x2 hx2 r2' lv6 sk2 ws4 hx2' g2' => ?_)
          obtain ⟨-, -, -, k4, hw4, k6, f4, -⟩ := g2'
          have hox2 := List.all_eq_true.mp h22 x2 hx2
          unfold st_118ok at hox2
          rw [Bool.and_eq_true, Bool.and_eq_true, ai_beq] at hox2
          obtain ⟨hs2, p1, q13⟩ := hox2
          have hsk2 : sk2 = [] := by
            rw [List.isEmpty_iff.mp hs2] at k4
            exact k4.nil
          subst hsk2
          obtain ⟨zt, s13, e13⟩ := lkv k6 (decide_eq_true_eq.mp q13) (hx2'.at (show ([0, 0] : List Int)[0]? = some 0 from rfl))
          rw [p1]
          refine k ws4 lv6 1 zh.toInt.toNat ze.toInt.toNat 0 hw4 (F3.tr (st_fr f4 (fun q hq => by rw [List.mem_singleton.mp hq]; decide))) ?_ (by omega) (by omega) (by decide) (by decide) ⟨fun h => absurd h (by decide), fun _ => ⟨zb, ze, zh, zt, zv, f4 49 9 _ (by decide) s93, by omega, f4 49 11 _ (by decide) hc3, by omega, f4 49 12 _ (by decide) s123, by omega, s13, by omega, f4 49 14 _ (by decide) s143, by omega⟩⟩
          unfold sp_tok
          rw [eF, if_neg (by omega), if_neg (by omega), if_pos (tp_i_iff.mpr i0), eE]
        · rw [Bool.and_eq_true, ai_beq] at hox
          have i0 := bi h4 hox.2
          rw [hox.1]
          refine hG_this g3 q0 (fun lv4 hlv4 => ?_)
          refine mf_loop C hw2 hn2 s12 s11 s14 (by omega) hg2 hlv4 (fun ws3 lv5 ze zw hw3 f3 hc3 hv3 hlv5 eE hnum => ?_)
          have eE : tp_skip g zn.toInt.toNat 48 57 zh.toInt.toNat = ze.toInt.toNat := eE.symm
          have F3 : ai_fr st_WR ws ws3 := F2.tr (st_fr f3 (fun q hq => by
            rcases List.mem_cons.mp hq with rfl | hq
            · decide
            · rw [List.mem_singleton.mp hq]; decide))
          have s93 := f3 49 9 _ (by decide) s9'
          have s123 := f3 49 12 _ (by decide) s12
          obtain ⟨d0, d1⟩ := f49 (i := 11) hw3 hc3 rfl
          obtain ⟨xs2, h21, h22⟩ := ai_anyE st_r217
          have gm2 : ai_gm tb_TY st_W217 ws3 ad b L sx tys tb_m104.2.2.2.2.1 [0, 0, zh.toInt, ze.toInt] st_217 lv5 [] ws3 := by
            refine ⟨en_mk (by simp only [st_217, mf_e, en_b, and_true]; omega) rfl, (fun q hq => by cases hq), lo0_ok (r := [0]) rfl rfl rfl hlv5, trivial, hw3, kc (kn1 s123 (n := 2) (t := zh.toInt) rfl (by omega)) (kc (kn1 hc3 (n := 3) (t := ze.toInt) rfl (by omega)) (kc (kn1 s93 (n := 0) (t := 0) rfl (by omega)) k0)), fun _ _ _ _ h => h, fun h => by cases h⟩
          refine hseg (st := st_217) h21 rfl C gm2 (fun x2 hx2 r2' lv6 sk2 ws4 hx2' g2' => ?_)
          obtain ⟨k1, k2, -, k4, hw4, k6, f4, -⟩ := g2'
          have y0 : r2'[0]? = some 0 := hx2'.at rfl
          have y2 : r2'[2]? = some zh.toInt := hx2'.at rfl
          have y3 : r2'[3]? = some ze.toInt := hx2'.at rfl
          have hox2 := List.all_eq_true.mp h22 x2 hx2
          unfold st_217ok at hox2
          rw [Bool.and_eq_true, Bool.and_eq_true, ai_beq, Bool.or_eq_true] at hox2
          obtain ⟨hs2, p1, hox2⟩ := hox2
          have hsk2 : sk2 = [] := by
            rw [List.isEmpty_iff.mp hs2] at k4
            exact k4.nil
          subst hsk2
          have F4 : ai_fr st_WR ws ws4 := F3.tr (st_fr f4 (fun q hq => by
            rcases List.mem_cons.mp hq with rfl | hq
            · decide
            · rw [List.mem_singleton.mp hq]; decide))
          rw [p1]
          rcases hox2 with hox2 | hox2
          · rw [Bool.and_eq_true, Bool.and_eq_true] at hox2
            obtain ⟨hd, q9', q13⟩ := hox2
            obtain ⟨e0, b1, b2, b3⟩ := tn_dok k1 k2 y2 y3 hd
            rw [decide_eq_true_eq] at b1
            obtain ⟨zt, s13, e13⟩ := lkv k6 (decide_eq_true_eq.mp q13) y0
            obtain ⟨zb', s94, e9'⟩ := lkv k6 (decide_eq_true_eq.mp q9') y0
            have hnum := hnum (by omega)
            refine k ws4 lv6 2 zh.toInt.toNat ze.toInt.toNat (tp_num g zh.toInt.toNat ze.toInt.toNat) hw4 F4 ?_ (by omega) (by omega) (by rw [← hnum]; exact Int32.le_toInt _) (by rw [← hnum]; exact Int32.toInt_le _) ⟨fun h => absurd h (by decide), fun _ => ⟨zb', ze, zh, zt, zw, s94, by omega, f4 49 11 _ (by decide) hc3, by omega, f4 49 12 _ (by decide) s123, by omega, s13, by omega, f4 49 14 _ (by decide) hv3, hnum⟩⟩
            unfold sp_tok
            rw [eF, if_neg (by omega), if_neg (by omega), if_neg (fun hc => by have := tp_i_iff.mp hc; omega), if_pos (tp_i_iff.mpr i0), eE, if_neg (by omega)]
          · rw [Bool.and_eq_true, Bool.and_eq_true] at hox2
            obtain ⟨hd, q9', q10⟩ := hox2
            obtain ⟨e0, b1, b2, b3⟩ := tn_dok k1 k2 y2 y3 hd
            rw [decide_eq_true_eq] at b1
            obtain ⟨za, s10, e10⟩ := lkv k6 (decide_eq_true_eq.mp q10) y2
            obtain ⟨zb', s94, e9'⟩ := lkv k6 (decide_eq_true_eq.mp q9') y0
            refine k ws4 lv6 4 zh.toInt.toNat ze.toInt.toNat 0 hw4 F4 ?_ (by omega) (by omega) (by decide) (by decide) ⟨fun _ => ⟨zb', za, s94, by omega, s10, by omega⟩, fun h => absurd rfl h⟩
            unfold sp_tok
            rw [eF, if_neg (by omega), if_neg (by omega), if_neg (fun hc => by have := tp_i_iff.mp hc; omega), if_pos (tp_i_iff.mpr i0), eE, if_pos (by omega)]
end STA
