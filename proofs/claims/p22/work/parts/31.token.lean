/-! each end of advance, against sp_tok -/
theorem av_mem {x : ai_s} {k a b : Nat} {n : Option Nat} {o : Int} (h : av_f x k a b n o = true) : ∃ q ∈ x.2.2.2.2.2, q.1 = k ∧ q.2.1 = a ∧ q.2.2.1 = b ∧ q.2.2.2.2 = o ∧ ∀ i, n = some i → q.2.2.2.1 = i := by
  obtain ⟨q, hq, h⟩ := List.any_eq_true.mp h
  rw [Bool.and_eq_true, Bool.and_eq_true, Bool.and_eq_true, Bool.and_eq_true, ai_beq, ai_beq, ai_beq, decide_eq_true_eq] at h
  obtain ⟨h1, h2, h3, h4, h5⟩ := h
  exact ⟨q, hq, h1, h2, h3, h4, fun i hi => by rw [hi] at h5; exact ai_beq.mp h5⟩
theorem av_f4 {w0 : va_W} {r : List Int} {x : ai_s} {a b : Nat} {o za zb : Int} (g2 : ai_sb w0 r x.2.2.2.2.2) (ha : r[a]? = some za) (hb : r[b]? = some zb) (h : av_f x 4 a b none o = true) : za < zb + o := by
  obtain ⟨q, hq, h1, h2, h3, h4, -⟩ := av_mem h
  obtain ⟨ya, yb, yr, e1, e2, -, -, -, -, e4, -⟩ := g2 q hq
  rw [h2, ha] at e1
  rw [h3, hb] at e2
  cases e1
  cases e2
  rw [← h4]
  exact e4 h1
theorem av_f5 {w0 : va_W} {r : List Int} {x : ai_s} {a b : Nat} {o za zb : Int} (g2 : ai_sb w0 r x.2.2.2.2.2) (ha : r[a]? = some za) (hb : r[b]? = some zb) (h : av_f x 5 a b none o = true) : zb + o ≤ za := by
  obtain ⟨q, hq, h1, h2, h3, h4, -⟩ := av_mem h
  obtain ⟨ya, yb, yr, e1, e2, -, -, -, -, -, e5, -⟩ := g2 q hq
  rw [h2, ha] at e1
  rw [h3, hb] at e2
  cases e1
  cases e2
  rw [← h4]
  exact e5 h1
theorem av_sk {w0 : va_W} {r : List Int} {x : ai_s} {g : Nat → Int} {j a n : Nat} {zp zn : Int} (g2 : ai_sb w0 r x.2.2.2.2.2) (hg : fx_tape w0 g) (hj : j < 3) (ha : r[a]? = some zp) (hn : r[2]? = some zn) (h : av_f x (320 + j) a 2 (some n) 0 = true) : ∃ zr : Int, r[n]? = some zr ∧ 0 ≤ zr ∧ zr.toNat = tp_skip g zn.toNat (fx_lo j) (fx_hi j) zp.toNat := by
  obtain ⟨q, hq, h1, h2, h3, h4, h5⟩ := av_mem h
  obtain ⟨ya, yb, yr, -, -, -, -, -, -, -, -, e9⟩ := g2 q hq
  obtain ⟨za, zb, zr, f1, f2, f3, f4, f5, f6⟩ := ((e9 (by omega)).2.2.1 g hg).2.2.1 (by omega) (by omega)
  rw [h2, ha] at f1
  rw [h3, hn] at f2
  cases f1
  cases f2
  rw [h5 n rfl] at f3
  rw [h1, h4, Int.add_zero, Nat.add_sub_cancel_left] at f6
  exact ⟨zr, f3, f5, f6⟩
theorem av_num {w0 : va_W} {r : List Int} {x : ai_s} {g : Nat → Int} {a b n : Nat} {zf ze : Int} (g2 : ai_sb w0 r x.2.2.2.2.2) (hg : fx_tape w0 g) (ha : r[a]? = some zf) (hb : r[b]? = some ze) (h : av_f x 330 a b (some n) 0 = true) : r[n]? = some (tp_num g zf.toNat ze.toNat) := by
  obtain ⟨q, hq, h1, h2, h3, h4, h5⟩ := av_mem h
  obtain ⟨ya, yb, yr, -, -, -, -, -, -, -, -, e9⟩ := g2 q hq
  obtain ⟨yf, ye, yv, f1, f2, f3, f4, f5, f6⟩ := ((e9 (by omega)).2.2.1 g hg).2.2.2.2 h1
  rw [h2, ha] at f1
  rw [h3, hb] at f2
  cases f1
  cases f2
  rw [h5 n rfl] at f3
  rw [f3, f6]
theorem av_gok {w0 : va_W} {r : List Int} {x : ai_s} {g : Nat → Int} {f : Nat} {zf : Int} {h : ai_e → Bool} (g1 : ai_ok r x.2.2.2.1) (g2 : ai_sb w0 r x.2.2.2.2.2) (hg : fx_tape w0 g) (ha : r[f]? = some zf) (hz : zf.toNat < 160) (hh : av_g x f h = true) : ∃ e : ai_e, h e = true ∧ e.1 ≤ g zf.toNat ∧ g zf.toNat ≤ e.2.1 := by
  obtain ⟨q, hq, hh⟩ := List.any_eq_true.mp hh
  rw [Bool.and_eq_true, Bool.and_eq_true, Bool.and_eq_true, ai_beq, ai_beq, decide_eq_true_eq] at hh
  obtain ⟨a1, a2, a3, a4⟩ := hh
  obtain ⟨ya, yb, yr, -, -, -, -, -, -, -, -, e9⟩ := g2 q hq
  obtain ⟨z1, z2, f1, f2, f3, f4⟩ := (e9 (by omega)).1 (by omega)
  rw [a2, ha] at f1
  cases f1
  rw [a1, a3, Int.add_zero, show 1027 - 1000 = 27 from rfl] at f4
  have f5 := f4 _ (hg _ hz)
  subst f5
  obtain ⟨e, b1, b2, b3⟩ := ai_any g1 f2 a4
  exact ⟨e, b1, b2, b3⟩
theorem av_nok {w0 : va_W} {r : List Int} {x : ai_s} {g : Nat → Int} {f : Nat} {zf : Int} (g1 : ai_ok r x.2.2.2.1) (g2 : ai_sb w0 r x.2.2.2.2.2) (hg : fx_tape w0 g) (h0 : r[0]? = some 0) (ha : r[f]? = some zf) (hz : zf.toNat < 160) (hh : av_not x f = true) : g zf.toNat ≠ 59 := by
  unfold av_not at hh
  rw [Bool.or_eq_true] at hh
  rcases hh with hh | hh
  · obtain ⟨q, hq, hh⟩ := List.any_eq_true.mp hh
    rw [Bool.and_eq_true, Bool.and_eq_true, Bool.and_eq_true, ai_beq, ai_beq, decide_eq_true_eq] at hh
    obtain ⟨a1, a2, a3, a4⟩ := hh
    obtain ⟨ya, yb, yr, -, -, -, -, -, -, -, -, e9⟩ := g2 q hq
    obtain ⟨z1, z2, f1, f2, f3, f4⟩ := (e9 (by omega)).1 (by omega)
    rw [a2, ha] at f1
    cases f1
    rw [a1, a3, Int.add_zero, show 1027 - 1000 = 27 from rfl] at f4
    have f5 := f4 _ (hg _ hz)
    subst f5
    obtain ⟨q', hq', h1, h2, h3, h4, -⟩ := av_mem a4
    obtain ⟨ua, ub, ur, -, -, -, -, -, -, -, -, u9⟩ := g2 q' hq'
    obtain ⟨t1, t2, k1, k2, -, -, -, k6, -⟩ := (u9 (by omega)).2.1 (by omega)
    obtain ⟨tb, k7, k8⟩ := k6 h1
    rw [h2, f2] at k1
    cases k1
    rw [h3, h0] at k7
    cases k7
    rw [h4] at k8
    intro hc
    exact k8 (by rw [hc]; rfl)
  · obtain ⟨e, b1, b2, b3⟩ := av_gok g1 g2 hg ha hz hh
    rw [Bool.or_eq_true, decide_eq_true_eq, decide_eq_true_eq] at b1
    omega
theorem av_inok {w0 : va_W} {r : List Int} {x : ai_s} {g : Nat → Int} {f : Nat} {zf lo hi : Int} (g1 : ai_ok r x.2.2.2.1) (g2 : ai_sb w0 r x.2.2.2.2.2) (hg : fx_tape w0 g) (ha : r[f]? = some zf) (hz : zf.toNat < 160) (hh : av_in x f lo hi = true) : lo ≤ g zf.toNat ∧ g zf.toNat ≤ hi := by
  obtain ⟨e, b1, b2, b3⟩ := av_gok g1 g2 hg ha hz hh
  rw [Bool.and_eq_true, decide_eq_true_eq, decide_eq_true_eq] at b1
  omega
theorem av_outok {w0 : va_W} {r : List Int} {x : ai_s} {g : Nat → Int} {f : Nat} {zf lo hi : Int} (g1 : ai_ok r x.2.2.2.1) (g2 : ai_sb w0 r x.2.2.2.2.2) (hg : fx_tape w0 g) (ha : r[f]? = some zf) (hz : zf.toNat < 160) (hh : av_out x f lo hi = true) : g zf.toNat < lo ∨ hi < g zf.toNat := by
  obtain ⟨e, b1, b2, b3⟩ := av_gok g1 g2 hg ha hz hh
  rw [Bool.or_eq_true, decide_eq_true_eq, decide_eq_true_eq] at b1
  omega
section AVA
variable {ad : List Nat} {p : Program} {l : Launch} {e : Env} {R : Room} {s : State} {m : MethodId} {args : Array Value} {below : List Frame} {meth : Method} {c : Code} {D : va_G} {tys : ai_ty} {A : Nat → Prop} {b L : Nat} {sx : Nat → Int32} {cells slots : Nat} {Q : State → Prop}
set_option maxHeartbeats 4000000 in
theorem av_all (C : ai_cx tb_m34 4 p R s m args c D tys A b L sx cells slots) {ws : va_W} {zn zp : Int32} {g : Nat → Int} (hw : ai_wd tb_TY ad tys ws) (hn : ai_sl ws 26 1 (.int zn)) (hp : ai_sl ws 26 7 (.int zp)) (hg : fx_tape ws g) {lv : List (Nat × Value)} (hlv : ai_lo ad b [0] tn_lo lv)
    (k : ∀ (ws' : va_W) (lv' : List (Nat × Value)) (zt zf ze : Int32) (zv : Int), ai_wd tb_TY ad tys ws' → ai_fr av_WR ws ws' → ai_sl ws' 26 8 (.int zt) → ai_sl ws' 26 9 (.int zf) → ai_sl ws' 26 7 (.int ze) → 0 ≤ zt.toInt → 0 ≤ zf.toInt → 0 ≤ ze.toInt → sp_tok g zn.toInt.toNat zp.toInt.toNat = (zt.toInt.toNat, zf.toInt.toNat, ze.toInt.toNat, zv) → (zt.toInt = 2 → ∃ z10 : Int32, ai_sl ws' 26 10 (.int z10) ∧ z10.toInt = zv) → hG tb_m34 p l e R s m args below meth c D A cells slots Q 141 lv' [] ws') : hG tb_m34 p l e R s m args below meth c D A cells slots Q 0 lv [] ws := by
  obtain ⟨n0, n1⟩ := f267 (i := 1) hw hn rfl
  obtain ⟨c0, c1⟩ := f267 (i := 7) hw hp rfl
  have gm : ai_gm tb_TY av_WR ws ad b L sx tys tb_m34.2.2.2.2.1 [0, 0, zn.toInt, zp.toInt] av_st lv [] ws := by
    refine ⟨⟨rfl, fun n z e hz he => ?_⟩, (fun q hq => by cases hq), lo0_ok (r := [0]) rfl rfl rfl hlv, trivial, hw, fun q hq => ?_, fun _ _ _ _ h => h, fun h => by cases h⟩
    · match n, hz, he with
      | 0, hz, he => cases hz; cases he; exact ⟨Int.le_refl _, Int.le_refl _, (fun h => by cases h), 0, rfl, Int.le_refl _⟩
      | 1, hz, he => cases hz; cases he; exact ⟨by decide, by decide, (fun h => by cases h), 0, rfl, Int.le_refl _⟩
      | 2, hz, he => cases hz; cases he; exact ⟨n0, n1, (fun h => by cases h), _, rfl, by show zn.toInt + 0 ≤ zn.toInt; omega⟩
      | 3, hz, he => cases hz; cases he; exact ⟨c0, c1, (fun h => by cases h), _, rfl, by show zp.toInt + 0 ≤ zp.toInt; omega⟩
      | n + 4, hz, he => cases hz
    · have hq : q ∈ [(26, 1, ((1, 2, 0, 0) : ai_v)), (26, 7, (1, 3, 0, 0))] := hq
      rcases List.mem_cons.mp hq with rfl | hq
      · exact kn1 hn (n := 2) (t := zn.toInt) rfl (by omega)
      · rcases List.mem_cons.mp hq with rfl | hq
        · exact kn1 hp (n := 3) (t := zp.toInt) rfl (by omega)
        · cases hq
  obtain ⟨xs, h1, h2⟩ := ai_anyE av_r
  refine hsegS (st := av_st) h1 rfl C gm (fun x hx r' lv' sk' ws' hx' g' => ?_)
  obtain ⟨g1, g2, g3, g4, g5, g6, g7, g8⟩ := g'
  have r0 : r'[0]? = some 0 := hx'.at rfl
  have r2 : r'[2]? = some zn.toInt := hx'.at rfl
  have r3 : r'[3]? = some zp.toInt := hx'.at rfl
  have hox := List.all_eq_true.mp h2 x hx
  unfold av_ok at hox
  rw [Bool.and_eq_true, Bool.and_eq_true, ai_beq] at hox
  obtain ⟨hs, px, hox⟩ := hox
  have hsk : sk' = [] := by
    rw [List.isEmpty_iff.mp hs] at g4
    exact g4.nil
  subst hsk
  obtain ⟨vf, l9, hox⟩ := ai_anyE hox
  rw [Bool.and_eq_true, Bool.and_eq_true, decide_eq_true_eq] at hox
  obtain ⟨ev, hsk0, hox⟩ := hox
  generalize vf.2.1 = F at *
  subst ev
  obtain ⟨ZF, rF, F0, eF⟩ := av_sk (j := 0) g2 hg (by decide) r3 r2 hsk0
  have eF : tp_skip g zn.toInt.toNat 32 32 zp.toInt.toNat = ZF.toNat := eF.symm
  obtain ⟨x9, s9, d9⟩ := ai_lk_ok g6 l9
  obtain ⟨zf, rfl, hzf⟩ := dvn d9 rF
  have tok : ∀ {t : Int}, ai_lk x.2.2.2.2.1 26 8 = some (1, 0, 0, t) → ∃ zt : Int32, ai_sl ws' 26 8 (.int zt) ∧ zt.toInt = t := fun {t} h => by
    obtain ⟨x8, s8, d8⟩ := ai_lk_ok g6 h
    obtain ⟨zt, rfl, hzt⟩ := dvn d8 r0
    exact ⟨zt, s8, by omega⟩
  rw [px]
  rw [Bool.or_eq_true] at hox
  rcases hox with hox | hox
  · rw [Bool.and_eq_true, Bool.and_eq_true, decide_eq_true_eq, decide_eq_true_eq] at hox
    obtain ⟨t0, a0, f5⟩ := hox
    have f5 := av_f5 g2 rF r2 f5
    obtain ⟨zt, s8, ht⟩ := tok t0
    obtain ⟨x7, s7, d7⟩ := ai_lk_ok g6 a0
    obtain ⟨ze, rfl, hze⟩ := dvn d7 rF
    refine k ws' lv' zt zf ze 0 g5 g7 s8 s9 s7 (by omega) (by omega) (by omega) ?_ (fun h => absurd h (by omega))
    unfold sp_tok
    rw [eF, if_pos (by omega), ht, show zf.toInt.toNat = ZF.toNat by omega, show ze.toInt.toNat = ZF.toNat by omega]
    rfl
  · rw [Bool.and_eq_true] at hox
    obtain ⟨f4, hox⟩ := hox
    have f4 := av_f4 g2 rF r2 f4
    have hF : ZF.toNat < 160 := by omega
    rw [Bool.or_eq_true] at hox
    rcases hox with hox | hox
    · rw [Bool.and_eq_true, Bool.and_eq_true, decide_eq_true_eq, decide_eq_true_eq] at hox
      obtain ⟨t0, a0, i0⟩ := hox
      have i0 := av_inok g1 g2 hg rF hF i0
      obtain ⟨zt, s8, ht⟩ := tok t0
      obtain ⟨x7, s7, d7⟩ := ai_lk_ok g6 a0
      obtain ⟨ze, rfl, hze⟩ := dvn d7 rF
      refine k ws' lv' zt zf ze 0 g5 g7 s8 s9 s7 (by omega) (by omega) (by omega) ?_ (fun h => absurd h (by omega))
      unfold sp_tok
      rw [eF, if_neg (by omega), if_pos (by omega), ht, show zf.toInt.toNat = ZF.toNat by omega, show ze.toInt.toNat = ZF.toNat + 1 by omega]
      rfl
    · rw [Bool.or_eq_true] at hox
      rcases hox with hox | hox
      · rw [Bool.and_eq_true, decide_eq_true_eq] at hox
        obtain ⟨t0, hox⟩ := hox
        obtain ⟨ve, l7, hox⟩ := ai_anyE hox
        rw [Bool.and_eq_true, Bool.and_eq_true, decide_eq_true_eq] at hox
        obtain ⟨ee, hs1, i0⟩ := hox
        generalize ve.2.1 = E at *
        subst ee
        have i0 := av_inok g1 g2 hg rF hF i0
        obtain ⟨ZE, rE, E0, eE⟩ := av_sk (j := 1) g2 hg (by decide) rF r2 hs1
        have eE : tp_skip g zn.toInt.toNat 97 122 ZF.toNat = ZE.toNat := eE.symm
        obtain ⟨zt, s8, ht⟩ := tok t0
        obtain ⟨x7, s7, d7⟩ := ai_lk_ok g6 l7
        obtain ⟨ze, rfl, hze⟩ := dvn d7 rE
        refine k ws' lv' zt zf ze 0 g5 g7 s8 s9 s7 (by omega) (by omega) (by omega) ?_ (fun h => absurd h (by omega))
        unfold sp_tok
        rw [eF, if_neg (by omega), if_neg (by omega), if_pos (tp_i_iff.mpr i0), eE, ht, show zf.toInt.toNat = ZF.toNat by omega, show ze.toInt.toNat = ZE.toNat by omega]
        rfl
      · rw [Bool.or_eq_true] at hox
        rcases hox with hox | hox
        · rw [Bool.and_eq_true, decide_eq_true_eq] at hox
          obtain ⟨t0, hox⟩ := hox
          obtain ⟨ve, l7, hox⟩ := ai_anyE hox
          rw [Bool.and_eq_true, Bool.and_eq_true, Bool.and_eq_true, Bool.and_eq_true, decide_eq_true_eq] at hox
          obtain ⟨ee, hs2, i0, h4, hox⟩ := hox
          obtain ⟨vn, l10, hox⟩ := ai_anyE hox
          rw [Bool.and_eq_true, decide_eq_true_eq] at hox
          obtain ⟨en, hnum⟩ := hox
          generalize ve.2.1 = E at *
          subst ee
          generalize vn.2.1 = N at *
          subst en
          have i0 := av_inok g1 g2 hg rF hF i0
          obtain ⟨ZE, rE, E0, eE⟩ := av_sk (j := 2) g2 hg (by decide) rF r2 hs2
          have eE : tp_skip g zn.toInt.toNat 48 57 ZF.toNat = ZE.toNat := eE.symm
          have h4 := av_f4 g2 rE rF h4
          have rN := av_num g2 hg rF rE hnum
          obtain ⟨zt, s8, ht⟩ := tok t0
          obtain ⟨x7, s7, d7⟩ := ai_lk_ok g6 l7
          obtain ⟨ze, rfl, hze⟩ := dvn d7 rE
          obtain ⟨x10, s10, d10⟩ := ai_lk_ok g6 l10
          obtain ⟨z10, rfl, hz10⟩ := dvn d10 rN
          refine k ws' lv' zt zf ze (tp_num g ZF.toNat ZE.toNat) g5 g7 s8 s9 s7 (by omega) (by omega) (by omega) ?_ (fun _ => ⟨z10, s10, by omega⟩)
          unfold sp_tok
          rw [eF, if_neg (by omega), if_neg (by omega), if_neg (fun hc => by have := tp_i_iff.mp hc; omega), if_pos (tp_i_iff.mpr i0), eE, if_neg (by omega), ht, show zf.toInt.toNat = ZF.toNat by omega, show ze.toInt.toNat = ZE.toNat by omega]
          rfl
        · rw [Bool.and_eq_true, decide_eq_true_eq, Bool.or_eq_true] at hox
          obtain ⟨t0, hox⟩ := hox
          obtain ⟨zt, s8, ht⟩ := tok t0
          rcases hox with hox | hox
          · obtain ⟨ve, l7, hox⟩ := ai_anyE hox
            rw [Bool.and_eq_true, Bool.and_eq_true, Bool.and_eq_true, decide_eq_true_eq] at hox
            obtain ⟨ee, hs2, i0, h5⟩ := hox
            generalize ve.2.1 = E at *
            subst ee
            have i0 := av_inok g1 g2 hg rF hF i0
            obtain ⟨ZE, rE, E0, eE⟩ := av_sk (j := 2) g2 hg (by decide) rF r2 hs2
            have eE : tp_skip g zn.toInt.toNat 48 57 ZF.toNat = ZE.toNat := eE.symm
            have h5 := av_f5 g2 rE rF h5
            obtain ⟨x7, s7, d7⟩ := ai_lk_ok g6 l7
            obtain ⟨ze, rfl, hze⟩ := dvn d7 rE
            refine k ws' lv' zt zf ze 0 g5 g7 s8 s9 s7 (by omega) (by omega) (by omega) ?_ (fun h => absurd h (by omega))
            unfold sp_tok
            rw [eF, if_neg (by omega), if_neg (by omega), if_neg (fun hc => by have := tp_i_iff.mp hc; omega), if_pos (tp_i_iff.mpr i0), eE, if_pos (by omega), ht, show zf.toInt.toNat = ZF.toNat by omega, show ze.toInt.toNat = ZE.toNat by omega]
            rfl
          · rw [Bool.and_eq_true, Bool.and_eq_true, Bool.and_eq_true, decide_eq_true_eq] at hox
            obtain ⟨a0, m1, m2, m3⟩ := hox
            have m1 := av_nok g1 g2 hg r0 rF hF m1
            have m2 := av_outok g1 g2 hg rF hF m2
            have m3 := av_outok g1 g2 hg rF hF m3
            obtain ⟨x7, s7, d7⟩ := ai_lk_ok g6 a0
            obtain ⟨ze, rfl, hze⟩ := dvn d7 rF
            refine k ws' lv' zt zf ze 0 g5 g7 s8 s9 s7 (by omega) (by omega) (by omega) ?_ (fun h => absurd h (by omega))
            unfold sp_tok
            rw [eF, if_neg (by omega), if_neg m1, if_neg (fun hc => by have := tp_i_iff.mp hc; omega), if_neg (fun hc => by have := tp_i_iff.mp hc; omega), ht, show zf.toInt.toNat = ZF.toNat by omega, show ze.toInt.toNat = ZF.toNat by omega]
            rfl
end AVA
