/-! become of the class, copies of the reference -/
def hv_Q (P : va_W → Prop) (D : va_G) (A : Nat → Prop) : Array Value → State → Outcome → State → Prop := fun _ st oc t => (∃ ws : va_W, P ws ∧ va_P D vwCl ws t.heap ∧ va_D A ws ∧ oc = .returned none) ∧ va_F A st t
section HCV
variable {ad : List Nat} {M : ai_m} {d : Nat} {p : Program} {l : Launch} {e : Env} {R : Room} {s : State} {m : MethodId} {args : Array Value} {below : List Frame} {meth : Method} {c : Code} {D : va_G} {tys : ai_ty} {A : Nat → Prop} {b L : Nat} {sx : Nat → Int32} {cells slots : Nat} {Q : State → Prop}
theorem hcallV {q : ai_l5} {M' : ai_m} {pc cl a : Nat} {t : ai_c} {rets : List Nat} {P : va_W → Prop} {ws : va_W} {As rest : List Value} {lv : List (Nat × Value)}
    (C : ai_cx M d p R s m args c D tys A b L sx cells slots) (hd1 : 1 ≤ d) (hdec : decode M.2.1 pc = .ok (.invokevirtual q.1, 3)) (hlok : ai_lok tb_MT M.1.cls q) (hq0 : q.2.1 = 0) (hq1 : q.2.2.2.1 = As.length) (hM' : tb_MT[q.2.2.1]? = some M') (hsc : M'.2.2.2.2.1 = false) (hml : M'.2.2.1 ≤ 17) (hm1 : (lg_sl (.ref a :: As)).length ≤ M'.2.2.1) (hv : M'.2.2.2.1 = none)
    (ht : tb_TY[cl]? = some t) (t0 : t.1 = 0) (t1 : t.2.1 = q.2.2.2.2) (hw : ai_wd tb_TY ad tys ws) (ha : ad[cl]? = some a) (hrest : (rest.map fun v => v.category).sum ≤ 8)
    (hr : ∀ pcr ∈ rets, decode M'.2.1 pcr = .ok (.return_, 1))
    (callee : ∀ {p : Program} {e : Env} {R : Room} {s : State} {m : MethodId} {args : Array Value} {below : List Frame} {meth : Method} {c : Code} {Q : State → Prop}, ai_cx M' (d - 1) p R s m args c D tys A b L sx 0 0 → (∀ (pcr : Nat) (ws' : va_W) (lv' : List (Nat × Value)), pcr ∈ rets → P ws' → hG M' p l e R s m args below meth c D A 0 0 Q pcr lv' [] ws') → hG M' p l e R s m args below meth c D A 0 0 Q 0 (lv_args 0 (.ref a :: As)) [] ws)
    (k : ∀ ws', P ws' → hG M p l e R s m args below meth c D A cells slots Q (pc + 3) lv rest ws') : hG M p l e R s m args below meth c D A cells slots Q pc lv (As.reverse ++ .ref a :: rest) ws := by
  intro H locs ls hP hD hS hl
  obtain ⟨a', e1, w1, w2, w3⟩ := hw.get ht
  cases Option.some.inj (ha.symm.trans w2)
  unfold ai_lok at hlok
  rw [hq0] at hlok
  obtain ⟨M2, rr, m1, m2, m3, m4⟩ := hlok
  rw [hM'] at m1
  cases m1
  obtain ⟨hok, hpl⟩ := (tv_MT M' (List.mem_of_getElem? hM')).1
  have hA : ∀ q, H.size ≤ q → A q := fun q hq => C.2.2.2.2.2.2.2.1 q (Nat.le_trans hS.1 hq)
  have met : Met l M'.1 (ai_ws M') (ai_rm (d - 1)) (va_Pc (.ref a :: As) (fun U => U.heap = H ∧ va_K D vwCl tys U ∧ ai_nj A U)) (hv_Q P D A) 0 0 A := by
    refine Met.ofW (cc := M'.2.1) (maxL := M'.2.2.1) (ret := M'.2.2.2.1) hpl rfl ?_
    intro p e s m args below meth c s₁ B hmL hv'
    obtain ⟨rfl, hH, hK, hN⟩ := hv'
    have hts := atoms_spec (ws := ai_ws M') B.pre
    have hown : s.vm.findClass M'.1.cls = some m.cls := findClass_of_methodNamed B.named
    have C' : ai_cx M' (d - 1) p (headSpec (ai_ws M') (ai_rm (d - 1))).room s m (Value.ref a :: As : List Value).toArray c D tys A b L sx 0 0 :=
      ⟨B.exec, B.bytes, hmL, hown, fun w h => hts w (List.mem_cons_of_mem _ h), hN, hK, fun q hq => hA q (by rw [← hH]; exact hq), ⟨Nat.le_refl _, Nat.le_refl _, Nat.zero_le _, Nat.zero_le _⟩, fun h => by rw [hsc] at h; cases h⟩
    have hl' := lv_entry (Value.ref a :: As) (n := M'.2.2.1) (by exact hm1)
    rw [lg_entry_eq]
    have hh : s.heap = H := hH
    refine callee C' (fun pcr ws' lv' hpr hPw => ?_) s.heap [] _ (by rw [hh]; exact hP) hD va_S.rf hl'
    intro H2 locs2 ls2 hP2 hD2 hS2 hl2
    exact W.vret C'.1 C'.2.1 (B.returns.trans hv) (fun t ht hW => ⟨⟨ws', hPw, by rw [ht]; exact hP2, hD2, rfl⟩, hS2.F ht⟩) hS2.2.2 (hr pcr hpr) B.notSynchronized
  rcases w3 with ⟨-, fs, rfl, -⟩ | ⟨q1, -⟩ | ⟨q1, -⟩ | ⟨q1, -⟩
  · rw [t1] at w1
    refine ai_callW (va_runV (C := rr.1) (As := As) (rest := rest) (Ts := ai_GT) (own := M.1.cls) ⟨C.1, C.2.1, C.2.2.1, C.2.2.2.1, C.2.2.2.2.1⟩ met (cwV q.2.2.2.1 C.2.2.2.2.1 m3 rfl rfl rfl m4 (ai_roomOK C hd1 hml)) ⟨ai_PcB, va_recv C.2.2.2.2.2.2.1 hP m2 w1, ai_PcW C hS⟩ rfl hq1.symm hl.1 rfl (lv_room hrest) hdec ⟨C.2.2.2.2.2.2.2.2.1.2.2.1, C.2.2.2.2.2.2.2.2.1.2.2.2⟩) (fun v0 st₀ t LL h0 hL hQ => ?_)
    obtain ⟨⟨ws', p1, p2, p3, p4⟩, hF⟩ := hQ
    injection p4 with p4
    subst p4
    exact k ws' p1 t.heap (locs ++ LL) ls p2 p3 (ai_SF hS h0 hF hL) hl
  · omega
  · omega
  · omega
end HCV
def cs_en : List ai_e := [(0, 0, false, 0, 0), (0, 2555, false, 1, 0), (-2147483648, 2147483647, false, 2, 0), (-2147483648, 2147483647, false, 3, 0), (-2147483648, 2147483647, false, 4, 0), (-2147483648, 2147483647, false, 5, 0), (-2147483648, 2147483647, false, 6, 0), (-2147483648, 2147483647, false, 7, 0), (-2147483648, 2147483647, false, 8, 0), (-2147483648, 2147483647, false, 9, 0), (-2147483648, 2147483647, false, 10, 0), (-2147483648, 2147483647, false, 11, 0), (-2147483648, 2147483647, false, 12, 0), (-2147483648, 2147483647, false, 13, 0), (-2147483648, 2147483647, false, 14, 0), (-2147483648, 2147483647, false, 15, 0), (-2147483648, 2147483647, false, 16, 0), (-2147483648, 2147483647, false, 17, 0), (-10, 10, false, 18, 0), (-2147483648, 2147483647, false, 19, 0), (0, 4, false, 20, 0), (0, 4, false, 21, 0), (0, 4, false, 22, 0), (0, 4, false, 23, 0), (0, 4, false, 24, 0), (0, 4, false, 25, 0), (0, 4, false, 26, 0), (0, 4, false, 27, 0), (0, 8, false, 28, 0)]
def cs_st (fr to : Nat) : ai_s := (0, [(0, (0, 49, 0, 0)), (1, (1, 0, 0, (fr : Int))), (2, (1, 0, 0, (to : Int)))], [], cs_en, [(50, fr + 0, (1, 2, 0, 0)), (50, fr + 1, (1, 3, 0, 0)), (50, fr + 2, (1, 4, 0, 0)), (50, fr + 3, (1, 5, 0, 0)), (50, fr + 4, (1, 6, 0, 0)), (50, fr + 5, (1, 7, 0, 0)), (50, fr + 6, (1, 8, 0, 0)), (50, fr + 7, (1, 9, 0, 0)), (50, fr + 8, (1, 10, 0, 0)), (50, fr + 9, (1, 11, 0, 0)), (50, fr + 10, (1, 12, 0, 0)), (50, fr + 11, (1, 13, 0, 0)), (50, fr + 12, (1, 14, 0, 0)), (50, fr + 13, (1, 15, 0, 0)), (50, fr + 14, (1, 16, 0, 0)), (50, fr + 15, (1, 17, 0, 0)), (50, fr + 16, (1, 18, 0, 0)), (50, fr + 17, (1, 19, 0, 0)), (50, fr + 18, (1, 20, 0, 0)), (50, fr + 19, (1, 21, 0, 0)), (50, fr + 20, (1, 22, 0, 0)), (50, fr + 21, (1, 23, 0, 0)), (50, fr + 22, (1, 24, 0, 0)), (50, fr + 23, (1, 25, 0, 0)), (50, fr + 24, (1, 26, 0, 0)), (50, fr + 25, (1, 27, 0, 0)), (50, fr + 26, (1, 28, 0, 0))], [])
noncomputable def cs_r (fr to : Nat) : Bool := (ai_ex (hk [(50, to, to + 27)]) 600 134 tb_m134 6 [] (cs_st fr to)).any fun xs => xs.all fun x => Nat.beq x.1 30 && (x.2.2.1.isEmpty && (List.range 27).all fun j => lkq x 50 (to + j) (1, 2 + j, 0, 0))
theorem cs_r1 : cs_r 0 81 = true := by decide +kernel
theorem cs_r2 : cs_r 81 0 = true := by decide +kernel
theorem cs_r3 : cs_r 0 27 = true := by decide +kernel
theorem cs_r4 : cs_r 27 0 = true := by decide +kernel
theorem cs_r5 : cs_r 0 54 = true := by decide +kernel
theorem cs_r6 : cs_r 54 0 = true := by decide +kernel
theorem cs_r7 : cs_r 0 108 = true := by decide +kernel
theorem cs_r8 : cs_r 0 135 = true := by decide +kernel
def cs_P (ad : List Nat) (tys : ai_ty) (fr to : Nat) (ws ws' : va_W) : Prop := ai_wd tb_TY ad tys ws' ∧ ai_fr [(50, to, to + 27)] ws ws' ∧ ∀ (j : Nat) (z : Int), j < 27 → vi ws 50 (fr + j) z → vi ws' 50 (to + j) z
def cs_pt (fr : Nat) : Bool := (List.range 27).all fun j => decide (ai_pt [(1, 0, -2147483648, 2147483647), (1, 0, -2147483648, 2147483647), (1, 0, -2147483648, 2147483647), (1, 0, -2147483648, 2147483647), (1, 0, -2147483648, 2147483647), (1, 0, -2147483648, 2147483647), (1, 0, -2147483648, 2147483647), (1, 0, -2147483648, 2147483647), (1, 0, -2147483648, 2147483647), (1, 0, -2147483648, 2147483647), (1, 0, -2147483648, 2147483647), (1, 0, -2147483648, 2147483647), (1, 0, -2147483648, 2147483647), (1, 0, -2147483648, 2147483647), (1, 0, -2147483648, 2147483647), (1, 0, -2147483648, 2147483647), (1, 0, -10, 10), (1, 0, -2147483648, 2147483647), (1, 0, 0, 4), (1, 0, 0, 4), (1, 0, 0, 4), (1, 0, 0, 4), (1, 0, 0, 4), (1, 0, 0, 4), (1, 0, 0, 4), (1, 0, 0, 4), (1, 0, 0, 8)] (fr + j) = some (1, 0, ((cs_en.getD (2 + j) (0, 0, false, 0, 0)).1), ((cs_en.getD (2 + j) (0, 0, false, 0, 0)).2.1)))
section CPS
variable {ad : List Nat} {p : Program} {l : Launch} {e : Env} {R : Room} {s : State} {m : MethodId} {args : Array Value} {below : List Frame} {meth : Method} {c : Code} {D : va_G} {tys : ai_ty} {A : Nat → Prop} {b L : Nat} {sx : Nat → Int32} {cells slots : Nat} {Q : State → Prop}
theorem cs_all {a fr to : Nat} {zf zt : Int32} {ws : va_W} (hrun : cs_r fr to = true) (hpt : cs_pt fr = true) (hfr : fr + 27 ≤ 162) (C : ai_cx tb_m134 6 p R s m args c D tys A b L sx cells slots) (hw : ai_wd tb_TY ad tys ws) (ha : ad[49]? = some a) (ef : zf.toInt = fr) (et : zt.toInt = to)
    (k : ∀ (pcr : Nat) (ws' : va_W) (lv' : List (Nat × Value)), pcr ∈ [30] → cs_P ad tys fr to ws ws' → hG tb_m134 p l e R s m args below meth c D A cells slots Q pcr lv' [] ws') : hG tb_m134 p l e R s m args below meth c D A cells slots Q 0 [(0, .ref a), (1, .int zf), (2, .int zt)] [] ws := by
  obtain ⟨K, hK⟩ := vi_rowsP (k := 50) hw rfl
  have hb : ∀ j, j < 27 → (cs_en.getD (2 + j) (0, 0, false, 0, 0)).1 ≤ K (fr + j) ∧ K (fr + j) ≤ (cs_en.getD (2 + j) (0, 0, false, 0, 0)).2.1 := fun j hj => (hK (fr + j) (by omega)).2 _ (decide_eq_true_eq.mp (List.all_eq_true.mp hpt j (List.mem_range.mpr hj)))
  have b0 : -2147483648 ≤ K (fr + 0) ∧ K (fr + 0) ≤ 2147483647 := hb 0 (by decide)
  have b1 : -2147483648 ≤ K (fr + 1) ∧ K (fr + 1) ≤ 2147483647 := hb 1 (by decide)
  have b2 : -2147483648 ≤ K (fr + 2) ∧ K (fr + 2) ≤ 2147483647 := hb 2 (by decide)
  have b3 : -2147483648 ≤ K (fr + 3) ∧ K (fr + 3) ≤ 2147483647 := hb 3 (by decide)
  have b4 : -2147483648 ≤ K (fr + 4) ∧ K (fr + 4) ≤ 2147483647 := hb 4 (by decide)
  have b5 : -2147483648 ≤ K (fr + 5) ∧ K (fr + 5) ≤ 2147483647 := hb 5 (by decide)
  have b6 : -2147483648 ≤ K (fr + 6) ∧ K (fr + 6) ≤ 2147483647 := hb 6 (by decide)
  have b7 : -2147483648 ≤ K (fr + 7) ∧ K (fr + 7) ≤ 2147483647 := hb 7 (by decide)
  have b8 : -2147483648 ≤ K (fr + 8) ∧ K (fr + 8) ≤ 2147483647 := hb 8 (by decide)
  have b9 : -2147483648 ≤ K (fr + 9) ∧ K (fr + 9) ≤ 2147483647 := hb 9 (by decide)
  have b10 : -2147483648 ≤ K (fr + 10) ∧ K (fr + 10) ≤ 2147483647 := hb 10 (by decide)
  have b11 : -2147483648 ≤ K (fr + 11) ∧ K (fr + 11) ≤ 2147483647 := hb 11 (by decide)
  have b12 : -2147483648 ≤ K (fr + 12) ∧ K (fr + 12) ≤ 2147483647 := hb 12 (by decide)
  have b13 : -2147483648 ≤ K (fr + 13) ∧ K (fr + 13) ≤ 2147483647 := hb 13 (by decide)
  have b14 : -2147483648 ≤ K (fr + 14) ∧ K (fr + 14) ≤ 2147483647 := hb 14 (by decide)
  have b15 : -2147483648 ≤ K (fr + 15) ∧ K (fr + 15) ≤ 2147483647 := hb 15 (by decide)
  have b16 : -10 ≤ K (fr + 16) ∧ K (fr + 16) ≤ 10 := hb 16 (by decide)
  have b17 : -2147483648 ≤ K (fr + 17) ∧ K (fr + 17) ≤ 2147483647 := hb 17 (by decide)
  have b18 : 0 ≤ K (fr + 18) ∧ K (fr + 18) ≤ 4 := hb 18 (by decide)
  have b19 : 0 ≤ K (fr + 19) ∧ K (fr + 19) ≤ 4 := hb 19 (by decide)
  have b20 : 0 ≤ K (fr + 20) ∧ K (fr + 20) ≤ 4 := hb 20 (by decide)
  have b21 : 0 ≤ K (fr + 21) ∧ K (fr + 21) ≤ 4 := hb 21 (by decide)
  have b22 : 0 ≤ K (fr + 22) ∧ K (fr + 22) ≤ 4 := hb 22 (by decide)
  have b23 : 0 ≤ K (fr + 23) ∧ K (fr + 23) ≤ 4 := hb 23 (by decide)
  have b24 : 0 ≤ K (fr + 24) ∧ K (fr + 24) ≤ 4 := hb 24 (by decide)
  have b25 : 0 ≤ K (fr + 25) ∧ K (fr + 25) ≤ 4 := hb 25 (by decide)
  have b26 : 0 ≤ K (fr + 26) ∧ K (fr + 26) ≤ 8 := hb 26 (by decide)
  obtain ⟨xs, y1, y2⟩ := ai_anyE hrun
  refine hseg (st := cs_st fr to) (r := [0, 0, K (fr + 0), K (fr + 1), K (fr + 2), K (fr + 3), K (fr + 4), K (fr + 5), K (fr + 6), K (fr + 7), K (fr + 8), K (fr + 9), K (fr + 10), K (fr + 11), K (fr + 12), K (fr + 13), K (fr + 14), K (fr + 15), K (fr + 16), K (fr + 17), K (fr + 18), K (fr + 19), K (fr + 20), K (fr + 21), K (fr + 22), K (fr + 23), K (fr + 24), K (fr + 25), K (fr + 26)]) y1 rfl C ⟨en_mk (by simp only [cs_st, cs_en, en_b, and_true]; omega) rfl, sb0, ⟨rfl, Or.inl ⟨rfl, a, ha, rfl⟩, rfl, int_dv (z := 0) rfl (by omega), rfl, int_dv (z := 0) rfl (by omega), trivial⟩, trivial, hw, kc ((hK (fr + 0) (by omega)).1.kn (n := 2) (t := K (fr + 0)) rfl (by omega)) (kc ((hK (fr + 1) (by omega)).1.kn (n := 3) (t := K (fr + 1)) rfl (by omega)) (kc ((hK (fr + 2) (by omega)).1.kn (n := 4) (t := K (fr + 2)) rfl (by omega)) (kc ((hK (fr + 3) (by omega)).1.kn (n := 5) (t := K (fr + 3)) rfl (by omega)) (kc ((hK (fr + 4) (by omega)).1.kn (n := 6) (t := K (fr + 4)) rfl (by omega)) (kc ((hK (fr + 5) (by omega)).1.kn (n := 7) (t := K (fr + 5)) rfl (by omega)) (kc ((hK (fr + 6) (by omega)).1.kn (n := 8) (t := K (fr + 6)) rfl (by omega)) (kc ((hK (fr + 7) (by omega)).1.kn (n := 9) (t := K (fr + 7)) rfl (by omega)) (kc ((hK (fr + 8) (by omega)).1.kn (n := 10) (t := K (fr + 8)) rfl (by omega)) (kc ((hK (fr + 9) (by omega)).1.kn (n := 11) (t := K (fr + 9)) rfl (by omega)) (kc ((hK (fr + 10) (by omega)).1.kn (n := 12) (t := K (fr + 10)) rfl (by omega)) (kc ((hK (fr + 11) (by omega)).1.kn (n := 13) (t := K (fr + 11)) rfl (by omega)) (kc ((hK (fr + 12) (by omega)).1.kn (n := 14) (t := K (fr + 12)) rfl (by omega)) (kc ((hK (fr + 13) (by omega)).1.kn (n := 15) (t := K (fr + 13)) rfl (by omega)) (kc ((hK (fr + 14) (by omega)).1.kn (n := 16) (t := K (fr + 14)) rfl (by omega)) (kc ((hK (fr + 15) (by omega)).1.kn (n := 17) (t := K (fr + 15)) rfl (by omega)) (kc ((hK (fr + 16) (by omega)).1.kn (n := 18) (t := K (fr + 16)) rfl (by omega)) (kc ((hK (fr + 17) (by omega)).1.kn (n := 19) (t := K (fr + 17)) rfl (by omega)) (kc ((hK (fr + 18) (by omega)).1.kn (n := 20) (t := K (fr + 18)) rfl (by omega)) (kc ((hK (fr + 19) (by omega)).1.kn (n := 21) (t := K (fr + 19)) rfl (by omega)) (kc ((hK (fr + 20) (by omega)).1.kn (n := 22) (t := K (fr + 20)) rfl (by omega)) (kc ((hK (fr + 21) (by omega)).1.kn (n := 23) (t := K (fr + 21)) rfl (by omega)) (kc ((hK (fr + 22) (by omega)).1.kn (n := 24) (t := K (fr + 22)) rfl (by omega)) (kc ((hK (fr + 23) (by omega)).1.kn (n := 25) (t := K (fr + 23)) rfl (by omega)) (kc ((hK (fr + 24) (by omega)).1.kn (n := 26) (t := K (fr + 24)) rfl (by omega)) (kc ((hK (fr + 25) (by omega)).1.kn (n := 27) (t := K (fr + 25)) rfl (by omega)) (kc ((hK (fr + 26) (by omega)).1.kn (n := 28) (t := K (fr + 26)) rfl (by omega)) (k0))))))))))))))))))))))))))), fun _ _ _ _ h => h, fun h => by cases h⟩ (fun x hx r' lv' sk' ws' hx' g' => ?_)
  obtain ⟨g1, g2, g3, g4, g5, g6, g7, g8⟩ := g'
  have hc := List.all_eq_true.mp y2 x hx
  rw [Bool.and_eq_true, Bool.and_eq_true, ai_beq] at hc
  rw [List.isEmpty_iff.mp hc.2.1] at g4
  cases g4.nil
  rw [hc.1]
  refine k 30 ws' lv' (by decide) ⟨g5, g7, fun j z hj hz => ?_⟩
  have hlk := decide_eq_true_eq.mp (List.all_eq_true.mp hc.2.2 j (List.mem_range.mpr hj))
  have hr : r'[2 + j]? = some (K (fr + j)) := by
    match j, hj with
    | 0, _ => exact hx'.at rfl
    | 1, _ => exact hx'.at rfl
    | 2, _ => exact hx'.at rfl
    | 3, _ => exact hx'.at rfl
    | 4, _ => exact hx'.at rfl
    | 5, _ => exact hx'.at rfl
    | 6, _ => exact hx'.at rfl
    | 7, _ => exact hx'.at rfl
    | 8, _ => exact hx'.at rfl
    | 9, _ => exact hx'.at rfl
    | 10, _ => exact hx'.at rfl
    | 11, _ => exact hx'.at rfl
    | 12, _ => exact hx'.at rfl
    | 13, _ => exact hx'.at rfl
    | 14, _ => exact hx'.at rfl
    | 15, _ => exact hx'.at rfl
    | 16, _ => exact hx'.at rfl
    | 17, _ => exact hx'.at rfl
    | 18, _ => exact hx'.at rfl
    | 19, _ => exact hx'.at rfl
    | 20, _ => exact hx'.at rfl
    | 21, _ => exact hx'.at rfl
    | 22, _ => exact hx'.at rfl
    | 23, _ => exact hx'.at rfl
    | 24, _ => exact hx'.at rfl
    | 25, _ => exact hx'.at rfl
    | 26, _ => exact hx'.at rfl
    | j + 27, hj => exact absurd hj (by omega)
  rw [hz.fun (hK (fr + j) (by omega)).1]
  exact vi.lk g6 hlk hr (by omega)
end CPS
def bc_en : List ai_e := [(0, 0, false, 0, 0), (0, 2555, false, 1, 0), (0, 4, false, 2, 0), (0, 20, false, 3, 0), (-2147483648, 2147483647, false, 4, 0), (0, 8, false, 5, 0), (-2147483648, 2147483647, false, 6, 0), (-2147483648, 2147483647, false, 7, 0), (-2147483648, 2147483647, false, 8, 0), (-2147483648, 2147483647, false, 9, 0), (0, 99, false, 10, 0), (0, 99, false, 11, 0), (0, 99, false, 12, 0), (0, 99, false, 13, 0), (0, 99, false, 14, 0), (0, 99, false, 15, 0), (0, 99, false, 16, 0), (0, 99, false, 17, 0), (0, 99, false, 18, 0), (0, 99, false, 19, 0), (0, 99, false, 20, 0), (0, 99, false, 21, 0), (-2147483648, 2147483647, false, 22, 0), (-2147483648, 2147483647, false, 23, 0), (-2147483648, 2147483647, false, 24, 0), (-2147483648, 2147483647, false, 25, 0), (-2147483648, 2147483647, false, 26, 0), (-2147483648, 2147483647, false, 27, 0), (-2147483648, 2147483647, false, 28, 0), (-2147483648, 2147483647, false, 29, 0)]
def bc_st (src dst : Nat) : ai_s := (0, [(0, (0, dst, 0, 0)), (1, (0, src, 0, 0))], [], bc_en, [(src, 0, (1, 2, 0, 0)), (src, 1, (1, 3, 0, 0)), (src, 2, (1, 4, 0, 0)), (src, 3, (1, 5, 0, 0)), (src + 1, 0, (1, 6, 0, 0)), (src + 1, 1, (1, 7, 0, 0)), (src + 1, 2, (1, 8, 0, 0)), (src + 1, 3, (1, 9, 0, 0)), (src + 2, 0, (1, 10, 0, 0)), (src + 2, 1, (1, 11, 0, 0)), (src + 2, 2, (1, 12, 0, 0)), (src + 2, 3, (1, 13, 0, 0)), (src + 3, 0, (1, 14, 0, 0)), (src + 3, 1, (1, 15, 0, 0)), (src + 3, 2, (1, 16, 0, 0)), (src + 3, 3, (1, 17, 0, 0)), (src + 4, 0, (1, 18, 0, 0)), (src + 4, 1, (1, 19, 0, 0)), (src + 4, 2, (1, 20, 0, 0)), (src + 4, 3, (1, 21, 0, 0)), (src + 5, 0, (1, 22, 0, 0)), (src + 5, 1, (1, 23, 0, 0)), (src + 5, 2, (1, 24, 0, 0)), (src + 5, 3, (1, 25, 0, 0)), (src + 5, 4, (1, 26, 0, 0)), (src + 5, 5, (1, 27, 0, 0)), (src + 5, 6, (1, 28, 0, 0)), (src + 5, 7, (1, 29, 0, 0))], [])
def bc_W (dst : Nat) : List (Nat × Nat × Nat) := [(dst, 0, 4), (dst + 1, 0, 4), (dst + 2, 0, 4), (dst + 3, 0, 4), (dst + 4, 0, 4), (dst + 5, 0, 8)]
noncomputable def bc_r (src dst : Nat) : Bool := (ai_ex (hk (bc_W dst)) 100 1 tb_m1 6 [] (bc_st src dst)).any fun xs => xs.all fun x => Nat.beq x.1 103 && (x.2.2.1.isEmpty && (((List.range 4).all fun j => lkq x dst j (1, 2 + j, 0, 0)) && (((List.range 4).all fun q => (List.range 4).all fun j => lkq x (dst + (1 + q)) j (1, 6 + 4 * q + j, 0, 0)) && (List.range 8).all fun j => lkq x (dst + 5) j (1, 22 + j, 0, 0))))
theorem bc_r1 : bc_r 1 7 = true := by decide +kernel
theorem bc_r2 : bc_r 7 1 = true := by decide +kernel
theorem bc_r3 : bc_r 1 13 = true := by decide +kernel
theorem bc_r4 : bc_r 1 19 = true := by decide +kernel
theorem bc_r5 : bc_r 13 1 = true := by decide +kernel
theorem bc_r6 : bc_r 19 1 = true := by decide +kernel
/-- all places of one evening are those of another -/
def bc_P (ad : List Nat) (tys : ai_ty) (src dst : Nat) (ws ws' : va_W) : Prop := ai_wd tb_TY ad tys ws' ∧ ai_fr (bc_W dst) ws ws' ∧ (∀ (j : Nat) (z : Int), j < 4 → vi ws src j z → vi ws' dst j z) ∧ (∀ (q j : Nat) (z : Int), q < 4 → j < 4 → vi ws (src + (1 + q)) j z → vi ws' (dst + (1 + q)) j z) ∧ ∀ (j : Nat) (z : Int), j < 8 → vi ws (src + 5) j z → vi ws' (dst + 5) j z
section BCM
variable {ad : List Nat} {p : Program} {l : Launch} {e : Env} {R : Room} {s : State} {m : MethodId} {args : Array Value} {below : List Frame} {meth : Method} {c : Code} {D : va_G} {tys : ai_ty} {A : Nat → Prop} {b L : Nat} {sx : Nat → Int32} {cells slots : Nat} {Q : State → Prop}
def bc_T (src : Nat) : Prop := (∃ F : List ai_f, tb_TY[src]? = some (0, 0, F) ∧ F[0]? = some (1, 0, 0, 4) ∧ F[1]? = some (1, 0, 0, 20) ∧ F[2]? = some (1, 0, -2147483648, 2147483647) ∧ F[3]? = some (1, 0, 0, 8)) ∧ tb_TY[src + (1 + 0)]? = some (1, 4, [(1, 0, -2147483648, 2147483647)]) ∧ tb_TY[src + (1 + 1)]? = some (1, 4, [(1, 0, 0, 99)]) ∧ tb_TY[src + (1 + 2)]? = some (1, 4, [(1, 0, 0, 99)]) ∧ tb_TY[src + (1 + 3)]? = some (1, 4, [(1, 0, 0, 99)]) ∧ tb_TY[src + 5]? = some (1, 8, [(1, 0, -2147483648, 2147483647)])
theorem bc_T1 : bc_T 1 := ⟨⟨_, rfl, rfl, rfl, rfl, rfl⟩, rfl, rfl, rfl, rfl, rfl⟩
theorem bc_T7 : bc_T 7 := ⟨⟨_, rfl, rfl, rfl, rfl, rfl⟩, rfl, rfl, rfl, rfl, rfl⟩
theorem bc_T13 : bc_T 13 := ⟨⟨_, rfl, rfl, rfl, rfl, rfl⟩, rfl, rfl, rfl, rfl, rfl⟩
theorem bc_T19 : bc_T 19 := ⟨⟨_, rfl, rfl, rfl, rfl, rfl⟩, rfl, rfl, rfl, rfl, rfl⟩
theorem vi_ex {ws : va_W} {k ci i : Nat} {F : List ai_f} {lo hi : Int} (hw : ai_wd tb_TY ad tys ws) (hT : tb_TY[k]? = some (0, ci, F)) (hF : F[i]? = some (1, 0, lo, hi)) : ∃ z : Int, vi ws k i z ∧ lo ≤ z ∧ z ≤ hi := by
  obtain ⟨y, h1, h2, h3⟩ := pl_f hw hT hF
  exact ⟨y.toInt, ⟨y, h1, rfl⟩, h2, h3⟩
theorem bc_all {a2 a src dst : Nat} {ws : va_W} (hrun : bc_r src dst = true) (hT : bc_T src) (C : ai_cx tb_m1 6 p R s m args c D tys A b L sx cells slots) (hw : ai_wd tb_TY ad tys ws) (ha : ad[dst]? = some a) (ha2 : ad[src]? = some a2)
    (k : ∀ (pcr : Nat) (ws' : va_W) (lv' : List (Nat × Value)), pcr ∈ [103] → bc_P ad tys src dst ws ws' → hG tb_m1 p l e R s m args below meth c D A cells slots Q pcr lv' [] ws') : hG tb_m1 p l e R s m args below meth c D A cells slots Q 0 [(0, .ref a), (1, .ref a2)] [] ws := by
  obtain ⟨⟨FF, t0, t1, t2, t3, t4⟩, t5, t6, t7, t8, t9⟩ := hT
  obtain ⟨F0, hF0⟩ := vi_ex hw t0 t1
  obtain ⟨F1, hF1⟩ := vi_ex hw t0 t2
  obtain ⟨F2, hF2⟩ := vi_ex hw t0 t3
  obtain ⟨F3, hF3⟩ := vi_ex hw t0 t4
  obtain ⟨G0, hG0⟩ := vi_rows hw t5
  obtain ⟨G1, hG1⟩ := vi_rows hw t6
  obtain ⟨G2, hG2⟩ := vi_rows hw t7
  obtain ⟨G3, hG3⟩ := vi_rows hw t8
  obtain ⟨B, hB⟩ := vi_rows hw t9
  have b4 := (hG0 0 (by decide)).2
  have b5 := (hG0 1 (by decide)).2
  have b6 := (hG0 2 (by decide)).2
  have b7 := (hG0 3 (by decide)).2
  have b8 := (hG1 0 (by decide)).2
  have b9 := (hG1 1 (by decide)).2
  have b10 := (hG1 2 (by decide)).2
  have b11 := (hG1 3 (by decide)).2
  have b12 := (hG2 0 (by decide)).2
  have b13 := (hG2 1 (by decide)).2
  have b14 := (hG2 2 (by decide)).2
  have b15 := (hG2 3 (by decide)).2
  have b16 := (hG3 0 (by decide)).2
  have b17 := (hG3 1 (by decide)).2
  have b18 := (hG3 2 (by decide)).2
  have b19 := (hG3 3 (by decide)).2
  have b20 := (hB 0 (by decide)).2
  have b21 := (hB 1 (by decide)).2
  have b22 := (hB 2 (by decide)).2
  have b23 := (hB 3 (by decide)).2
  have b24 := (hB 4 (by decide)).2
  have b25 := (hB 5 (by decide)).2
  have b26 := (hB 6 (by decide)).2
  have b27 := (hB 7 (by decide)).2
  have b0 := hF0.2
  have b1 := hF1.2
  have b2 := hF2.2
  have b3 := hF3.2
  obtain ⟨xs, y1, y2⟩ := ai_anyE hrun
  refine hseg (st := bc_st src dst) (r := [0, 0, F0, F1, F2, F3, G0 0, G0 1, G0 2, G0 3, G1 0, G1 1, G1 2, G1 3, G2 0, G2 1, G2 2, G2 3, G3 0, G3 1, G3 2, G3 3, B 0, B 1, B 2, B 3, B 4, B 5, B 6, B 7]) y1 rfl C ⟨en_mk (by simp only [bc_st, bc_en, en_b, and_true]; omega) rfl, sb0, ⟨rfl, Or.inl ⟨rfl, a, ha, rfl⟩, rfl, Or.inl ⟨rfl, a2, ha2, rfl⟩, trivial⟩, trivial, hw, kc ((hF0).1.kn (n := 2) (t := F0) rfl (by omega)) (kc ((hF1).1.kn (n := 3) (t := F1) rfl (by omega)) (kc ((hF2).1.kn (n := 4) (t := F2) rfl (by omega)) (kc ((hF3).1.kn (n := 5) (t := F3) rfl (by omega)) (kc ((hG0 0 (by decide)).1.kn (n := 6) (t := G0 0) rfl (by omega)) (kc ((hG0 1 (by decide)).1.kn (n := 7) (t := G0 1) rfl (by omega)) (kc ((hG0 2 (by decide)).1.kn (n := 8) (t := G0 2) rfl (by omega)) (kc ((hG0 3 (by decide)).1.kn (n := 9) (t := G0 3) rfl (by omega)) (kc ((hG1 0 (by decide)).1.kn (n := 10) (t := G1 0) rfl (by omega)) (kc ((hG1 1 (by decide)).1.kn (n := 11) (t := G1 1) rfl (by omega)) (kc ((hG1 2 (by decide)).1.kn (n := 12) (t := G1 2) rfl (by omega)) (kc ((hG1 3 (by decide)).1.kn (n := 13) (t := G1 3) rfl (by omega)) (kc ((hG2 0 (by decide)).1.kn (n := 14) (t := G2 0) rfl (by omega)) (kc ((hG2 1 (by decide)).1.kn (n := 15) (t := G2 1) rfl (by omega)) (kc ((hG2 2 (by decide)).1.kn (n := 16) (t := G2 2) rfl (by omega)) (kc ((hG2 3 (by decide)).1.kn (n := 17) (t := G2 3) rfl (by omega)) (kc ((hG3 0 (by decide)).1.kn (n := 18) (t := G3 0) rfl (by omega)) (kc ((hG3 1 (by decide)).1.kn (n := 19) (t := G3 1) rfl (by omega)) (kc ((hG3 2 (by decide)).1.kn (n := 20) (t := G3 2) rfl (by omega)) (kc ((hG3 3 (by decide)).1.kn (n := 21) (t := G3 3) rfl (by omega)) (kc ((hB 0 (by decide)).1.kn (n := 22) (t := B 0) rfl (by omega)) (kc ((hB 1 (by decide)).1.kn (n := 23) (t := B 1) rfl (by omega)) (kc ((hB 2 (by decide)).1.kn (n := 24) (t := B 2) rfl (by omega)) (kc ((hB 3 (by decide)).1.kn (n := 25) (t := B 3) rfl (by omega)) (kc ((hB 4 (by decide)).1.kn (n := 26) (t := B 4) rfl (by omega)) (kc ((hB 5 (by decide)).1.kn (n := 27) (t := B 5) rfl (by omega)) (kc ((hB 6 (by decide)).1.kn (n := 28) (t := B 6) rfl (by omega)) (kc ((hB 7 (by decide)).1.kn (n := 29) (t := B 7) rfl (by omega)) (k0)))))))))))))))))))))))))))), fun _ _ _ _ h => h, fun h => by cases h⟩ (fun x hx r' lv' sk' ws' hx' g' => ?_)
  obtain ⟨g1, g2, g3, g4, g5, g6, g7, g8⟩ := g'
  have hc := List.all_eq_true.mp y2 x hx
  rw [Bool.and_eq_true, Bool.and_eq_true, Bool.and_eq_true, Bool.and_eq_true, ai_beq] at hc
  obtain ⟨c1, c2, c3, c4, c5⟩ := hc
  rw [List.isEmpty_iff.mp c2] at g4
  cases g4.nil
  rw [c1]
  refine k 103 ws' lv' (by decide) ⟨g5, g7, fun j z hj hz => ?_, fun q j z hq hj hz => ?_, fun j z hj hz => ?_⟩
  · have hlk := decide_eq_true_eq.mp (List.all_eq_true.mp c3 j (List.mem_range.mpr hj))
    match j, hj with
    | 0, _ => rw [hz.fun hF0.1]; exact vi.lk g6 hlk (hx'.at rfl) (by omega)
    | 1, _ => rw [hz.fun hF1.1]; exact vi.lk g6 hlk (hx'.at rfl) (by omega)
    | 2, _ => rw [hz.fun hF2.1]; exact vi.lk g6 hlk (hx'.at rfl) (by omega)
    | 3, _ => rw [hz.fun hF3.1]; exact vi.lk g6 hlk (hx'.at rfl) (by omega)
    | j + 4, hj => exact absurd hj (by omega)
  · have hlk := decide_eq_true_eq.mp (List.all_eq_true.mp (List.all_eq_true.mp c4 q (List.mem_range.mpr hq)) j (List.mem_range.mpr hj))
    match q, hq, j, hj with
    | 0, _, 0, _ => rw [hz.fun (hG0 0 (by decide)).1]; exact vi.lk g6 hlk (hx'.at rfl) (by omega)
    | 0, _, 1, _ => rw [hz.fun (hG0 1 (by decide)).1]; exact vi.lk g6 hlk (hx'.at rfl) (by omega)
    | 0, _, 2, _ => rw [hz.fun (hG0 2 (by decide)).1]; exact vi.lk g6 hlk (hx'.at rfl) (by omega)
    | 0, _, 3, _ => rw [hz.fun (hG0 3 (by decide)).1]; exact vi.lk g6 hlk (hx'.at rfl) (by omega)
    | 1, _, 0, _ => rw [hz.fun (hG1 0 (by decide)).1]; exact vi.lk g6 hlk (hx'.at rfl) (by omega)
    | 1, _, 1, _ => rw [hz.fun (hG1 1 (by decide)).1]; exact vi.lk g6 hlk (hx'.at rfl) (by omega)
    | 1, _, 2, _ => rw [hz.fun (hG1 2 (by decide)).1]; exact vi.lk g6 hlk (hx'.at rfl) (by omega)
    | 1, _, 3, _ => rw [hz.fun (hG1 3 (by decide)).1]; exact vi.lk g6 hlk (hx'.at rfl) (by omega)
    | 2, _, 0, _ => rw [hz.fun (hG2 0 (by decide)).1]; exact vi.lk g6 hlk (hx'.at rfl) (by omega)
    | 2, _, 1, _ => rw [hz.fun (hG2 1 (by decide)).1]; exact vi.lk g6 hlk (hx'.at rfl) (by omega)
    | 2, _, 2, _ => rw [hz.fun (hG2 2 (by decide)).1]; exact vi.lk g6 hlk (hx'.at rfl) (by omega)
    | 2, _, 3, _ => rw [hz.fun (hG2 3 (by decide)).1]; exact vi.lk g6 hlk (hx'.at rfl) (by omega)
    | 3, _, 0, _ => rw [hz.fun (hG3 0 (by decide)).1]; exact vi.lk g6 hlk (hx'.at rfl) (by omega)
    | 3, _, 1, _ => rw [hz.fun (hG3 1 (by decide)).1]; exact vi.lk g6 hlk (hx'.at rfl) (by omega)
    | 3, _, 2, _ => rw [hz.fun (hG3 2 (by decide)).1]; exact vi.lk g6 hlk (hx'.at rfl) (by omega)
    | 3, _, 3, _ => rw [hz.fun (hG3 3 (by decide)).1]; exact vi.lk g6 hlk (hx'.at rfl) (by omega)
    | q + 4, hq, _, _ => exact absurd hq (by omega)
    | _, _, j + 4, hj => exact absurd hj (by omega)
  · have hlk := decide_eq_true_eq.mp (List.all_eq_true.mp c5 j (List.mem_range.mpr hj))
    match j, hj with
    | 0, _ => rw [hz.fun (hB 0 (by decide)).1]; exact vi.lk g6 hlk (hx'.at rfl) (by omega)
    | 1, _ => rw [hz.fun (hB 1 (by decide)).1]; exact vi.lk g6 hlk (hx'.at rfl) (by omega)
    | 2, _ => rw [hz.fun (hB 2 (by decide)).1]; exact vi.lk g6 hlk (hx'.at rfl) (by omega)
    | 3, _ => rw [hz.fun (hB 3 (by decide)).1]; exact vi.lk g6 hlk (hx'.at rfl) (by omega)
    | 4, _ => rw [hz.fun (hB 4 (by decide)).1]; exact vi.lk g6 hlk (hx'.at rfl) (by omega)
    | 5, _ => rw [hz.fun (hB 5 (by decide)).1]; exact vi.lk g6 hlk (hx'.at rfl) (by omega)
    | 6, _ => rw [hz.fun (hB 6 (by decide)).1]; exact vi.lk g6 hlk (hx'.at rfl) (by omega)
    | 7, _ => rw [hz.fun (hB 7 (by decide)).1]; exact vi.lk g6 hlk (hx'.at rfl) (by omega)
    | j + 8, hj => exact absurd hj (by omega)
end BCM
