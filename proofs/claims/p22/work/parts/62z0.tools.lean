/-! names' values, and what a walk's end tells of them, as plain arithmetic -/
def nm (r : List Int) (k : Nat) : Int := (r[k]?).getD 0
theorem nm_of {r : List Int} {k : Nat} {z : Int} (h : r[k]? = some z) : nm r k = z := by
  unfold nm
  rw [h]
  rfl
theorem nm_x {r r' : List Int} {k : Nat} {z : Int} (e : ai_x r r') (h : r[k]? = some z) : nm r' k = z := nm_of (e.at h)
def bnd_b (r : List Int) : Nat → List ai_e → Prop
  | _, [] => True
  | k, e :: en => (e.1 ≤ nm r k ∧ nm r k ≤ e.2.1) ∧ bnd_b r (k + 1) en
theorem bnd_go {r : List Int} : ∀ {en : List ai_e} {k : Nat}, (∀ (j : Nat) (e : ai_e), en[j]? = some e → e.1 ≤ nm r (k + j) ∧ nm r (k + j) ≤ e.2.1) → bnd_b r k en
  | [], _, _ => trivial
  | e :: en, k, h => by
    refine ⟨h 0 e rfl, bnd_go (en := en) (k := k + 1) fun j e' hj => ?_⟩
    have := h (j + 1) e' hj
    rw [show k + (j + 1) = k + 1 + j by omega] at this
    exact this
theorem bnd_ok {r : List Int} {en : List ai_e} (h : ai_ok r en) : bnd_b r 0 en := bnd_go fun j e hj => by
  obtain ⟨z, h1, h2⟩ := h.name hj
  rw [Nat.zero_add, nm_of h1]
  exact ⟨h2.1, h2.2.1⟩
def lin_q (r : List Int) (q : ai_b) : Prop :=
  if q.1 = 0 then nm r q.2.1 - nm r q.2.2.1 = nm r q.2.2.2.1 + q.2.2.2.2
  else if q.1 = 1 then (nm r q.2.1 + nm r q.2.2.1 + q.2.2.2.2 - nm r q.2.2.2.1) % 4294967296 = 0
  else if q.1 = 2 then nm r q.2.1 + nm r q.2.2.1 + q.2.2.2.2 = nm r q.2.2.2.1
  else if q.1 = 4 then nm r q.2.1 < nm r q.2.2.1 + q.2.2.2.2
  else if q.1 = 5 then nm r q.2.2.1 + q.2.2.2.2 ≤ nm r q.2.1
  else if q.1 = 140 then nm r q.2.1 ≠ nm r q.2.2.1 + q.2.2.2.2
  else if q.1 = 141 then nm r q.2.2.2.1 = min (nm r q.2.1) (nm r q.2.2.1 + q.2.2.2.2)
  else if q.1 = 142 then nm r q.2.2.2.1 = max (nm r q.2.1) (nm r q.2.2.1 + q.2.2.2.2)
  else if q.1 = 152 then nm r q.2.2.2.1 = (nm r q.2.1 + q.2.2.2.2) / 2
  else if q.1 = 154 then nm r q.2.2.2.1 = (nm r q.2.1 + q.2.2.2.2) / 4
  else if q.1 = 502 then nm r q.2.2.2.1 = 2 * (nm r q.2.1 + q.2.2.2.2)
  else if q.1 = 540 then nm r q.2.2.2.1 = 40 * (nm r q.2.1 + q.2.2.2.2)
  else True
def lin_b (r : List Int) : List ai_b → Prop
  | [] => True
  | q :: sb => lin_q r q ∧ lin_b r sb
theorem lin_qok {w0 : va_W} {r : List Int} {sb : List ai_b} (h : ai_sb w0 r sb) {q : ai_b} (hq : q ∈ sb) : lin_q r q := by
  obtain ⟨za, zb, zr, h1, h2, h3, e0, e1, e2, e4, e5, e9⟩ := h q hq
  unfold lin_q
  rw [nm_of h1, nm_of h2, nm_of h3]
  by_cases c0 : q.1 = 0
  · rw [if_pos c0]; exact e0 c0
  rw [if_neg c0]
  by_cases c1 : q.1 = 1
  · rw [if_pos c1]; exact e1 c1
  rw [if_neg c1]
  by_cases c2 : q.1 = 2
  · rw [if_pos c2]; exact e2 c2
  rw [if_neg c2]
  by_cases c4 : q.1 = 4
  · rw [if_pos c4]; exact e4 c4
  rw [if_neg c4]
  by_cases c5 : q.1 = 5
  · rw [if_pos c5]; exact e5 c5
  rw [if_neg c5]
  by_cases cb : q.1 = 140 ∨ q.1 = 141 ∨ q.1 = 142 ∨ q.1 = 152 ∨ q.1 = 154 ∨ q.1 = 502 ∨ q.1 = 540
  · obtain ⟨ya, yr, f1, f2, -, -, f5, f6, f7, f8, f9⟩ := (e9 (by omega)).2.1 (by omega)
    rw [h1] at f1
    rw [h3] at f2
    cases f1
    cases f2
    by_cases d0 : q.1 = 140
    · rw [if_pos d0]
      obtain ⟨yb, b1, b2⟩ := f6 d0
      rw [h2] at b1
      cases b1
      exact b2
    rw [if_neg d0]
    by_cases d1 : q.1 = 141
    · rw [if_pos d1]
      obtain ⟨yb, b1, b2⟩ := f7 d1
      rw [h2] at b1
      cases b1
      exact b2
    rw [if_neg d1]
    by_cases d2 : q.1 = 142
    · rw [if_pos d2]
      obtain ⟨yb, b1, b2⟩ := f8 d2
      rw [h2] at b1
      cases b1
      exact b2
    rw [if_neg d2]
    by_cases d3 : q.1 = 152
    · rw [if_pos d3]
      have := f9 (by omega) (by omega)
      rw [d3] at this
      exact this
    rw [if_neg d3]
    by_cases d4 : q.1 = 154
    · rw [if_pos d4]
      have := f9 (by omega) (by omega)
      rw [d4] at this
      exact this
    rw [if_neg d4]
    by_cases d5 : q.1 = 502
    · rw [if_pos d5]
      have := f5 (by omega)
      rw [d5] at this
      exact this
    rw [if_neg d5]
    by_cases d6 : q.1 = 540
    · rw [if_pos d6]
      have := f5 (by omega)
      rw [d6] at this
      exact this
    rw [if_neg d6]
    trivial
  · rw [if_neg (by omega), if_neg (by omega), if_neg (by omega), if_neg (by omega), if_neg (by omega), if_neg (by omega), if_neg (by omega)]
    trivial
theorem lin_go {r : List Int} : ∀ {sb : List ai_b}, (∀ q ∈ sb, lin_q r q) → lin_b r sb
  | [], _ => trivial
  | q :: sb, h => ⟨h q List.mem_cons_self, lin_go fun k hk => h k (List.mem_cons_of_mem _ hk)⟩
theorem lin_ok {w0 : va_W} {r : List Int} {sb : List ai_b} (h : ai_sb w0 r sb) : lin_b r sb := lin_go fun _ hq => lin_qok h hq
/-! a walk's end told by what is wanted of it: place, locals, stack, values at places, names, facts -/
abbrev sm_t : Type := Nat × List (Nat × ai_v) × List ai_v × List ai_v × List ai_e × List ai_b
def sm_vs (x : ai_s) (n : Nat) : List (Nat × Nat) → List ai_v → Bool
  | [], [] => true
  | p :: pl, v :: vs => decide (ai_lk x.2.2.2.2.1 p.1 p.2 = some v) && (decide (v = (1, v.2.1, 0, v.2.2.2)) && (Nat.blt v.2.1 n && sm_vs x n pl vs))
  | _, _ => false
def sm_is (pl : List (Nat × Nat)) (x : ai_s) (s : sm_t) : Bool :=
  Nat.beq x.1 s.1 && ((s.2.1.all fun q => decide (ai_get x.2.1 q.1 = some q.2)) && (mm_el mm_ev x.2.2.1 s.2.2.1 && (sm_vs x x.2.2.2.1.length pl s.2.2.2.1 && (mm_el mm_ee x.2.2.2.1 s.2.2.2.2.1 && mm_el mm_eb x.2.2.2.2.2 s.2.2.2.2.2))))
/-- the values at places -/
def sm_vi (ws : va_W) (r : List Int) : List (Nat × Nat) → List ai_v → Prop
  | p :: pl, v :: vs => vi ws p.1 p.2 (nm r v.2.1 + v.2.2.2) ∧ sm_vi ws r pl vs
  | _, _ => True
theorem sm_vi_ok {ad : List Nat} {b : Nat} {r : List Int} {ws : va_W} {x : ai_s} (g1 : ai_ok r x.2.2.2.1) (g6 : ai_kn ad b r ws x.2.2.2.2.1) : ∀ {pl : List (Nat × Nat)} {vs : List ai_v}, sm_vs x x.2.2.2.1.length pl vs = true → sm_vi ws r pl vs
  | [], [], _ => trivial
  | [], _ :: _, h => by cases h
  | _ :: _, [], h => by cases h
  | p :: pl, v :: vs, h => by
    have h : (decide (ai_lk x.2.2.2.2.1 p.1 p.2 = some v) && (decide (v = (1, v.2.1, 0, v.2.2.2)) && (Nat.blt v.2.1 x.2.2.2.1.length && sm_vs x x.2.2.2.1.length pl vs))) = true := h
    rw [Bool.and_eq_true, Bool.and_eq_true, Bool.and_eq_true, decide_eq_true_eq, decide_eq_true_eq] at h
    obtain ⟨h1, h2, h3, h4⟩ := h
    have hl : v.2.1 < r.length := by rw [g1.1]; exact Nat.le_of_ble_eq_true h3
    have hz : r[v.2.1]? = some r[v.2.1] := List.getElem?_eq_getElem hl
    rw [h2] at h1
    exact ⟨vi.lk g6 h1 hz (by rw [nm_of hz]), sm_vi_ok g1 g6 h4⟩
theorem lo_pick {ad : List Nat} {b : Nat} {r : List Int} {lo : List (Nat × ai_v)} {lv : List (Nat × Value)} (h : ai_lo ad b r lo lv) : ∀ (L : List (Nat × ai_v)), (L.all fun q => decide (ai_get lo q.1 = some q.2)) = true → ∃ lv2, ai_lo ad b r L lv2 ∧ ∀ q ∈ lv2, q ∈ lv
  | [], _ => ⟨[], trivial, fun q hq => by cases hq⟩
  | q :: L, hq => by
    rw [List.all_cons, Bool.and_eq_true, decide_eq_true_eq] at hq
    obtain ⟨k, x, a1, a2⟩ := ai_get_ok h hq.1
    obtain ⟨lv2, b1, b2⟩ := lo_pick h L hq.2
    refine ⟨(q.1, x) :: lv2, ⟨rfl, a2, b1⟩, fun y hy => ?_⟩
    rcases List.mem_cons.mp hy with rfl | hy
    · exact List.mem_of_getElem? a1
    · exact b2 y hy
section HSM
variable {ad : List Nat} {M : ai_m} {d : Nat} {p : Program} {l : Launch} {e : Env} {R : Room} {s : State} {m : MethodId} {args : Array Value} {below : List Frame} {meth : Method} {c : Code} {D : va_G} {tys : ai_ty} {A : Nat → Prop} {b L : Nat} {sx : Nat → Int32} {cells slots : Nat} {Q : State → Prop}
/-- a stretch by its summary -/
theorem hsum {WR : List (Nat × Nat × Nat)} {n mid : Nat} {cu : List Nat} {st : ai_s} {pl : List (Nat × Nat)} {S : List sm_t} (h : ((ai_ex (hk WR) n mid M d cu st).any fun xs => xs.all fun x => S.any fun t => sm_is pl x t) = true) (hM : tb_MT[mid]? = some M) (C : ai_cx M d p R s m args c D tys A b L sx cells slots) {r : List Int} {lv : List (Nat × Value)} {sk : List Value} {ws : va_W} (g : ai_gm tb_TY WR ws ad b L sx tys M.2.2.2.2.1 r st lv sk ws)
    (k : ∀ t ∈ S, ∀ (r' : List Int) (lv' : List (Nat × Value)) (sk' : List Value) (ws' : va_W), ai_x r r' → bnd_b r' 0 t.2.2.2.2.1 → lin_b r' t.2.2.2.2.2 → ai_sb ws r' t.2.2.2.2.2 → ai_lo ad b r' t.2.1 lv' → ai_sk ad b r' t.2.2.1 sk' → ai_wd tb_TY ad tys ws' → sm_vi ws' r' pl t.2.2.2.1 → ai_fr WR ws ws' → (M.2.2.2.2.1 = true → ai_sx L sx r') → hG M p l e R s m args below meth c D A cells slots Q t.1 lv' sk' ws') : hG M p l e R s m args below meth c D A cells slots Q st.1 lv sk ws := by
  obtain ⟨xs, h1, h2⟩ := ai_anyE h
  refine hseg h1 hM C g (fun x hx r' lv' sk' ws' hx' g' => ?_)
  obtain ⟨g1, g2, g3, g4, g5, g6, g7, g8⟩ := g'
  obtain ⟨t, ht, hs⟩ := List.any_eq_true.mp (List.all_eq_true.mp h2 x hx)
  unfold sm_is at hs
  rw [Bool.and_eq_true, Bool.and_eq_true, Bool.and_eq_true, Bool.and_eq_true, Bool.and_eq_true] at hs
  obtain ⟨s1, s2, s3, s4, s5, s6⟩ := hs
  have e1 := ai_beq.mp s1
  have e3 := mm_el_ok mm_ev_ok s3
  have e5 := mm_el_ok mm_ee_ok s5
  have e6 := mm_el_ok mm_eb_ok s6
  obtain ⟨lv2, l1, l2⟩ := lo_pick g3 t.2.1 s2
  rw [e1]
  intro H locs ls hP hD hS hl
  exact k t ht r' lv2 sk' ws' hx' (by rw [← e5]; exact bnd_ok g1) (by rw [← e6]; exact lin_ok g2) (by rw [← e6]; exact g2) l1 (by rw [← e3]; exact g4) g5 (sm_vi_ok g1 g6 s4) g7 g8 H locs ls hP hD hS ⟨hl.1, hl.2.1, fun q hq => hl.2.2 q (l2 q hq)⟩
end HSM
/-! a call by hand: a method of an object, with ints, that answers an int -/
section HCI
variable {ad : List Nat} {M : ai_m} {d : Nat} {p : Program} {l : Launch} {e : Env} {R : Room} {s : State} {m : MethodId} {args : Array Value} {below : List Frame} {meth : Method} {c : Code} {D : va_G} {tys : ai_ty} {A : Nat → Prop} {b L : Nat} {sx : Nat → Int32} {cells slots : Nat} {Q : State → Prop}
theorem hcallI {q : ai_l5} {M' : ai_m} {pc cl a : Nat} {t : ai_c} {rets : List Nat} {P : va_W → Int32 → Prop} {ws : va_W} {As rest : List Value} {lv : List (Nat × Value)}
    (C : ai_cx M d p R s m args c D tys A b L sx cells slots) (hd1 : 1 ≤ d) (hdec : decode M.2.1 pc = .ok (.invokevirtual q.1, 3)) (hlok : ai_lok tb_MT M.1.cls q) (hq0 : q.2.1 = 0) (hq1 : q.2.2.2.1 = As.length) (hM' : tb_MT[q.2.2.1]? = some M') (hsc : M'.2.2.2.2.1 = false) (hml : M'.2.2.1 ≤ 17) (hm1 : (lg_sl (.ref a :: As)).length ≤ M'.2.2.1) (hv : M'.2.2.2.1 = some .int)
    (ht : tb_TY[cl]? = some t) (t0 : t.1 = 0) (t1 : t.2.1 = q.2.2.2.2) (hw : ai_wd tb_TY ad tys ws) (ha : ad[cl]? = some a) (hrest : (rest.map fun v => v.category).sum ≤ 8)
    (hr : ∀ pcr ∈ rets, decode M'.2.1 pcr = .ok (.ireturn, 1))
    (callee : ∀ {p : Program} {e : Env} {R : Room} {s : State} {m : MethodId} {args : Array Value} {below : List Frame} {meth : Method} {c : Code} {Q : State → Prop}, ai_cx M' (d - 1) p R s m args c D tys A b L sx 0 0 → (∀ (pcr : Nat) (ws' : va_W) (z : Int32) (lv' : List (Nat × Value)), pcr ∈ rets → P ws' z → hG M' p l e R s m args below meth c D A 0 0 Q pcr lv' [.int z] ws') → hG M' p l e R s m args below meth c D A 0 0 Q 0 (lv_args 0 (.ref a :: As)) [] ws)
    (k : ∀ ws' z, P ws' z → hG M p l e R s m args below meth c D A cells slots Q (pc + 3) lv (.int z :: rest) ws') : hG M p l e R s m args below meth c D A cells slots Q pc lv (As.reverse ++ .ref a :: rest) ws := by
  intro H locs ls hP hD hS hl
  obtain ⟨a', e1, w1, w2, w3⟩ := hw.get ht
  cases Option.some.inj (ha.symm.trans w2)
  unfold ai_lok at hlok
  rw [hq0] at hlok
  obtain ⟨M2, rr, m1, m2, m3, m4⟩ := hlok
  rw [hM'] at m1
  cases m1
  obtain ⟨hok, hpl⟩ := (tv_MT M' (List.mem_of_getElem? hM')).1
  have hA : ∀ q, H.size ≤ q → A q := fun q hq => C.2.2.2.2.2.2.2.1 q (Nat.le_trans hS.1 hq)
  have met : Met l M'.1 (ai_ws M') (ai_rm (d - 1)) (va_Pc (.ref a :: As) (fun U => U.heap = H ∧ va_K D vwCl tys U ∧ ai_nj A U)) (hb_Q P D A) 0 0 A := by
    refine Met.ofW (cc := M'.2.1) (maxL := M'.2.2.1) (ret := M'.2.2.2.1) hpl rfl ?_
    intro p e s m args below meth c s₁ B hmL hv'
    obtain ⟨rfl, hH, hK, hN⟩ := hv'
    have hts := atoms_spec (ws := ai_ws M') B.pre
    have hown : s.vm.findClass M'.1.cls = some m.cls := findClass_of_methodNamed B.named
    have C' : ai_cx M' (d - 1) p (headSpec (ai_ws M') (ai_rm (d - 1))).room s m (Value.ref a :: As : List Value).toArray c D tys A b L sx 0 0 :=
      ⟨B.exec, B.bytes, hmL, hown, fun w h => hts w (List.mem_cons_of_mem _ h), hN, hK, fun q hq => hA q (by rw [← hH]; exact hq), ⟨Nat.le_refl _, Nat.le_refl _, Nat.zero_le _, Nat.zero_le _⟩, fun h => by rw [hsc] at h; cases h⟩
    have hl' := lv_entry (Value.ref a :: As) (n := M'.2.2.1) (by exact hm1)
    rw [lg_entry_eq]
    have hh : s.heap = H := hH
    refine callee C' (fun pcr ws' z lv' hpr hPw => ?_) s.heap [] _ (by rw [hh]; exact hP) hD va_S.rf hl'
    intro H2 locs2 ls2 hP2 hD2 hS2 hl2
    exact W.iret C'.1 C'.2.1 (B.returns.trans hv) (fun t ht hW => ⟨⟨ws', z, hPw, by rw [ht]; exact hP2, hD2, rfl⟩, hS2.F ht⟩) hS2.2.2 (hr pcr hpr) B.notSynchronized
  rcases w3 with ⟨-, fs, rfl, -⟩ | ⟨q1, -⟩ | ⟨q1, -⟩ | ⟨q1, -⟩
  · rw [t1] at w1
    refine ai_callW (va_runV (C := rr.1) (As := As) (rest := rest) (Ts := ai_GT) (own := M.1.cls) ⟨C.1, C.2.1, C.2.2.1, C.2.2.2.1, C.2.2.2.2.1⟩ met (cwV q.2.2.2.1 C.2.2.2.2.1 m3 rfl rfl rfl m4 (ai_roomOK C hd1 hml)) ⟨ai_PcB, va_recv C.2.2.2.2.2.2.1 hP m2 w1, ai_PcW C hS⟩ rfl hq1.symm hl.1 rfl (lv_room hrest) hdec ⟨C.2.2.2.2.2.2.2.2.1.2.2.1, C.2.2.2.2.2.2.2.2.1.2.2.2⟩) (fun v0 st₀ t LL h0 hL hQ => ?_)
    obtain ⟨⟨ws', z, p1, p2, p3, p4⟩, hF⟩ := hQ
    injection p4 with p4
    subst p4
    exact k ws' z p1 t.heap (locs ++ LL) ls p2 p3 (ai_SF hS h0 hF hL) hl
  · omega
  · omega
  · omega
end HCI
