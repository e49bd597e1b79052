/-! fields, arrays -/
def ai_flok (own : String) (ci i idx : Nat) : Prop := ∃ (C : String) (T : u_T) (N : Nat), vwCl[ci]? = some (C, T, N) ∧ i < N ∧ Cond.fieldLink own idx (T i).1 (T i).2.1 (T i).2.2.1 ∈ ai_GT ∧ ∀ w ∈ u_ws C T N, w ∈ ai_GT
/-- .. and a field that may be written, of ints or of longs -/
def ai_fpok (own : String) (ci i idx : Nat) (kd : Nat) : Prop := ∃ (C : String) (T : u_T) (N : Nat) (ty0 : Nat → FieldType), vwCl[ci]? = some (C, T, N) ∧ i < N ∧ Cond.fieldLink own idx (T i).1 (T i).2.1 (T i).2.2.1 ∈ ai_GT ∧ (∀ w ∈ u_ws C T N, w ∈ ai_GT) ∧
  (∀ k, k < N → parseFieldDescriptor (T k).2.2.1 = some (ty0 k)) ∧ (∀ a, a < N → ∀ b, b < N → a ≠ b → (T a).2.1 ≠ (T b).2.1) ∧ (T i).2.2.2 = false ∧ parseFieldDescriptor (T i).2.2.1 = some (if kd = 1 then .int else .long)
section AIM
variable {TY : List ai_c} {WR : List (Nat × Nat × Nat)} {w0 : va_W} {ad : List Nat} {M : ai_m} {d : Nat} {p : Program} {l : Launch} {e : Env} {R : Room} {s : State} {m : MethodId} {args : Array Value} {below : List Frame} {meth : Method} {c : Code} {D : va_G} {tys : ai_ty} {A : Nat → Prop} {b L : Nat} {sx : Nat → Int32} {cells slots : Nat} {Q : State → Prop} {r0 : List Int} {pc pc' : Nat} {lo : List (Nat × ai_v)} {sk : List ai_v} {en en' : List ai_e} {kn kn' : List ai_k} {sb sb' : List ai_b} {x y v : ai_v}
theorem ai_ref0 {r : List Int} {w : Value} {cA : Nat} (h : ai_dv ad b r x w) (h0 : x.1 = 0) (ha : ad[x.2.1]? = some cA) : w = .ref cA := by
  rcases h with ⟨-, q, h1, rfl⟩ | ⟨q, -⟩ | ⟨q, -⟩ | ⟨q, -⟩ | ⟨q, -⟩
  · rw [ha] at h1
    cases h1
    rfl
  all_goals omega
theorem ai_Jget (C : ai_cx M d p R s m args c D tys A b L sx cells slots) {ci i idx : Nat} {q : List ai_e × List ai_k × ai_v} (hn : 1 < en.length) (h0 : x.1 = 0) (hr : ai_rd TY en kn ci x.2.1 i = some q) (hf : ai_flok M.1.cls ci i idx) (hd : decode M.2.1 pc = .ok (.getfield idx, 3))
    (k : ai_G TY WR w0 ad M p l e R s m args below meth c D tys A b L sx cells slots Q r0 (pc + 3, lo, q.2.2 :: sk, q.1, q.2.1, sb)) : ai_G TY WR w0 ad M p l e R s m args below meth c D tys A b L sx cells slots Q r0 (pc, lo, x :: sk, en, kn, sb) := by
  intro r lv skc ws H locs ls hx g hP hD hS hl
  obtain ⟨g1, g2, g3, g4, g5, g6, g7, g8⟩ := g
  obtain ⟨vx, s2, rfl, dx, k5⟩ := g4.cons
  obtain ⟨a, fs, w, w1, w2, w3, r', e1, e2, e3, e4⟩ := ai_rd_ok g1 g5 g6 hr
  cases ai_ref0 dx h0 w2
  obtain ⟨C1, T, N, f1, f2, f3, f4⟩ := hf
  exact va_get C.1 C.2.1 C.2.2.2.2.1 f4 C.2.2.2.1 C.2.2.2.2.2.2.1 hP x.2.1 w1 f1 i f2 (C.2.2.2.2.1 _ f3) (fun _ h => h) w3 hd (k r' lv _ ws H locs ls (hx.tr e1) ⟨e2, g2.mono e1, g3.mono e1, ⟨e4, k5.mono e1⟩, g5, e3, g7, ai_sc1 e1 (by rw [g1.1]; exact hn) g8⟩ hP hD hS hl)
theorem ai_Jput (C : ai_cx M d p R s m args c D tys A b L sx cells slots) {ci i idx : Nat} (h0 : x.1 = 0) (hr : ai_wf TY WR en kn ci x.2.1 i v = some kn') (hf : ∀ kd, ((TY[x.2.1]?).bind fun t => t.2.2[i]?).map (fun f => f.1) = some kd → ai_fpok M.1.cls ci i idx kd) (hd : decode M.2.1 pc = .ok (.putfield idx, 3))
    (k : ai_G TY WR w0 ad M p l e R s m args below meth c D tys A b L sx cells slots Q r0 (pc + 3, lo, sk, en, kn', sb)) : ai_G TY WR w0 ad M p l e R s m args below meth c D tys A b L sx cells slots Q r0 (pc, lo, v :: x :: sk, en, kn, sb) := by
  intro r lv skc ws H locs ls hx g hP hD hS hl
  obtain ⟨g1, g2, g3, g4, g5, g6, g7, g8⟩ := g
  obtain ⟨vv, s1, rfl, dv, k4⟩ := g4.cons
  obtain ⟨vx, s2, rfl, dx, k5⟩ := k4.cons
  obtain ⟨a, fs, w1, w2, w3, w4, w5, w6, w7, w8⟩ := ai_wf_ok g1 g5 g6 g7 dv hr
  cases ai_ref0 dx h0 w2
  obtain ⟨C1, T, N, ty0, f1, f2, f3, f4, f5, f6, f7, f8⟩ := hf _ w8
  rcases w4 with ⟨j, rfl⟩ | ⟨j, rfl⟩
  · exact va_put C.1 C.2.1 C.2.2.2.2.1 f4 ty0 f5 f6 C.2.2.2.1 C.2.2.2.2.2.2.1 hP hD hS x.2.1 w1 f1 i f2 (C.2.2.2.2.1 _ f3) (fun _ h => h) f7 f8 rfl rfl w3 hd (fun H1 locs1 hP1 hD1 hS1 => k r lv _ _ H1 locs1 ls hx ⟨g1, g2, g3, k5, w5, w6, w7, g8⟩ hP1 hD1 hS1 hl)
  · exact va_put C.1 C.2.1 C.2.2.2.2.1 f4 ty0 f5 f6 C.2.2.2.1 C.2.2.2.2.2.2.1 hP hD hS x.2.1 w1 f1 i f2 (C.2.2.2.2.1 _ f3) (fun _ h => h) f7 f8 rfl rfl w3 hd (fun H1 locs1 hP1 hD1 hS1 => k r lv _ _ H1 locs1 ls hx ⟨g1, g2, g3, k5, w5, w6, w7, g8⟩ hP1 hD1 hS1 hl)
/-- what is read of the tapes is told of the world w0, where they are not written -/
def ai_gc (WR : List (Nat × Nat × Nat)) (c : Nat) (y v : ai_v) : Bool := (Nat.beq c 27 || (Nat.beq c 52 || (Nat.beq c 59 || (Nat.ble 45 c && Nat.ble c 48)))) && (!(WR.any fun q => Nat.beq q.1 c || Nat.beq q.1 1000) && (Nat.beq y.1 1 && (Nat.beq v.1 1 && decide (v.2.2.2 = 0))))
def ai_gt (WR : List (Nat × Nat × Nat)) (c : Nat) (y v : ai_v) (sb : List ai_b) : List ai_b := if ai_gc WR c y v = true then (1000 + c, y.2.1, y.2.1, v.2.1, y.2.2.2) :: sb else sb
theorem ai_dv1 {ad : List Nat} {b : Nat} {r : List Int} {v : ai_v} {i : Int32} (h : ai_dv ad b r v (.int i)) (h1 : v.1 = 1) : ∃ z, r[v.2.1]? = some z ∧ i.toInt = z + v.2.2.2 := by
  rcases h with ⟨q, -⟩ | ⟨-, z, j, q1, q2, q3⟩ | ⟨q, -⟩ | ⟨q, -⟩ | ⟨q, -⟩
  · omega
  · cases q2
    exact ⟨z, q1, q3⟩
  all_goals omega
theorem ai_vp0 {i : Int32} {n : Nat} (h : vp_in i n) : 0 ≤ i.toInt := (vp_in_iff.mp h).1
theorem ai_vpn {i : Int32} {n : Nat} (h : vp_in i n) : i.toInt.toNat < n := by
  have := vp_in_iff.mp h
  omega
theorem ai_gt_ok {WR : List (Nat × Nat × Nat)} {w0 ws : va_W} {ad : List Nat} {b : Nat} {r : List Int} {sb : List ai_b} {c a n : Nat} {cA : ClassId} {f : Nat → Int32} {i : Int32} {y v : ai_v} (g7 : ai_fr WR w0 ws) (g2 : ai_sb w0 r sb) (hy : ai_dv ad b r y (.int i)) (hv : ai_dv ad b r v (.int (f i.toNatClampNeg))) (w1 : ws[c]? = some (a, .inl (cA, n, .inl f))) (w4 : vp_in i n) : ai_sb w0 r (ai_gt WR c y v sb) := by
  unfold ai_gt
  split
  · rename_i hc
    unfold ai_gc at hc
    rw [Bool.and_eq_true, Bool.and_eq_true, Bool.and_eq_true, Bool.and_eq_true, ai_beq, ai_beq, decide_eq_true_eq] at hc
    obtain ⟨-, c2, c3, c4, c5⟩ := hc
    obtain ⟨za, y1, y2⟩ := ai_dv1 hy c3
    obtain ⟨zr, v1, v2⟩ := ai_dv1 hv c4
    have hi0 : 0 ≤ i.toInt := ai_vp0 w4
    intro q hq
    rcases List.mem_cons.mp hq with rfl | hq
    · refine ⟨za, za, zr, y1, y1, v1, fun h => absurd (show 1000 + c = 0 from h) (by omega), fun h => absurd (show 1000 + c = 1 from h) (by omega), fun h => absurd (show 1000 + c = 2 from h) (by omega), fun h => absurd (show 1000 + c = 4 from h) (by omega), fun h => absurd (show 1000 + c = 5 from h) (by omega), fun _ => ⟨fun _ => ⟨za, zr, y1, v1, by show 0 ≤ za + y.2.2.2; omega, fun t ht => ?_⟩, fun h => absurd (show 1000 + c < 300 ∨ (500 ≤ 1000 + c ∧ 1000 + c < 1000) from h) (by omega), fun _ _ => ⟨fun _ h => absurd (show 1000 + c < 305 from h) (by omega), fun _ h => absurd (show 1000 + c < 318 from h) (by omega), fun _ h => absurd (show 1000 + c < 323 from h) (by omega), fun _ h => absurd (show 1000 + c < 500 from h) (by omega), fun h => absurd (show 1000 + c = 330 from h) (by omega)⟩, fun h => absurd (show 1000 + c = 350 from h) (by omega)⟩⟩
      have ht : fx_o w0 (1000 + c - 1000) (za + y.2.2.2).toNat = some t := ht
      rw [Nat.add_sub_cancel_left, ← y2] at ht
      obtain ⟨j, j1, j2⟩ := fx_o_sl ht
      have hwr : ai_wr WR c i.toInt.toNat i.toInt.toNat = false := by
        rw [Bool.not_eq_true'] at c2
        unfold ai_wr
        rw [List.any_eq_false]
        intro q hq hx
        have := List.any_eq_false.mp c2 q hq
        rw [Bool.or_eq_true, ai_beq, ai_beq] at this
        rw [Bool.and_eq_true, Bool.and_eq_true, Bool.or_eq_true, decide_eq_true_eq, decide_eq_true_eq] at hx
        exact this hx.1.1
      have k1 := g7 c _ _ hwr j1
      have k2 : ai_sl ws c i.toInt.toNat (.int (f i.toInt.toNat)) := ⟨a, _, w1, Or.inr ⟨cA, n, f, rfl, ai_vpn w4, rfl⟩⟩
      have k3 := k1.fun k2
      injection k3 with k3
      have v2 : (f i.toInt.toNat).toInt = zr + v.2.2.2 := v2
      rw [← k3] at v2
      omega
    · exact g2 q hq
  · exact g2
/-- an element of a row of ints (tg 1), of booleans (tg 2) -/
theorem ai_Jald (C : ai_cx M d p R s m args c D tys A b L sx cells slots) {tg : Nat} {q : List ai_e × List ai_k × ai_v} (htg : tg = 1 ∨ tg = 2) (hn : 1 < en.length) (h0 : x.1 = 0) (hr : ai_ra TY en kn tg x.2.1 y = some q) (hd : decode M.2.1 pc = .ok (if tg = 1 then .iaload else .baload, 1))
    (k : ai_G TY WR w0 ad M p l e R s m args below meth c D tys A b L sx cells slots Q r0 (pc + 1, lo, q.2.2 :: sk, q.1, q.2.1, ai_gt WR x.2.1 y q.2.2 sb)) : ai_G TY WR w0 ad M p l e R s m args below meth c D tys A b L sx cells slots Q r0 (pc, lo, y :: x :: sk, en, kn, sb) := by
  intro r lv skc ws H locs ls hx g hP hD hS hl
  obtain ⟨g1, g2, g3, g4, g5, g6, g7, g8⟩ := g
  obtain ⟨vy, s1, rfl, dy, k4⟩ := g4.cons
  obtain ⟨vx, s2, rfl, dx, k5⟩ := k4.cons
  obtain ⟨a, cA, n, f, i, rfl, w1, w2, ⟨t0, w3⟩, w4, r', e1, e2, e3, e4⟩ := ai_ra_ok htg g1 g5 g6 dy hr
  cases ai_ref0 dx h0 w2
  have kk := k r' lv (.int (f i.toNatClampNeg) :: s2) ws H locs ls (hx.tr e1) ⟨e2, ai_gt_ok g7 (g2.mono e1) (dy.mono e1) e4 w1 w4, g3.mono e1, ⟨e4, k5.mono e1⟩, g5, e3, g7, ai_sc1 e1 (by rw [g1.1]; exact hn) g8⟩ hP hD hS hl
  rcases htg with rfl | rfl
  · exact va_iald C.1 C.2.1 C.2.2.2.2.2.2.1 hP x.2.1 t0 w1 w3 w4 hd kk
  · exact va_zald C.1 C.2.1 C.2.2.2.2.2.2.1 hP x.2.1 t0 w1 w3 w4 hd kk
theorem ai_narZ {j : Int32} (h : 0 ≤ j.toInt ∧ j.toInt ≤ 1) : vp_nar .boolean j = j := by
  have : j = 0 ∨ j = 1 := by
    by_cases h0 : j.toInt = 0
    · exact Or.inl (Int32.toInt_inj.mp (by rw [h0]; rfl))
    · exact Or.inr (Int32.toInt_inj.mp (by show j.toInt = 1; omega))
  rcases this with rfl | rfl <;> decide
theorem ai_Jast (C : ai_cx M d p R s m args c D tys A b L sx cells slots) {tg : Nat} (htg : tg = 1 ∨ tg = 2) (h0 : x.1 = 0) (hr : ai_wa TY WR en kn tg x.2.1 y v = some kn') (hd : decode M.2.1 pc = .ok (if tg = 1 then .iastore else .bastore, 1))
    (k : ai_G TY WR w0 ad M p l e R s m args below meth c D tys A b L sx cells slots Q r0 (pc + 1, lo, sk, en, kn', sb)) : ai_G TY WR w0 ad M p l e R s m args below meth c D tys A b L sx cells slots Q r0 (pc, lo, v :: y :: x :: sk, en, kn, sb) := by
  intro r lv skc ws H locs ls hx g hP hD hS hl
  obtain ⟨g1, g2, g3, g4, g5, g6, g7, g8⟩ := g
  obtain ⟨vv, s0, rfl, dv, k3⟩ := g4.cons
  obtain ⟨vy, s1, rfl, dy, k4⟩ := k3.cons
  obtain ⟨vx, s2, rfl, dx, k5⟩ := k4.cons
  obtain ⟨a, cA, n, f, i, j, rfl, rfl, w1, w2, ⟨t0, w3⟩, w4, w5, w6, w7, w8⟩ := ai_wa_ok htg g1 g5 g6 g7 dy dv hr
  cases ai_ref0 dx h0 w2
  rcases htg with rfl | rfl
  · exact va_iast C.1 C.2.1 C.2.2.2.2.2.2.1 hP hD hS x.2.1 t0 w1 w3 w4 hd (fun H1 locs1 hP1 hD1 hS1 => k r lv _ _ H1 locs1 ls hx ⟨g1, g2, g3, k5, w6, w7, w8, g8⟩ hP1 hD1 hS1 hl)
  · have ez : vp_nar .boolean j = j := ai_narZ (w5.elim (fun q => by omega) id)
    refine va_zast C.1 C.2.1 C.2.2.2.2.2.2.1 hP hD hS x.2.1 t0 w1 w3 w4 hd (fun H1 locs1 hP1 hD1 hS1 => ?_)
    rw [ez] at hP1 hD1
    exact k r lv _ _ H1 locs1 ls hx ⟨g1, g2, g3, k5, w6, w7, w8, g8⟩ hP1 hD1 hS1 hl
/-- a row of longs -/
def ai_il (TY : List ai_c) (en : List ai_e) (c : Nat) (iv : ai_v) : Bool := ((TY[c]?).bind fun t => (ai_i en iv).map fun p => decide (t.1 = 3) && decide (0 ≤ p.1) && decide (p.2 < (t.2.1 : Int))) == some true
theorem ai_il_ok {r : List Int} {ws : va_W} {cc : Nat} {iv : ai_v} {vi : Value} (h : ai_ok r en) (hw : ai_wd TY ad tys ws) (hv : ai_dv ad b r iv vi) (hq : ai_il TY en cc iv = true) :
    ∃ (a : Nat) (cA : ClassId) (n : Nat) (f : Nat → Int64) (i : Int32) (t : ai_c), vi = .int i ∧ ws[cc]? = some (a, .inl (cA, n, .inr (.inl f))) ∧ ad[cc]? = some a ∧ ai_hasT tys cA .long ∧ vp_in i n ∧ TY[cc]? = some t ∧ t.1 = 3 ∧ t.2.1 = n := by
  unfold ai_il at hq
  rw [beq_iff_eq] at hq
  obtain ⟨t, ht, hq⟩ := Option.bind_eq_some_iff.mp hq
  obtain ⟨p, hp, hq⟩ := Option.map_eq_some_iff.mp hq
  simp only [Bool.and_eq_true, decide_eq_true_eq] at hq
  obtain ⟨-, z, i, -, rfl, -, i1, i2⟩ := ai_i_ok h hv hp
  obtain ⟨a, e, w1, w2, w3⟩ := hw.get ht
  rcases w3 with ⟨q1, -⟩ | ⟨q1, -⟩ | ⟨t0, cA, f, rfl, g1⟩ | ⟨q1, -⟩
  · omega
  · omega
  · exact ⟨a, cA, t.2.1, f, i, t, rfl, w1, w2, g1, (ai_idx i1 i2 hq.1.2 hq.2).1, ht, t0, rfl⟩
  · omega
theorem ai_Jlald (C : ai_cx M d p R s m args c D tys A b L sx cells slots) (hn : 1 < en.length) (h0 : x.1 = 0) (hr : ai_il TY en x.2.1 y = true) (hd : decode M.2.1 pc = .ok (.laload, 1))
    (k : ai_G TY WR w0 ad M p l e R s m args below meth c D tys A b L sx cells slots Q r0 (pc + 1, lo, (2, en.length, 0, 0) :: sk, ai_nu en (-9223372036854775808) 9223372036854775807, kn, sb)) : ai_G TY WR w0 ad M p l e R s m args below meth c D tys A b L sx cells slots Q r0 (pc, lo, y :: x :: sk, en, kn, sb) := by
  intro r lv skc ws H locs ls hx g hP hD hS hl
  obtain ⟨g1, g2, g3, g4, g5, g6, g7, g8⟩ := g
  obtain ⟨vy, s1, rfl, dy, k4⟩ := g4.cons
  obtain ⟨vx, s2, rfl, dx, k5⟩ := k4.cons
  obtain ⟨a, cA, n, f, i, t, rfl, w1, w2, ⟨t0, w3⟩, w4, -⟩ := ai_il_ok g1 g5 dy hr
  cases ai_ref0 dx h0 w2
  exact va_lald C.1 C.2.1 C.2.2.2.2.2.2.1 hP x.2.1 t0 w1 w3 w4 hd (k (r ++ [(f i.toNatClampNeg).toInt]) lv _ ws H locs ls (hx.tr ai_x.push) ⟨g1.nu (ai_lrg _).1 (ai_lrg _).2, g2.mono ai_x.push, g3.mono ai_x.push, ⟨Or.inr (Or.inr (Or.inl ⟨rfl, _, _, ai_last g1.1, rfl, by show (f i.toNatClampNeg).toInt = (f i.toNatClampNeg).toInt + 0; omega⟩)), k5.mono ai_x.push⟩, g5, g6.mono ai_x.push, g7, ai_sc1 ai_x.push (by rw [g1.1]; exact hn) g8⟩ hP hD hS hl)
theorem ai_Jlast (C : ai_cx M d p R s m args c D tys A b L sx cells slots) (h0 : x.1 = 0) (hv : v.1 = 2) (hr : ai_il TY en x.2.1 y = true) (hd : decode M.2.1 pc = .ok (.lastore, 1))
    (k : ai_G TY WR w0 ad M p l e R s m args below meth c D tys A b L sx cells slots Q r0 (pc + 1, lo, sk, en, kn, sb)) : ai_G TY WR w0 ad M p l e R s m args below meth c D tys A b L sx cells slots Q r0 (pc, lo, v :: y :: x :: sk, en, kn, sb) := by
  intro r lv skc ws H locs ls hx g hP hD hS hl
  obtain ⟨g1, g2, g3, g4, g5, g6, g7, g8⟩ := g
  obtain ⟨vv, s0, rfl, dv, k3⟩ := g4.cons
  obtain ⟨vy, s1, rfl, dy, k4⟩ := k3.cons
  obtain ⟨vx, s2, rfl, dx, k5⟩ := k4.cons
  obtain ⟨a, cA, n, f, i, t, rfl, w1, w2, ⟨t0, w3⟩, w4, w5, w6, w7⟩ := ai_il_ok g1 g5 dy hr
  cases ai_ref0 dx h0 w2
  rcases dv with ⟨q, -⟩ | ⟨q, -⟩ | ⟨-, z, j, -, rfl, -⟩ | ⟨q, -⟩ | ⟨q, -⟩
  · omega
  · omega
  · refine va_last C.1 C.2.1 C.2.2.2.2.2.2.1 hP hD hS x.2.1 t0 w1 w3 w4 hd (fun H1 locs1 hP1 hD1 hS1 => k r lv _ _ H1 locs1 ls hx ⟨g1, g2, g3, k5, ?_, ?_, ?_, g8⟩ hP1 hD1 hS1 hl)
    · exact g5.set w5 w1 (Or.inr (Or.inr (Or.inl ⟨w6, cA, _, by rw [w7], ⟨t0, w3⟩⟩)))
    · intro q hq
      obtain ⟨u, u1, u2⟩ := g6 q hq
      exact ⟨u, u1.setL w1, u2⟩
    · exact fun c' i' u hu h0 => (g7 c' i' u hu h0).setL w1
  all_goals omega
/-- the length of a row -/
theorem ai_Jlen (C : ai_cx M d p R s m args c D tys A b L sx cells slots) {t : ai_c} (hz : ai_z en = true) (h0 : x.1 = 0) (ht : TY[x.2.1]? = some t) (h1 : t.1 = 1 ∨ t.1 = 2 ∨ t.1 = 3) (hb : t.2.1 < 2147483648) (hd : decode M.2.1 pc = .ok (.arraylength, 1))
    (k : ai_G TY WR w0 ad M p l e R s m args below meth c D tys A b L sx cells slots Q r0 (pc + 1, lo, (1, 0, 0, (t.2.1 : Int)) :: sk, en, kn, sb)) : ai_G TY WR w0 ad M p l e R s m args below meth c D tys A b L sx cells slots Q r0 (pc, lo, x :: sk, en, kn, sb) := by
  intro r lv skc ws H locs ls hx g hP hD hS hl
  obtain ⟨g1, g2, g3, g4, g5, g6, g7, g8⟩ := g
  obtain ⟨vx, s2, rfl, dx, k5⟩ := g4.cons
  obtain ⟨a, e1, w1, w2, w3⟩ := g5.get ht
  cases ai_ref0 dx h0 w2
  have hk := k r lv (.int (Int32.ofNat t.2.1) :: s2) ws H locs ls hx ⟨g1, g2, g3, ⟨Or.inr (Or.inl ⟨rfl, 0, _, ai_z_ok g1 hz, rfl, by show (Int32.ofNat t.2.1).toInt = 0 + (t.2.1 : Int); rw [show Int32.ofNat t.2.1 = nI t.2.1 from rfl, nI_toInt (by omega)]; omega⟩), k5⟩, g5, g6, g7, g8⟩ hP hD hS hl
  rcases w3 with ⟨q1, -⟩ | ⟨-, cA, f, rfl, ⟨t0, g9⟩, -⟩ | ⟨-, cA, f, rfl, ⟨t0, g9⟩⟩ | ⟨q1, -⟩
  · omega
  · exact va_alen C.1 C.2.1 C.2.2.2.2.2.2.1 hP x.2.1 t0 w1 g9 rfl hd hk
  · exact va_alen C.1 C.2.1 C.2.2.2.2.2.2.1 hP x.2.1 t0 w1 g9 rfl hd hk
  · omega
/-- a row of rows: one way for each index -/
def ai_aa (t : ai_c) (en : List ai_e) (iv : ai_v) (lo : Nat) (k : Nat) : List (List ai_e × ai_v) := (List.range (k + 1)).flatMap fun j => match ai_cl en iv.2.1 ((lo + j : Nat) - iv.2.2.2) ((lo + j : Nat) - iv.2.2.2), t.2.2[lo + j]? with
  | some en', some q => [(en', (0, q.2.1, 0, 0))]
  | _, _ => []
theorem ai_Jaald (C : ai_cx M d p R s m args c D tys A b L sx cells slots) {t : ai_c} {w : Int × Int} (h0 : x.1 = 0) (ht : TY[x.2.1]? = some t) (h1 : t.1 = 4) (hw : ai_i en y = some w) (hb : 0 ≤ w.1 ∧ w.2 < t.2.1 ∧ t.2.1 = t.2.2.length) (hd : decode M.2.1 pc = .ok (.aaload, 1))
    (k : ∀ q ∈ ai_aa t en y w.1.toNat (w.2.toNat - w.1.toNat), ai_G TY WR w0 ad M p l e R s m args below meth c D tys A b L sx cells slots Q r0 (pc + 1, lo, q.2 :: sk, q.1, kn, sb)) : ai_G TY WR w0 ad M p l e R s m args below meth c D tys A b L sx cells slots Q r0 (pc, lo, y :: x :: sk, en, kn, sb) := by
  intro r lv skc ws H locs ls hx g hP hD hS hl
  obtain ⟨g1, g2, g3, g4, g5, g6, g7, g8⟩ := g
  obtain ⟨vy, s1, rfl, dy, k4⟩ := g4.cons
  obtain ⟨vx, s2, rfl, dx, k5⟩ := k4.cons
  obtain ⟨a, e1, w1, w2, w3⟩ := g5.get ht
  cases ai_ref0 dx h0 w2
  obtain ⟨-, z, i, i1, rfl, i2, i3, i4⟩ := ai_i_ok g1 dy hw
  rcases w3 with ⟨q1, -⟩ | ⟨q1, -⟩ | ⟨q1, -⟩ | ⟨-, cA, f, rfl, ⟨t0, g9⟩, g10⟩
  · omega
  · omega
  · omega
  · obtain ⟨x1, x2, x3, x4⟩ := ai_idx i3 i4 hb.1 hb.2.1
    obtain ⟨q, hq⟩ : ∃ q, t.2.2[i.toNatClampNeg]? = some q := ⟨_, List.getElem?_eq_getElem (by omega)⟩
    obtain ⟨ra, r1, r2⟩ := g10 _ q hq
    have ei : (i.toNatClampNeg : Int) = i.toInt := by
      show ((i.toInt.toNat : Nat) : Int) = i.toInt
      omega
    obtain ⟨en1, c1, c2⟩ := ai_cl_ok (lo := (i.toNatClampNeg : Int) - y.2.2.2) (hi := (i.toNatClampNeg : Int) - y.2.2.2) g1 i1 (by omega) (by omega)
    have hm : (en1, ((0, q.2.1, 0, 0) : ai_v)) ∈ ai_aa t en y w.1.toNat (w.2.toNat - w.1.toNat) := by
      unfold ai_aa
      refine List.mem_flatMap.mpr ⟨i.toNatClampNeg - w.1.toNat, List.mem_range.mpr (by omega), ?_⟩
      rw [show w.1.toNat + (i.toNatClampNeg - w.1.toNat) = i.toNatClampNeg by omega, c1, hq]
      exact List.mem_singleton.mpr rfl
    refine W.aald (v := va_rf (f i.toNatClampNeg)) (ty := .array .int) C.1 C.2.1 (hP x.2.1 _ w1) ((C.2.2.2.2.2.2.1.2 t0 _ g9).1 t.2.1 (fun j => va_rf (f j))) rfl (fun q => by cases q) (by show ¬ (i < 0 ∨ (arrV _ _ _).slots.size ≤ _); rw [arrV_size]; exact x1) (by show (arrV _ _ _).slots[_]? = _; rw [arrV_read _ _ x4]) rfl rfl hd ?_
    rw [r2]
    exact k _ hm r lv _ ws H locs ls hx ⟨c2, g2, g3, ⟨Or.inl ⟨rfl, ra, r1, rfl⟩, k5⟩, g5, g6, g7, g8⟩ hP hD hS hl
/-- an int of the script -/
theorem ai_Jscr (C : ai_cx M d p R s m args c D tys A b L sx cells slots) (hsc : M.2.2.2.2.1 = true) (h0 : x.1 = 4) (hy : y.1 = 1 ∧ y.2.1 = 1 ∧ 0 ≤ y.2.2.2 ∧ y.2.2.2 ≤ 4) (hd : decode M.2.1 pc = .ok (.iaload, 1))
    (k : ai_G TY WR w0 ad M p l e R s m args below meth c D tys A b L sx cells slots Q r0 (pc + 1, lo, (1, 3 + y.2.2.2.toNat, 0, 0) :: sk, en, kn, sb)) : ai_G TY WR w0 ad M p l e R s m args below meth c D tys A b L sx cells slots Q r0 (pc, lo, y :: x :: sk, en, kn, sb) := by
  intro r lv skc ws H locs ls hx g hP hD hS hl
  obtain ⟨g1, g2, g3, g4, g5, g6, g7, g8⟩ := g
  obtain ⟨vy, s1, rfl, dy, k4⟩ := g4.cons
  obtain ⟨vx, s2, rfl, dx, k5⟩ := k4.cons
  obtain ⟨hX, hbl, hbA⟩ := C.2.2.2.2.2.2.2.2.2 hsc
  have hbx : vx = .ref b := by
    rcases dx with ⟨q, -⟩ | ⟨q, -⟩ | ⟨q, -⟩ | ⟨q, -⟩ | ⟨-, q⟩
    · omega
    · omega
    · omega
    · omega
    · exact q
  cases hbx
  rcases dy with ⟨q, -⟩ | ⟨-, z, i, i1, rfl, i2⟩ | ⟨q, -⟩ | ⟨q, -⟩ | ⟨q, -⟩
  · omega
  · rw [hy.2.1] at i1
    obtain ⟨hz, hnm⟩ := g8 hsc z i1
    have hi : i.toNatClampNeg = z.toNat + y.2.2.2.toNat := by
      show i.toInt.toNat = _
      omega
    refine va_sld C.1 C.2.1 hX hbl hbA hS (vp_in_iff.mpr ⟨by omega, by omega⟩) hd ?_
    rw [hi]
    exact k r lv _ ws H locs ls hx ⟨g1, g2, g3, ⟨Or.inr (Or.inl ⟨rfl, _, _, hnm y.2.2.2.toNat (by omega), rfl, by show (sx (z.toNat + y.2.2.2.toNat)).toInt = (sx (z.toNat + y.2.2.2.toNat)).toInt + 0; omega⟩), k5⟩, g5, g6, g7, g8⟩ hP hD hS hl
  all_goals omega
/-! branches -/
def ai_neg (op : Nat) : Nat := match op with
  | 0 => 1
  | 1 => 0
  | 2 => 3
  | 3 => 2
  | 4 => 5
  | _ => 4
def ai_c1 (en : List ai_e) (x : ai_v) : Option (Nat × Nat × Int) := if x.1 = 1 then (if ai_z en = true then some (x.2.1, 0, -x.2.2.2) else none) else if x.1 = 3 then some (x.2.1, x.2.2.1, x.2.2.2) else none
theorem ai_c1_ok {r : List Int} {q : Nat × Nat × Int} {w : Value} (h : ai_ok r en) (hv : ai_dv ad b r x w) (hq : ai_c1 en x = some q) : ∃ (i : Int32) (za zb : Int), w = .int i ∧ r[q.1]? = some za ∧ r[q.2.1]? = some zb ∧ (i.toInt < 0 ↔ za < zb + q.2.2) ∧ (i.toInt = 0 ↔ za = zb + q.2.2) := by
  unfold ai_c1 at hq
  split at hq
  · rename_i h1
    split at hq
    · rename_i hz
      cases hq
      rcases hv with ⟨q, -⟩ | ⟨-, z, i, i1, rfl, i2⟩ | ⟨q, -⟩ | ⟨q, -⟩ | ⟨q, -⟩
      · omega
      · refine ⟨i, z, 0, rfl, i1, ai_z_ok h hz, ?_, ?_⟩ <;> dsimp only <;> omega
      all_goals omega
    · cases hq
  · split at hq
    · rename_i h1 h3
      cases hq
      rcases hv with ⟨q, -⟩ | ⟨q, -⟩ | ⟨q, -⟩ | ⟨-, z, w2, i, i1, i2, rfl, i3, i4⟩ | ⟨q, -⟩
      · omega
      · omega
      · omega
      · refine ⟨i, z, w2, rfl, i1, i2, ?_, ?_⟩
        · rw [← i3, Int32.lt_iff_toInt_lt]
          rfl
        · rw [← i4, ← Int32.toInt_inj]
          rfl
      · omega
    · cases hq
/-- what was told of the same two names -/
def ai_cf (sb : List ai_b) (l : Bool) (a b : Nat) (c : Int) : Bool := sb.any fun k => Nat.beq k.2.1 a && (Nat.beq k.2.2.1 b && (if l = true then Nat.beq k.1 5 && decide (c ≤ k.2.2.2.2) else Nat.beq k.1 4 && decide (k.2.2.2.2 ≤ c)))
theorem ai_cf_ok {w0 : va_W} {r : List Int} {sb : List ai_b} {l : Bool} {a b : Nat} {c za zb : Int} (hs : ai_sb w0 r sb) (ha : r[a]? = some za) (hb : r[b]? = some zb) (h : if l = true then za < zb + c else zb + c ≤ za) : ai_cf sb l a b c = false := by
  rw [Bool.eq_false_iff]
  intro hc
  unfold ai_cf at hc
  obtain ⟨k, hk, hc⟩ := List.any_eq_true.mp hc
  rw [Bool.and_eq_true, Bool.and_eq_true, ai_beq, ai_beq] at hc
  obtain ⟨h1, h2, h3⟩ := hc
  obtain ⟨ya, yb, yr, e1, e2, -, -, -, -, e4, e5, -⟩ := hs k hk
  rw [h1, ha] at e1
  rw [h2, hb] at e2
  cases e1
  cases e2
  cases l with
  | true =>
    rw [if_pos rfl, Bool.and_eq_true, ai_beq, decide_eq_true_eq] at h3
    rw [if_pos rfl] at h
    have := e5 h3.1
    omega
  | false =>
    rw [if_neg (by decide), Bool.and_eq_true, ai_beq, decide_eq_true_eq] at h3
    rw [if_neg (by decide)] at h
    have := e4 h3.1
    omega
def ai_lf (op : Nat) (o : Int) : Option (Bool × Int) := match op with
  | 0 => none
  | 1 => none
  | 2 => some (true, o)
  | 3 => some (false, o)
  | 4 => some (false, o + 1)
  | _ => some (true, o + 1)
theorem ai_lf_ok {op : Nat} {o za zb c : Int} {l : Bool} (h : ai_lf op o = some (l, c)) (hr : ai_rel op za (zb + o)) : if l = true then za < zb + c else zb + c ≤ za := by
  rcases op with _ | _ | _ | _ | _ | op
  · cases h
  · cases h
  · cases h
    have hr : za < zb + o := hr
    rw [if_pos rfl]
    exact hr
  · cases h
    have hr : zb + o ≤ za := hr
    rw [if_neg (by decide)]
    exact hr
  · cases h
    have hr : zb + o < za := hr
    rw [if_neg (by decide)]
    omega
  · cases h
    have hr : za ≤ zb + o := hr
    rw [if_pos rfl]
    omega
def ai_nk (en : List ai_e) (a : Nat) : Bool := (en[a]?).any fun e => decide (e.1 < e.2.1)
/-- it is told that a isn't b and o -/
def ai_c0 (sb : List ai_b) (a b : Nat) (o : Int) : Bool := sb.any fun k => Nat.beq k.1 140 && (Nat.beq k.2.1 a && (Nat.beq k.2.2.1 b && decide (k.2.2.2.2 = o)))
theorem ai_c0_ok {w0 : va_W} {r : List Int} {sb : List ai_b} {a b : Nat} {o za zb : Int} (hs : ai_sb w0 r sb) (ha : r[a]? = some za) (hb : r[b]? = some zb) (h : ai_c0 sb a b o = true) : za ≠ zb + o := by
  unfold ai_c0 at h
  obtain ⟨k, hk, h1⟩ := List.any_eq_true.mp h
  rw [Bool.and_eq_true, Bool.and_eq_true, Bool.and_eq_true, ai_beq, ai_beq, ai_beq, decide_eq_true_eq] at h1
  obtain ⟨c1, c2, c3, c4⟩ := h1
  obtain ⟨-, -, -, -, -, -, -, -, -, -, -, e9⟩ := hs k hk
  obtain ⟨ya, yr, y1, -, -, -, -, y2, -⟩ := (e9 (by omega)).2.1 (by omega)
  obtain ⟨yb, y3, y4⟩ := y2 c1
  rw [c2, ha] at y1
  rw [c3, hb] at y3
  cases y1
  cases y3
  rw [c4] at y4
  exact y4
def ai_rb (en : List ai_e) (sb : List ai_b) (op a b : Nat) (o : Int) : Option (List ai_e × List ai_b) := match ai_lf op o with
  | some (l, c) => if ai_cf sb l a b c = true then none else (ai_rf en op a b o).map fun en' => (en', if (ai_nk en a && ai_nk en b) = true then ((if l = true then 4 else 5), a, b, a, c) :: sb else sb)
  | none => if (Nat.beq op 0 && ai_c0 sb a b o) = true then none else (ai_rf en op a b o).map fun en' => (en', if (Nat.beq op 1 && ai_nk en a) = true then (140, a, b, a, o) :: sb else if (Nat.beq op 0 && (ai_nk en a && ai_nk en b)) = true then (4, a, b, a, o + 1) :: (5, a, b, a, o) :: sb else sb)
theorem ai_rb_ok {w0 : va_W} {r : List Int} {en : List ai_e} {sb : List ai_b} {op a b : Nat} {o za zb : Int} (h : ai_ok r en) (hs : ai_sb w0 r sb) (ha : r[a]? = some za) (hb : r[b]? = some zb) (hr : ai_rel op za (zb + o)) : ∃ q, ai_rb en sb op a b o = some q ∧ ai_ok r q.1 ∧ ai_sb w0 r q.2 := by
  obtain ⟨en', e1, e2⟩ := ai_rf_ok h ha hb hr
  unfold ai_rb
  split
  · rename_i l c hl
    have hlt := ai_lf_ok hl hr
    rw [if_neg (by rw [ai_cf_ok hs ha hb hlt]; decide), e1]
    refine ⟨_, rfl, e2, ?_⟩
    show ai_sb w0 r (if _ then _ else sb)
    split
    · intro k hk
      rcases List.mem_cons.mp hk with rfl | hk
      · refine ⟨za, zb, za, ha, hb, ha, ?_, ?_, ?_, ?_, ?_, ?_⟩
        · intro q
          cases l <;> cases q
        · intro q
          cases l <;> cases q
        · intro q
          cases l <;> cases q
        · intro q
          cases l with
          | true => rw [if_pos rfl] at hlt; exact hlt
          | false => cases q
        · intro q
          cases l with
          | true => cases q
          | false => rw [if_neg (by decide)] at hlt; exact hlt
        · intro q
          cases l with
          | true => exact absurd (show (100 : Nat) ≤ 4 from q) (by decide)
          | false => exact absurd (show (100 : Nat) ≤ 5 from q) (by decide)
      · exact hs k hk
    · exact hs
  · rw [if_neg (fun hcc => by
      rw [Bool.and_eq_true, ai_beq] at hcc
      have hr' := hr
      rw [hcc.1] at hr'
      exact ai_c0_ok hs ha hb hcc.2 hr'), e1]
    refine ⟨_, rfl, e2, ?_⟩
    show ai_sb w0 r (if _ then _ else if _ then _ else sb)
    split
    · rename_i hop
      rw [Bool.and_eq_true, ai_beq] at hop
      have hne : za ≠ zb + o := by
        have hr' := hr
        rw [hop.1] at hr'
        exact hr'
      intro k hk
      rcases List.mem_cons.mp hk with rfl | hk
      · exact ⟨za, zb, za, ha, hb, ha, fun h => absurd (show (140 : Nat) = 0 from h) (by decide), fun h => absurd (show (140 : Nat) = 1 from h) (by decide), fun h => absurd (show (140 : Nat) = 2 from h) (by decide), fun h => absurd (show (140 : Nat) = 4 from h) (by decide), fun h => absurd (show (140 : Nat) = 5 from h) (by decide), fun _ => ⟨fun h => absurd (show (1000 : Nat) ≤ 140 from h) (by decide), fun _ => ⟨za, za, ha, ha, fun h => absurd (show (140 : Nat) < 132 from h) (by decide), fun h => absurd (show (200 : Nat) ≤ 140 from h) (by decide), fun h => absurd (show (500 : Nat) ≤ 140 from h) (by decide), fun _ => ⟨zb, hb, hne⟩, fun h => absurd (show (140 : Nat) = 141 from h) (by decide), fun h => absurd (show (140 : Nat) = 142 from h) (by decide), fun h => absurd (show (150 : Nat) ≤ 140 from h) (by decide)⟩, fun _ _ => ⟨fun h => absurd (show (300 : Nat) ≤ 140 from h) (by decide), fun h => absurd (show (310 : Nat) ≤ 140 from h) (by decide), fun h => absurd (show (320 : Nat) ≤ 140 from h) (by decide), fun h => absurd (show (400 : Nat) ≤ 140 from h) (by decide), fun h => absurd (show (140 : Nat) = 330 from h) (by decide)⟩, fun h => absurd (show (140 : Nat) = 350 from h) (by decide)⟩⟩
      · exact hs k hk
    · split
      · rename_i hop
        rw [Bool.and_eq_true, ai_beq] at hop
        have heq : za = zb + o := by
          have hr' := hr
          rw [hop.1] at hr'
          exact hr'
        intro k hk
        rcases List.mem_cons.mp hk with rfl | hk
        · exact ⟨za, zb, za, ha, hb, ha, fun h => absurd (show (4 : Nat) = 0 from h) (by decide), fun h => absurd (show (4 : Nat) = 1 from h) (by decide), fun h => absurd (show (4 : Nat) = 2 from h) (by decide), fun _ => (by show za < zb + (o + 1); omega), fun h => absurd (show (4 : Nat) = 5 from h) (by decide), fun h => absurd (show (100 : Nat) ≤ 4 from h) (by decide)⟩
        · rcases List.mem_cons.mp hk with rfl | hk
          · exact ⟨za, zb, za, ha, hb, ha, fun h => absurd (show (5 : Nat) = 0 from h) (by decide), fun h => absurd (show (5 : Nat) = 1 from h) (by decide), fun h => absurd (show (5 : Nat) = 2 from h) (by decide), fun h => absurd (show (5 : Nat) = 4 from h) (by decide), fun _ => (by show zb + o ≤ za; omega), fun h => absurd (show (100 : Nat) ≤ 5 from h) (by decide)⟩
          · exact hs k hk
      · exact hs
def ai_br (en : List ai_e) (op : Nat) (q : Nat × Nat × Int) (tgt fall : Nat) (lo : List (Nat × ai_v)) (sk : List ai_v) (kn : List ai_k) (sb : List ai_b) : List ai_s :=
  (match ai_rb en sb op q.1 q.2.1 q.2.2 with
    | some w => [(tgt, lo, sk, w.1, kn, w.2)]
    | none => []) ++ (match ai_rb en sb (ai_neg op) q.1 q.2.1 q.2.2 with
    | some w => [(fall, lo, sk, w.1, kn, w.2)]
    | none => [])
theorem ai_Jb1 {op tgt : Nat} {q : Nat × Nat × Int} (P : Int32 → Prop) (hq : ai_c1 en x = some q) (hP : ∀ (i : Int32) (za zb : Int), (i.toInt < 0 ↔ za < zb) → (i.toInt = 0 ↔ za = zb) → (P i → ai_rel op za zb) ∧ (¬ P i → ai_rel (ai_neg op) za zb))
    (row : ∀ (H : Heap) (locs : List Loc) (ls : Array Slot) (rest : List Value) (i : Int32), (P i → W p l e R s m args below meth c H locs cells slots Q (F0 m tgt ls rest)) → (¬ P i → W p l e R s m args below meth c H locs cells slots Q (F0 m pc' ls rest)) → W p l e R s m args below meth c H locs cells slots Q (F0 m pc ls (.int i :: rest)))
    (k : ∀ st ∈ ai_br en op q tgt pc' lo sk kn sb, ai_G TY WR w0 ad M p l e R s m args below meth c D tys A b L sx cells slots Q r0 st) : ai_G TY WR w0 ad M p l e R s m args below meth c D tys A b L sx cells slots Q r0 (pc, lo, x :: sk, en, kn, sb) := by
  intro r lv skc ws H locs ls hx g hP' hD hS hl
  obtain ⟨g1, g2, g3, g4, g5, g6, g7, g8⟩ := g
  obtain ⟨vx, s2, rfl, dx, k5⟩ := g4.cons
  obtain ⟨i, za, zb, rfl, a1, a2, a3, a4⟩ := ai_c1_ok g1 dx hq
  obtain ⟨p1, p2⟩ := hP i za (zb + q.2.2) a3 a4
  refine row H locs ls s2 i (fun h => ?_) (fun h => ?_)
  · obtain ⟨en1, q1, q2, q3⟩ := ai_rb_ok g1 g2 a1 a2 (p1 h)
    exact k (tgt, lo, sk, en1.1, kn, en1.2) (List.mem_append_left _ (by rw [q1]; exact List.mem_singleton.mpr rfl)) r lv _ ws H locs ls hx ⟨q2, q3, g3, k5, g5, g6, g7, g8⟩ hP' hD hS hl
  · obtain ⟨en1, q1, q2, q3⟩ := ai_rb_ok g1 g2 a1 a2 (p2 h)
    exact k (pc', lo, sk, en1.1, kn, en1.2) (List.mem_append_right _ (by rw [q1]; exact List.mem_singleton.mpr rfl)) r lv _ ws H locs ls hx ⟨q2, q3, g3, k5, g5, g6, g7, g8⟩ hP' hD hS hl
theorem ai_Jb2 {op tgt : Nat} (P : Int32 → Int32 → Prop) (hx1 : x.1 = 1) (hy1 : y.1 = 1) (hP : ∀ (i j : Int32) (za zb : Int), (i.toInt < j.toInt ↔ za < zb) → (i.toInt = j.toInt ↔ za = zb) → (P i j → ai_rel op za zb) ∧ (¬ P i j → ai_rel (ai_neg op) za zb))
    (row : ∀ (H : Heap) (locs : List Loc) (ls : Array Slot) (rest : List Value) (i j : Int32), (P i j → W p l e R s m args below meth c H locs cells slots Q (F0 m tgt ls rest)) → (¬ P i j → W p l e R s m args below meth c H locs cells slots Q (F0 m pc' ls rest)) → W p l e R s m args below meth c H locs cells slots Q (F0 m pc ls (.int j :: .int i :: rest)))
    (k : ∀ st ∈ ai_br en op (x.2.1, y.2.1, y.2.2.2 - x.2.2.2) tgt pc' lo sk kn sb, ai_G TY WR w0 ad M p l e R s m args below meth c D tys A b L sx cells slots Q r0 st) : ai_G TY WR w0 ad M p l e R s m args below meth c D tys A b L sx cells slots Q r0 (pc, lo, y :: x :: sk, en, kn, sb) := by
  intro r lv skc ws H locs ls hx g hP' hD hS hl
  obtain ⟨g1, g2, g3, g4, g5, g6, g7, g8⟩ := g
  obtain ⟨vy, s1, rfl, dy, k4⟩ := g4.cons
  obtain ⟨vx, s2, rfl, dx, k5⟩ := k4.cons
  rcases dx with ⟨q, -⟩ | ⟨-, za, i, a1, rfl, a3⟩ | ⟨q, -⟩ | ⟨q, -⟩ | ⟨q, -⟩
  · omega
  · rcases dy with ⟨q, -⟩ | ⟨-, zb, j, b1, rfl, b3⟩ | ⟨q, -⟩ | ⟨q, -⟩ | ⟨q, -⟩
    · omega
    · obtain ⟨p1, p2⟩ := hP i j za (zb + (y.2.2.2 - x.2.2.2)) (by omega) (by omega)
      refine row H locs ls s2 i j (fun h => ?_) (fun h => ?_)
      · obtain ⟨en1, q1, q2, q3⟩ := ai_rb_ok g1 g2 a1 b1 (p1 h)
        exact k (tgt, lo, sk, en1.1, kn, en1.2) (List.mem_append_left _ (by dsimp only; rw [q1]; exact List.mem_singleton.mpr rfl)) r lv _ ws H locs ls hx ⟨q2, q3, g3, k5, g5, g6, g7, g8⟩ hP' hD hS hl
      · obtain ⟨en1, q1, q2, q3⟩ := ai_rb_ok g1 g2 a1 b1 (p2 h)
        exact k (pc', lo, sk, en1.1, kn, en1.2) (List.mem_append_right _ (by dsimp only; rw [q1]; exact List.mem_singleton.mpr rfl)) r lv _ ws H locs ls hx ⟨q2, q3, g3, k5, g5, g6, g7, g8⟩ hP' hD hS hl
    all_goals omega
  all_goals omega
/-- a switch: what the value may be goes each to its place -/
def ai_sw (en : List ai_e) (a : Nat) (o : Int) (pc : Nat) (lo : List (Nat × ai_v)) (sk : List ai_v) (kn : List ai_k) (sb : List ai_b) (op : Nat) (kv off : Int) : List ai_s := match ai_rf en op a 0 (kv - o) with
  | some en' => [(((pc : Int) + off).toNat, lo, sk, en', kn, sb)]
  | none => []
theorem ai_Jtab (C : ai_cx M d p R s m args c D tys A b L sx cells slots) {dflt l1 h1 : Int} {offs : Array Int} {len : Nat} (hz : ai_z en = true) (hx1 : x.1 = 1) (hd : decode M.2.1 pc = .ok (.tableswitch dflt l1 h1 offs, len)) (hlen : (h1 - l1 + 1).toNat = offs.toList.length) (hpos : 0 ≤ (pc : Int) + dflt ∧ ∀ o ∈ offs.toList, 0 ≤ (pc : Int) + o)
    (k1 : ∀ (j : Nat) (off : Int), offs.toList[j]? = some off → ∀ st ∈ ai_sw en x.2.1 x.2.2.2 pc lo sk kn sb 0 (l1 + j) off, ai_G TY WR w0 ad M p l e R s m args below meth c D tys A b L sx cells slots Q r0 st)
    (k2 : ∀ st ∈ ai_sw en x.2.1 x.2.2.2 pc lo sk kn sb 2 l1 dflt, ai_G TY WR w0 ad M p l e R s m args below meth c D tys A b L sx cells slots Q r0 st) (k3 : ∀ st ∈ ai_sw en x.2.1 x.2.2.2 pc lo sk kn sb 4 h1 dflt, ai_G TY WR w0 ad M p l e R s m args below meth c D tys A b L sx cells slots Q r0 st) : ai_G TY WR w0 ad M p l e R s m args below meth c D tys A b L sx cells slots Q r0 (pc, lo, x :: sk, en, kn, sb) := by
  intro r lv skc ws H locs ls hx g hP' hD hS hl
  obtain ⟨g1, g2, g3, g4, g5, g6, g7, g8⟩ := g
  obtain ⟨vx, s2, rfl, dx, k5⟩ := g4.cons
  rcases dx with ⟨q, -⟩ | ⟨-, za, i, a1, rfl, a3⟩ | ⟨q, -⟩ | ⟨q, -⟩ | ⟨q, -⟩
  · omega
  · have z0 := ai_z_ok g1 hz
    by_cases c1 : i.toInt < l1
    · obtain ⟨en1, q1, q2⟩ := ai_rf_ok (op := 2) (o := l1 - x.2.2.2) g1 a1 z0 (show za < 0 + (l1 - x.2.2.2) by omega)
      exact lv_tableOut (tgt := ((pc : Int) + dflt).toNat) C.1 C.2.1 hd (Or.inl c1) (by omega) (k2 (((pc : Int) + dflt).toNat, lo, sk, en1, kn, sb) (by unfold ai_sw; rw [q1]; exact List.mem_singleton.mpr rfl) r lv _ ws H locs ls hx ⟨q2, g2, g3, k5, g5, g6, g7, g8⟩ hP' hD hS hl)
    · by_cases c2 : h1 < i.toInt
      · obtain ⟨en1, q1, q2⟩ := ai_rf_ok (op := 4) (o := h1 - x.2.2.2) g1 a1 z0 (show 0 + (h1 - x.2.2.2) < za by omega)
        exact lv_tableOut (tgt := ((pc : Int) + dflt).toNat) C.1 C.2.1 hd (Or.inr c2) (by omega) (k3 (((pc : Int) + dflt).toNat, lo, sk, en1, kn, sb) (by unfold ai_sw; rw [q1]; exact List.mem_singleton.mpr rfl) r lv _ ws H locs ls hx ⟨q2, g2, g3, k5, g5, g6, g7, g8⟩ hP' hD hS hl)
      · obtain ⟨off, ho⟩ : ∃ off, offs.toList[(i.toInt - l1).toNat]? = some off := ⟨_, List.getElem?_eq_getElem (by omega)⟩
        obtain ⟨en1, q1, q2⟩ := ai_rf_ok (op := 0) (o := l1 + ((i.toInt - l1).toNat : Nat) - x.2.2.2) g1 a1 z0 (show za = 0 + (l1 + ((i.toInt - l1).toNat : Nat) - x.2.2.2) by omega)
        have := hpos.2 off (List.mem_of_getElem? ho)
        exact lv_tableIn (off := off) (tgt := ((pc : Int) + off).toNat) C.1 C.2.1 hd c1 c2 (by rw [← ho]; simp) (by omega) (k1 _ off ho (((pc : Int) + off).toNat, lo, sk, en1, kn, sb) (by unfold ai_sw; rw [q1]; exact List.mem_singleton.mpr rfl) r lv _ ws H locs ls hx ⟨q2, g2, g3, k5, g5, g6, g7, g8⟩ hP' hD hS hl)
  all_goals omega
theorem ai_Jgoto (C : ai_cx M d p R s m args c D tys A b L sx cells slots) {off : Int} {tgt : Nat} (ht : (pc : Int) + off = (tgt : Int)) (hd : decode M.2.1 pc = .ok (.goto off, 3)) (k : ai_G TY WR w0 ad M p l e R s m args below meth c D tys A b L sx cells slots Q r0 (tgt, lo, sk, en, kn, sb)) : ai_G TY WR w0 ad M p l e R s m args below meth c D tys A b L sx cells slots Q r0 (pc, lo, sk, en, kn, sb) := by
  intro r lv skc ws H locs ls hx g hP hD hS hl
  exact lv_goto C.1 C.2.1 hd ht (k r lv skc ws H locs ls hx g hP hD hS hl)
end AIM
