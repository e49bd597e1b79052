/-! wordRead as a known method, where the word is told -/
def wf (sb : List ai_b) (f e : Nat) : Option ai_b := sb.find? fun q => Nat.ble 310 q.1 && (Nat.blt q.1 318 && (Nat.beq q.2.1 f && Nat.beq q.2.2.1 e))
theorem wf_ok {w0 : va_W} {r : List Int} {sb : List ai_b} {g : Nat → Int} {f e : Nat} {q : ai_b} {zf ze : Int} (g2 : ai_sb w0 r sb) (hg : fx_tape w0 g) (hf : r[f]? = some zf) (he : r[e]? = some ze) (h : wf sb f e = some q) : 310 ≤ q.1 ∧ q.1 < 318 ∧ (if q.1 = 310 then ∃ zw : Int, r[q.2.2.2.1]? = some zw ∧ zw = ((sp_word g zf.toNat ze.toNat : Nat) : Int) ∧ zw < 4 else sp_word g zf.toNat ze.toNat = q.1 - 310) := by
  have hq := List.mem_of_find?_eq_some h
  have hc := List.find?_some h
  rw [Bool.and_eq_true, Bool.and_eq_true, Bool.and_eq_true, ai_beq, ai_beq] at hc
  obtain ⟨c1, c2, c3, c4⟩ := hc
  have c1 := Nat.le_of_ble_eq_true c1
  have c2 : q.1 < 318 := Nat.le_of_ble_eq_true c2
  obtain ⟨-, -, -, -, -, -, -, -, -, -, -, e9⟩ := g2 q hq
  obtain ⟨zf', ze', a1, a2, -, -, a5⟩ := ((e9 (by omega)).2.2.1 g hg).2.1 c1 c2
  rw [c3, hf] at a1
  rw [c4, he] at a2
  cases a1
  cases a2
  exact ⟨c1, c2, a5⟩
def st_tape (sb : List ai_b) : Bool := sb.any fun q => Nat.beq q.1 350
theorem st_tapeok {w0 : va_W} {r : List Int} {sb : List ai_b} (g2 : ai_sb w0 r sb) (h : st_tape sb = true) : ∃ g : Nat → Int, fx_tape w0 g := by
  obtain ⟨q, hq, h⟩ := List.any_eq_true.mp h
  have h := ai_beq.mp h
  obtain ⟨-, -, -, -, -, -, -, -, -, -, -, e9⟩ := g2 q hq
  obtain ⟨z, g, a1, a2, a3⟩ := (e9 (by omega)).2.2.2 h
  exact ⟨g, a2⟩
theorem sp_word_congr {g g' : Nat → Int} {f e : Nat} (h : ∀ i, f ≤ i → i < e → g i = g' i) : sp_word g f e = sp_word g' f e := by
  rw [sp_word_P, sp_word_P]
  have : sp_is g f e = sp_is g' f e := funext fun w => sp_is_congr h
  rw [this]
def wf_v (q : ai_b) : ai_v := if Nat.beq q.1 310 = true then (1, q.2.2.2.1, 0, 0) else (1, 0, 0, ((q.1 - 310 : Nat) : Int))
theorem wf_vok {ad : List Nat} {b : Nat} {g : Nat → Int} {r : List Int} {q : ai_b} {zf ze : Int} {j : Nat} (hj : j < 2147483648) (h0 : r[0]? = some 0) (hw : sp_word g zf.toNat ze.toNat = j) (h : if q.1 = 310 then ∃ zw : Int, r[q.2.2.2.1]? = some zw ∧ zw = ((sp_word g zf.toNat ze.toNat : Nat) : Int) ∧ zw < 4 else sp_word g zf.toNat ze.toNat = q.1 - 310) : ai_dv ad b r (wf_v q) (.int (Int32.ofNat j)) := by
  have hjI : (Int32.ofNat j).toInt = (j : Int) := nI_toInt (by omega)
  unfold wf_v
  split
  · rename_i hq
    rw [if_pos (ai_beq.mp hq)] at h
    obtain ⟨zw, a1, a2, a3⟩ := h
    exact Or.inr (Or.inl ⟨rfl, zw, _, a1, rfl, by show (Int32.ofNat j).toInt = zw + 0; omega⟩)
  · rename_i hq
    rw [if_neg (fun hc => hq (ai_beq.mpr hc))] at h
    exact Or.inr (Or.inl ⟨rfl, 0, _, h0, rfl, by show (Int32.ofNat j).toInt = 0 + ((q.1 - 310 : Nat) : Int); omega⟩)
def su_wr (WR : List (Nat × Nat × Nat)) (st : ai_s) : Option (List ai_s) :=
  (ai_lk st.2.2.2.2.1 26 9).bind fun v => (ai_lk st.2.2.2.2.1 26 7).bind fun w => (wf st.2.2.2.2.2 v.2.1 w.2.1).bind fun q =>
    if v.1 = 1 ∧ w.1 = 1 ∧ v.2.2.2 = 0 ∧ w.2.2.2 = 0 ∧ st.2.1 = tn_lo ∧ st.2.2.1.isEmpty = true ∧ nowr WR 27 = true ∧ ai_z st.2.2.2.1 = true ∧ st_tape st.2.2.2.2.2 = true ∧ Nat.blt 1 st.2.2.2.1.length = true then
      some [(if Nat.beq q.1 317 = true then 29 else 20, [], [wf_v q], st.2.2.2.1, st.2.2.2.2.1, st.2.2.2.2.2)] else none
theorem su_wr_ok {WR : List (Nat × Nat × Nat)} {d : Nat} {st : ai_s} {xs : List ai_s} (hq : su_wr WR st = some xs) (h0 : st.1 = 0) (h6 : 6 ≤ d) {w0 : va_W} {ad : List Nat} {p : Program} {l : Launch} {e : Env} {R : Room} {s : State} {m : MethodId} {args : Array Value} {below : List Frame} {meth : Method} {c : Code} {D : va_G} {tys : ai_ty} {A : Nat → Prop} {b L : Nat} {sx : Nat → Int32} {cells slots : Nat} {Q : State → Prop} {r0 : List Int}
    (C : ai_cx tb_m37 d p R s m args c D tys A b L sx cells slots) (k : ∀ x ∈ xs, ai_G tb_TY WR w0 ad tb_m37 p l e R s m args below meth c D tys A b L sx cells slots Q r0 x) : ai_G tb_TY WR w0 ad tb_m37 p l e R s m args below meth c D tys A b L sx cells slots Q r0 st := by
  unfold su_wr at hq
  obtain ⟨v, v1, hq⟩ := Option.bind_eq_some_iff.mp hq
  obtain ⟨w, w1, hq⟩ := Option.bind_eq_some_iff.mp hq
  obtain ⟨q, q1, hq⟩ := Option.bind_eq_some_iff.mp hq
  split at hq
  · rename_i hc
    obtain ⟨c1, c2, c3, c4, c5, c6, c7, c8, c9, c10⟩ := hc
    injection hq with hq
    subst hq
    intro r lv skc ws H locs ls hxx g hP hD hS hl
    obtain ⟨g1, g2, g3, g4, g5, g6, g7, g8⟩ := g
    obtain ⟨n0, x0, i0, j0⟩ := ai_get_ok g3 (show ai_get st.2.1 0 = some (0, 26, 0, 0) by rw [c5]; rfl)
    obtain ⟨aK, aV, hJ⟩ := C.2.2.2.2.2.1.2
    have C' : jd_C tb_m37 d p R s m args c D tys A aK aV cells slots := ⟨C.1, C.2.1, C.2.2.1, C.2.2.2.1, C.2.2.2.2.1, C.2.2.2.2.2.2.1, hJ, C.2.2.2.2.2.2.2.2.1.1, C.2.2.2.2.2.2.2.2.1.2.1, C.2.2.2.2.2.2.2.2.1.2.2.1, C.2.2.2.2.2.2.2.2.1.2.2.2⟩
    have hsk : skc = [] := by
      rw [List.isEmpty_iff.mp c6] at g4
      exact g4.nil
    subst hsk
    have r00 : r[0]? = some 0 := ai_z_ok g1 c8
    obtain ⟨gt, htp⟩ := st_tapeok g2 c9
    have hnow := tape_now g5 g7 c7 htp
    obtain ⟨x1, s1, d1⟩ := ai_lk_ok g6 v1
    obtain ⟨x2, s2, d2⟩ := ai_lk_ok g6 w1
    obtain ⟨a, e1, w1', v1', cc1⟩ := g5.get (c := 26) rfl
    obtain ⟨q27, e2, w2, v2, cc2⟩ := g5.get (c := 27) rfl
    rcases cc1 with ⟨-, fs, rfl, -, hf⟩ | ⟨q, -⟩ | ⟨q, -⟩ | ⟨q, -⟩
    · rcases cc2 with ⟨q, -⟩ | ⟨-, cA, f, rfl, ⟨t0, ht⟩, -⟩ | ⟨q, -⟩ | ⟨q, -⟩
      · exact absurd q (by decide)
      · obtain ⟨y0, f0, d0⟩ := hf 0 _ rfl
        obtain ⟨y7, f7, d7⟩ := hf 7 _ rfl
        obtain ⟨y9, f9, d9⟩ := hf 9 _ rfl
        obtain ⟨q0, z0, rfl⟩ := jd_fr d0 rfl
        obtain ⟨zt, rfl, t1, t2⟩ := jd_fi d7 rfl
        obtain ⟨zf, rfl, u1, u2⟩ := jd_fi d9 rfl
        have hq : q0 = q27 := Option.some.inj (z0.symm.trans v2)
        subst hq
        have hx0 : x0 = .ref a := by
          rcases j0 with ⟨-, q, q1, q2⟩ | ⟨q, -⟩ | ⟨q, -⟩ | ⟨q, -⟩ | ⟨q, -⟩
          · rw [q2, Option.some.inj (q1.symm.trans v1')]
          all_goals exact absurd q (by decide)
        subst hx0
        have hl' : lv_has ls 2 [(0, .ref a)] := ⟨hl.1, hl.2.1, fun q hq => by
          rcases List.mem_cons.mp hq with rfl | hq
          · exact lv_at hl n0 i0
          · cases hq⟩
        have hx1 : x1 = .int zf := s1.fun ⟨a, _, w1', Or.inl ⟨2, fs, rfl, f9⟩⟩
        have hx2 : x2 = .int zt := s2.fun ⟨a, _, w1', Or.inl ⟨2, fs, rfl, f7⟩⟩
        subst hx1
        subst hx2
        obtain ⟨za, a1, a2⟩ := ai_dv1 d1 c1
        obtain ⟨zb, b1, b2⟩ := ai_dv1 d2 c2
        rw [c3] at a2
        rw [c4] at b2
        obtain ⟨k310, k318, kw⟩ := wf_ok g2 htp a1 b1 q1
        have hG : sp_word (fun n => (f n).toInt) zf.toInt.toNat zt.toInt.toNat = sp_word gt za.toNat zb.toNat := by
          rw [show za = zf.toInt by omega, show zb = zt.toInt by omega]
          have t3 : zt.toInt ≤ 160 := t2
          refine sp_word_congr (fun i h1 h2 => ?_)
          rw [← hnow i (by omega)]
          unfold fx_at
          rw [fx_sl_o ⟨q0, cA, 160, f, w2, by omega, rfl⟩]
          rfl
        rw [h0]
        refine jd_wr2 C' h6 hS hP w1' f0 f7 f9 u1 t2 t1 u2 w2 ht hl' (fun j ls' locs' hj hwj hl2 hS2 => ?_) (fun ls' locs' hwj hl2 hS2 => ?_)
        · rw [hG] at hwj
          have hpc : (if Nat.beq q.1 317 = true then 29 else 20) = 20 := by
            rw [if_neg]
            intro h3
            have h3 := ai_beq.mp h3
            rw [if_neg (by omega)] at kw
            omega
          have kk := k _ (List.mem_singleton.mpr rfl)
          rw [hpc] at kk
          exact kk r [] [.int (Int32.ofNat j)] ws H locs' ls' hxx ⟨g1, g2, trivial, ⟨wf_vok (by omega) r00 hwj kw, trivial⟩, g5, g6, g7, g8⟩ hP hD hS2 hl2
        · rw [hG] at hwj
          have hpc : (if Nat.beq q.1 317 = true then 29 else 20) = 29 := by
            rw [if_pos]
            rw [ai_beq]
            by_cases h3 : q.1 = 310
            · rw [if_pos h3] at kw
              obtain ⟨zw, -, y1, y2⟩ := kw
              omega
            · rw [if_neg h3] at kw
              omega
          have kk := k _ (List.mem_singleton.mpr rfl)
          rw [hpc] at kk
          exact kk r [] [.int 7] ws H locs' ls' hxx ⟨g1, g2, trivial, ⟨wf_vok (j := 7) (by omega) r00 hwj kw, trivial⟩, g5, g6, g7, g8⟩ hP hD hS2 hl2
      · exact absurd q (by decide)
      · exact absurd q (by decide)
    · exact absurd q (by decide)
    · exact absurd q (by decide)
    · exact absurd q (by decide)
  · cases hq
