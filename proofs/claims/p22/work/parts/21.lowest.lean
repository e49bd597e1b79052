/-! lowest: two longs by their common measure -/
theorem lo_rem (x y : Int64) (hy : ¬ y = 0) : (x - x / y * y).toInt.natAbs < y.toInt.natAbs := by
  have hY : y.toInt ≠ 0 := fun q => hy (Int64.toInt_inj.mp (by rw [q]; rfl))
  have hpos : 0 < y.toInt.natAbs := Int.natAbs_pos.mpr hY
  have h3 : (x.toInt.tmod y.toInt).natAbs < y.toInt.natAbs := by
    rw [Int.natAbs_tmod]
    exact Nat.mod_lt _ hpos
  have hr := ai_lrg y
  have h : (x - x / y * y).toInt = x.toInt.tmod y.toInt := by
    rw [Int64.toInt_sub, Int64.toInt_mul, Int64.toInt_div]
    simp only [Int.sub_bmod_bmod, Int.bmod_mul_bmod]
    have e : x.toInt - x.toInt.tdiv y.toInt * y.toInt = x.toInt.tmod y.toInt := by
      rw [Int.tmod_def, Int.mul_comm]
    rw [e]
    apply Int.bmod_eq_of_le <;> omega
  rw [h]
  exact h3
section LOW
variable {p : Program} {l : Launch} {e : Env} {R : Room} {s : State} {m : MethodId} {args : Array Value} {below : List Frame} {meth : Method} {c : Code} {H : Heap} {locs : List Loc} {cells slots : Nat} {Q : State → Prop}
theorem lo_cmp0 {b : Int64} : lg_cmp b 0 = 0 ↔ b = 0 := by
  rw [(ai_cmpL b 0).2]
  exact ⟨fun h => Int64.toInt_inj.mp h, fun h => by rw [h]⟩
theorem lo_loop (hx : p.tables.exec = Jvm.exec) (hb : c.code = cX6_lowest) (x0 y0 : Int64) (i4 : Int32) (hk : ∀ (q : Int64) (ls : Array Slot), lv_has ls 11 [] → W p l e R s m args below meth c H locs cells slots Q (F0 m 44 ls [.long q])) :
    ∀ (n : Nat) (a b : Int64) (ls : Array Slot), b.toInt.natAbs ≤ n → (b = 0 → ¬ a = 0) → lv_has ls 11 [(7, .long b), (5, .long a), (0, .long x0), (2, .long y0), (4, .int i4)] → W p l e R s m args below meth c H locs cells slots Q (F0 m 6 ls []) := by
  intro n
  induction n with
  | zero =>
    intro a b ls hn ha hl
    have hb0 : b = 0 := Int64.toInt_inj.mp (by show b.toInt = 0; omega)
    refine lv_lload hx hb (by decide +kernel : decode cX6_lowest 6 = .ok (.lload 7, 2)) (lv_at hl 0 rfl) ?_
    refine lv_lconst hx hb (by decide +kernel : decode cX6_lowest 8 = .ok (.lconst 0, 1)) (v := 0) rfl ?_
    refine W.lcmp hx hb (by decide +kernel : decode cX6_lowest 9 = .ok (.lcmp, 1)) ?_
    refine lv_if_eq hx hb (by decide +kernel : decode cX6_lowest 10 = .ok (.ifCond .eq 21, 3)) (tgt := 31) (by decide) (fun h0 => ?_) (fun h0 => absurd (lo_cmp0.mpr hb0) h0)
    refine lv_iload hx hb (by decide +kernel : decode cX6_lowest 31 = .ok (.iload 4, 2)) (lv_at hl 4 rfl) ?_
    refine lv_if_ne hx hb (by decide +kernel : decode cX6_lowest 33 = .ok (.ifCond .ne 7, 3)) (tgt := 40) (by decide) (fun h1 => ?_) (fun h1 => ?_)
    · refine lv_lload_n hx hb (by decide +kernel : decode cX6_lowest 40 = .ok (.lload_n 2, 1)) (i := 2) rfl (lv_at hl 3 rfl) ?_
      refine lv_lload hx hb (by decide +kernel : decode cX6_lowest 41 = .ok (.lload 5, 2)) (lv_at hl 1 rfl) ?_
      exact lv_ldiv hx hb (by decide +kernel : decode cX6_lowest 43 = .ok (.ldiv, 1)) (ha hb0) (hk _ ls (lv_sub hl [] rfl))
    · refine lv_lload_n hx hb (by decide +kernel : decode cX6_lowest 36 = .ok (.lload_n 0, 1)) (i := 0) rfl (lv_at hl 2 rfl) ?_
      refine lv_goto hx hb (by decide +kernel : decode cX6_lowest 37 = .ok (.goto 4, 3)) (tgt := 41) (by decide) ?_
      refine lv_lload hx hb (by decide +kernel : decode cX6_lowest 41 = .ok (.lload 5, 2)) (lv_at hl 1 rfl) ?_
      exact lv_ldiv hx hb (by decide +kernel : decode cX6_lowest 43 = .ok (.ldiv, 1)) (ha hb0) (hk _ ls (lv_sub hl [] rfl))
  | succ n ih =>
    intro a b ls hn ha hl
    refine lv_lload hx hb (by decide +kernel : decode cX6_lowest 6 = .ok (.lload 7, 2)) (lv_at hl 0 rfl) ?_
    refine lv_lconst hx hb (by decide +kernel : decode cX6_lowest 8 = .ok (.lconst 0, 1)) (v := 0) rfl ?_
    refine W.lcmp hx hb (by decide +kernel : decode cX6_lowest 9 = .ok (.lcmp, 1)) ?_
    refine lv_if_eq hx hb (by decide +kernel : decode cX6_lowest 10 = .ok (.ifCond .eq 21, 3)) (tgt := 31) (by decide) (fun h0 => ?_) (fun h0 => ?_)
    · have hb0 := lo_cmp0.mp h0
      refine lv_iload hx hb (by decide +kernel : decode cX6_lowest 31 = .ok (.iload 4, 2)) (lv_at hl 4 rfl) ?_
      refine lv_if_ne hx hb (by decide +kernel : decode cX6_lowest 33 = .ok (.ifCond .ne 7, 3)) (tgt := 40) (by decide) (fun h1 => ?_) (fun h1 => ?_)
      · refine lv_lload_n hx hb (by decide +kernel : decode cX6_lowest 40 = .ok (.lload_n 2, 1)) (i := 2) rfl (lv_at hl 3 rfl) ?_
        refine lv_lload hx hb (by decide +kernel : decode cX6_lowest 41 = .ok (.lload 5, 2)) (lv_at hl 1 rfl) ?_
        exact lv_ldiv hx hb (by decide +kernel : decode cX6_lowest 43 = .ok (.ldiv, 1)) (ha hb0) (hk _ ls (lv_sub hl [] rfl))
      · refine lv_lload_n hx hb (by decide +kernel : decode cX6_lowest 36 = .ok (.lload_n 0, 1)) (i := 0) rfl (lv_at hl 2 rfl) ?_
        refine lv_goto hx hb (by decide +kernel : decode cX6_lowest 37 = .ok (.goto 4, 3)) (tgt := 41) (by decide) ?_
        refine lv_lload hx hb (by decide +kernel : decode cX6_lowest 41 = .ok (.lload 5, 2)) (lv_at hl 1 rfl) ?_
        exact lv_ldiv hx hb (by decide +kernel : decode cX6_lowest 43 = .ok (.ldiv, 1)) (ha hb0) (hk _ ls (lv_sub hl [] rfl))
    · have hb0 : ¬ b = 0 := fun q => h0 (lo_cmp0.mpr q)
      refine lv_lload hx hb (by decide +kernel : decode cX6_lowest 13 = .ok (.lload 5, 2)) (lv_at hl 1 rfl) ?_
      refine lv_lload hx hb (by decide +kernel : decode cX6_lowest 15 = .ok (.lload 7, 2)) (lv_at hl 0 rfl) ?_
      refine lv_lrem hx hb (by decide +kernel : decode cX6_lowest 17 = .ok (.lrem, 1)) hb0 ?_
      refine lv_lstore hx hb (by decide +kernel : decode cX6_lowest 18 = .ok (.lstore 9, 2)) hl (by decide) (lv' := [(9, .long (a - a / b * b)), (7, .long b), (5, .long a), (0, .long x0), (2, .long y0), (4, .int i4)]) rfl (fun ls1 hl1 => ?_)
      refine lv_lload hx hb (by decide +kernel : decode cX6_lowest 20 = .ok (.lload 7, 2)) (lv_at hl1 1 rfl) ?_
      refine lv_lstore hx hb (by decide +kernel : decode cX6_lowest 22 = .ok (.lstore 5, 2)) hl1 (by decide) (lv' := [(5, .long b), (9, .long (a - a / b * b)), (7, .long b), (0, .long x0), (2, .long y0), (4, .int i4)]) rfl (fun ls2 hl2 => ?_)
      refine lv_lload hx hb (by decide +kernel : decode cX6_lowest 24 = .ok (.lload 9, 2)) (lv_at hl2 1 rfl) ?_
      refine lv_lstore hx hb (by decide +kernel : decode cX6_lowest 26 = .ok (.lstore 7, 2)) hl2 (by decide) (lv' := [(7, .long (a - a / b * b)), (5, .long b), (9, .long (a - a / b * b)), (0, .long x0), (2, .long y0), (4, .int i4)]) rfl (fun ls3 hl3 => ?_)
      refine lv_goto hx hb (by decide +kernel : decode cX6_lowest 28 = .ok (.goto (-22), 3)) (tgt := 6) (by decide) ?_
      have hlt := lo_rem a b hb0
      exact ih b (a - a / b * b) ls3 (by omega) (fun _ => hb0) (lv_sub hl3 [0, 1, 3, 4, 5] rfl)
theorem lo_walk (hx : p.tables.exec = Jvm.exec) (hb : c.code = cX6_lowest) {x0 y0 : Int64} {i4 : Int32} {ls : Array Slot} (h0 : ¬ y0 = 0) (hl : lv_has ls 11 [(0, .long x0), (2, .long y0), (4, .int i4)]) (hk : ∀ (q : Int64) (ls : Array Slot), lv_has ls 11 [] → W p l e R s m args below meth c H locs cells slots Q (F0 m 44 ls [.long q])) : W p l e R s m args below meth c H locs cells slots Q (F0 m 0 ls []) := by
  refine lv_lload_n hx hb (by decide +kernel : decode cX6_lowest 0 = .ok (.lload_n 0, 1)) (i := 0) rfl (lv_at hl 0 rfl) ?_
  refine lv_lstore hx hb (by decide +kernel : decode cX6_lowest 1 = .ok (.lstore 5, 2)) hl (by decide) (lv' := [(5, .long x0), (0, .long x0), (2, .long y0), (4, .int i4)]) rfl (fun ls1 hl1 => ?_)
  refine lv_lload_n hx hb (by decide +kernel : decode cX6_lowest 3 = .ok (.lload_n 2, 1)) (i := 2) rfl (lv_at hl1 2 rfl) ?_
  refine lv_lstore hx hb (by decide +kernel : decode cX6_lowest 4 = .ok (.lstore 7, 2)) hl1 (by decide) (lv' := [(7, .long y0), (5, .long x0), (0, .long x0), (2, .long y0), (4, .int i4)]) rfl (fun ls2 hl2 => ?_)
  exact lo_loop hx hb x0 y0 i4 hk _ x0 y0 ls2 (Nat.le_refl _) (fun q => absurd q h0) hl2
end LOW
theorem ai_anyE {α : Type} {o : Option α} {f : α → Bool} (h : o.any f = true) : ∃ v, o = some v ∧ f v = true := by
  cases o with
  | none => cases h
  | some v => exact ⟨v, rfl, h⟩
/-- .. as a walk that is known -/
theorem lo_known {TY : List ai_c} {WR : List (Nat × Nat × Nat)} {w0 : va_W} {ad : List Nat} {M : ai_m} {d : Nat} {p : Program} {l : Launch} {e : Env} {R : Room} {s : State} {m : MethodId} {args : Array Value} {below : List Frame} {meth : Method} {c : Code} {D : va_G} {tys : ai_ty} {A : Nat → Prop} {b L : Nat} {sx : Nat → Int32} {cells slots : Nat} {Q : State → Prop} {r0 : List Int} {st : ai_s} {x : ai_s} (C : ai_cx tb_m150 d p R s m args c D tys A b L sx cells slots) (h0 : st.1 = 0) (h1 : ((ai_get st.2.1 0).any fun v => ai_tL v.1) = true) (h2 : ((ai_get st.2.1 2).any fun v => (ai_l st.2.2.2.1 v).any fun p => decide (1 ≤ p.1)) = true) (h4 : ((ai_get st.2.1 4).any fun v => ai_tI v.1) = true) (hs : st.2.2.1.isEmpty = true) (hn : Nat.blt 1 st.2.2.2.1.length = true)
    (hx : x = (44, [], [(2, st.2.2.2.1.length, 0, 0)], ai_nu st.2.2.2.1 (-9223372036854775808) 9223372036854775807, st.2.2.2.2.1, st.2.2.2.2.2))
    (k : ai_G TY WR w0 ad tb_m150 p l e R s m args below meth c D tys A b L sx cells slots Q r0 x) : ai_G TY WR w0 ad tb_m150 p l e R s m args below meth c D tys A b L sx cells slots Q r0 st := by
  subst hx
  intro r lv skc ws H locs ls hxx g hP hD hS hl
  obtain ⟨g1, g2, g3, g4, g5, g6, g7, g8⟩ := g
  obtain ⟨v0, a0, b0⟩ := ai_anyE h1
  obtain ⟨v2, a2, b2⟩ := ai_anyE h2
  obtain ⟨v4, a4, b4⟩ := ai_anyE h4
  obtain ⟨w2, c2, e2⟩ := ai_anyE b2
  obtain ⟨n0, x0, i0, j0⟩ := ai_get_ok g3 a0
  obtain ⟨n2, x2, i2, j2⟩ := ai_get_ok g3 a2
  obtain ⟨n4, x4, i4, j4⟩ := ai_get_ok g3 a4
  obtain ⟨y0, rfl⟩ := ai_isL j0 b0
  obtain ⟨y4, rfl⟩ := ai_isI j4 b4
  obtain ⟨-, z, y2, -, rfl, -, l1, l2⟩ := ai_l_ok g1 j2 c2
  have e2 := of_decide_eq_true e2
  have hne : ¬ y2 = 0 := fun q => by
    rw [q] at l1
    have : (0 : Int64).toInt = 0 := rfl
    omega
  have hsk : skc = [] := by
    rw [List.isEmpty_iff.mp hs] at g4
    exact g4.nil
  subst hsk
  have hl' : lv_has ls 11 [(0, .long y0), (2, .long y2), (4, .int y4)] := ⟨hl.1, hl.2.1, fun q hq => by
    rcases List.mem_cons.mp hq with rfl | hq
    · exact lv_at hl n0 i0
    · rcases List.mem_cons.mp hq with rfl | hq
      · exact lv_at hl n2 i2
      · rcases List.mem_cons.mp hq with rfl | hq
        · exact lv_at hl n4 i4
        · cases hq⟩
  rw [h0]
  refine lo_walk (x0 := y0) (y0 := y2) (i4 := y4) C.1 C.2.1 hne hl' (fun q ls' hl2 => ?_)
  exact k (r ++ [q.toInt]) [] [.long q] ws H locs ls' (hxx.tr ai_x.push) ⟨g1.nu (ai_lrg q).1 (ai_lrg q).2, g2.mono ai_x.push, trivial, ⟨Or.inr (Or.inr (Or.inl ⟨rfl, _, _, ai_last g1.1, rfl, by show q.toInt = q.toInt + 0; omega⟩)), trivial⟩, g5, g6.mono ai_x.push, g7, ai_sc1 ai_x.push (by rw [g1.1]; exact Nat.le_of_ble_eq_true hn) g8⟩ hP hD hS hl2
