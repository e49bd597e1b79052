section
/-! lowest: two longs by their common measure -/
theorem lo_rem (x y : Int64) (hy : ¬ y = 0) : (x - x / y * y).toInt.natAbs < y.toInt.natAbs := by
  have hY : y.toInt ≠ 0 := fun q => hy (Int64.toInt_inj.mp (by rw [q]; rfl))
  have hpos : 0 < y.toInt.natAbs := Int.natAbs_pos.mpr hY
  have h3 : (x.toInt.tmod y.toInt).natAbs < y.toInt.natAbs := by
    rw [Int.natAbs_tmod]
    exact Nat.mod_lt _ hpos
  have hr := ai_lrg y
  have h : (x - x / y * y).toInt = x.toInt.tmod y.toInt := by
    rw [Int64.toInt_sub, Int64.toInt_mul, Int64.toInt_div]
    simp only [Int.sub_bmod_bmod, Int.bmod_mul_bmod]
    have e : x.toInt - x.toInt.tdiv y.toInt * y.toInt = x.toInt.tmod y.toInt := by
      rw [Int.tmod_def, Int.mul_comm]
    rw [e]
    apply Int.bmod_eq_of_le <;> omega
  rw [h]
  exact h3
section LOW
variable {p : Program} {l : Launch} {e : Env} {R : Room} {s : State} {m : MethodId} {args : Array Value} {below : List Frame} {meth : Method} {c : Code} {H : Heap} {locs : List Loc} {cells slots : Nat} {Q : State → Prop}
theorem lo_cmp0 {b : Int64} : lg_cmp b 0 = 0 ↔ b = 0 := by
  rw [(ai_cmpL b 0).2]
  exact ⟨fun h => Int64.toInt_inj.mp h, fun h => by rw [h]⟩
theorem lo_loop (hx : p.tables.exec = Jvm.exec) (hb : c.code = cX6_lowest) (x0 y0 : Int64) (i4 : Int32) (hk : ∀ (q : Int64) (ls : Array Slot), lv_has ls 11 [] → W p l e R s m args below meth c H locs cells slots Q (F0 m 44 ls [.long q])) :
    ∀ (n : Nat) (a b : Int64) (ls : Array Slot), b.toInt.natAbs ≤ n → (b = 0 → ¬ a = 0) → lv_has ls 11 [(7, .long b), (5, .long a), (0, .long x0), (2, .long y0), (4, .int i4)] → W p l e R s m args below meth c H locs cells slots Q (F0 m 6 ls []) := by
  intro n
  induction n with
  | zero =>
    intro a b ls hn ha hl
    have hb0 : b = 0 := Int64.toInt_inj.mp (by show b.toInt = 0; omega)
    refine lv_lload hx hb (by decide +kernel : decode cX6_lowest 6 = .ok (.lload 7, 2)) (lv_at hl 0 rfl) ?_
    refine lv_lconst hx hb (by decide +kernel : decode cX6_lowest 8 = .ok (.lconst 0, 1)) (v := 0) rfl ?_
    refine W.lcmp hx hb (by decide +kernel : decode cX6_lowest 9 = .ok (.lcmp, 1)) ?_
    refine lv_if_eq hx hb (by decide +kernel : decode cX6_lowest 10 = .ok (.ifCond .eq 21, 3)) (tgt := 31) (by decide) (fun h0 => ?_) (fun h0 => absurd (lo_cmp0.mpr hb0) h0)
    refine lv_iload hx hb (by decide +kernel : decode cX6_lowest 31 = .ok (.iload 4, 2)) (lv_at hl 4 rfl) ?_
    refine lv_if_ne hx hb (by decide +kernel : decode cX6_lowest 33 = .ok (.ifCond .ne 7, 3)) (tgt := 40) (by decide) (fun h1 => ?_) (fun h1 => ?_)
    · refine lv_lload_n hx hb (by decide +kernel : decode cX6_lowest 40 = .ok (.lload_n 2, 1)) (i := 2) rfl (lv_at hl 3 rfl) ?_
      refine lv_lload hx hb (by decide +kernel : decode cX6_lowest 41 = .ok (.lload 5, 2)) (lv_at hl 1 rfl) ?_
      exact lv_ldiv hx hb (by decide +kernel : decode cX6_lowest 43 = .ok (.ldiv, 1)) (ha hb0) (hk _ ls (lv_sub hl [] rfl))
    · refine lv_lload_n hx hb (by decide +kernel : decode cX6_lowest 36 = .ok (.lload_n 0, 1)) (i := 0) rfl (lv_at hl 2 rfl) ?_
      refine lv_goto hx hb (by decide +kernel : decode cX6_lowest 37 = .ok (.goto 4, 3)) (tgt := 41) (by decide) ?_
      refine lv_lload hx hb (by decide +kernel : decode cX6_lowest 41 = .ok (.lload 5, 2)) (lv_at hl 1 rfl) ?_
      exact lv_ldiv hx hb (by decide +kernel : decode cX6_lowest 43 = .ok (.ldiv, 1)) (ha hb0) (hk _ ls (lv_sub hl [] rfl))
  | succ n ih =>
    intro a b ls hn ha hl
    refine lv_lload hx hb (by decide +kernel : decode cX6_lowest 6 = .ok (.lload 7, 2)) (lv_at hl 0 rfl) ?_
    refine lv_lconst hx hb (by decide +kernel : decode cX6_lowest 8 = .ok (.lconst 0, 1)) (v := 0) rfl ?_
    refine W.lcmp hx hb (by decide +kernel : decode cX6_lowest 9 = .ok (.lcmp, 1)) ?_
    refine lv_if_eq hx hb (by decide +kernel : decode cX6_lowest 10 = .ok (.ifCond .eq 21, 3)) (tgt := 31) (by decide) (fun h0 => ?_) (fun h0 => ?_)
    · have hb0 := lo_cmp0.mp h0
      refine lv_iload hx hb (by decide +kernel : decode cX6_lowest 31 = .ok (.iload 4, 2)) (lv_at hl 4 rfl) ?_
      refine lv_if_ne hx hb (by decide +kernel : decode cX6_lowest 33 = .ok (.ifCond .ne 7, 3)) (tgt := 40) (by decide) (fun h1 => ?_) (fun h1 => ?_)
      · refine lv_lload_n hx hb (by decide +kernel : decode cX6_lowest 40 = .ok (.lload_n 2, 1)) (i := 2) rfl (lv_at hl 3 rfl) ?_
        refine lv_lload hx hb (by decide +kernel : decode cX6_lowest 41 = .ok (.lload 5, 2)) (lv_at hl 1 rfl) ?_
        exact lv_ldiv hx hb (by decide +kernel : decode cX6_lowest 43 = .ok (.ldiv, 1)) (ha hb0) (hk _ ls (lv_sub hl [] rfl))
      · refine lv_lload_n hx hb (by decide +kernel : decode cX6_lowest 36 = .ok (.lload_n 0, 1)) (i := 0) rfl (lv_at hl 2 rfl) ?_
        refine lv_goto hx hb (by decide +kernel : decode cX6_lowest 37 = .ok (.goto 4, 3)) (tgt := 41) (by decide) ?_
        refine lv_lload hx hb (by decide +kernel : decode cX6_lowest 41 = .ok (.lload 5, 2)) (lv_at hl 1 rfl) ?_
        exact lv_ldiv hx hb (by decide +kernel : decode cX6_lowest 43 = .ok (.ldiv, 1)) (ha hb0) (hk _ ls (lv_sub hl [] rfl))
    · have hb0 : ¬ b = 0 := fun q => h0 (lo_cmp0.mpr q)
      refine lv_lload hx hb (by decide +kernel : decode cX6_lowest 13 = .ok (.lload 5, 2)) (lv_at hl 1 rfl) ?_
      refine lv_lload hx hb (by decide +kernel : decode cX6_lowest 15 = .ok (.lload 7, 2)) (lv_at hl 0 rfl) ?_
      refine lv_lrem hx hb (by decide +kernel : decode cX6_lowest 17 = .ok (.lrem, 1)) hb0 ?_
      refine lv_lstore hx hb (by decide +kernel : decode cX6_lowest 18 = .ok (.lstore 9, 2)) hl (by decide) (lv' := [(9, .long (a - a / b * b)), (7, .long b), (5, .long a), (0, .long x0), (2, .long y0), (4, .int i4)]) rfl (fun ls1 hl1 => ?_)
      refine lv_lload hx hb (by decide +kernel : decode cX6_lowest 20 = .ok (.lload 7, 2)) (lv_at hl1 1 rfl) ?_
      refine lv_lstore hx hb (by decide +kernel : decode cX6_lowest 22 = .ok (.lstore 5, 2)) hl1 (by decide) (lv' := [(5, .long b), (9, .long (a - a / b * b)), (7, .long b), (0, .long x0), (2, .long y0), (4, .int i4)]) rfl (fun ls2 hl2 => ?_)
      refine lv_lload hx hb (by decide +kernel : decode cX6_lowest 24 = .ok (.lload 9, 2)) (lv_at hl2 1 rfl) ?_
      refine lv_lstore hx hb (by decide +kernel : decode cX6_lowest 26 = .ok (.lstore 7, 2)) hl2 (by decide) (lv' := [(7, .long (a - a / b * b)), (5, .long b), (9, .long (a - a / b * b)), (0, .long x0), (2, .long y0), (4, .int i4)]) rfl (fun ls3 hl3 => ?_)
      refine lv_goto hx hb (by decide +kernel : decode cX6_lowest 28 = .ok (.goto (-22), 3)) (tgt := 6) (by decide) ?_
      have hlt := lo_rem a b hb0
      exact ih b (a - a / b * b) ls3 (by omega) (fun _ => hb0) (lv_sub hl3 [0, 1, 3, 4, 5] rfl)
theorem lo_walk (hx : p.tables.exec = Jvm.exec) (hb : c.code = cX6_lowest) {x0 y0 : Int64} {i4 : Int32} {ls : Array Slot} (h0 : ¬ y0 = 0) (hl : lv_has ls 11 [(0, .long x0), (2, .long y0), (4, .int i4)]) (hk : ∀ (q : Int64) (ls : Array Slot), lv_has ls 11 [] → W p l e R s m args below meth c H locs cells slots Q (F0 m 44 ls [.long q])) : W p l e R s m args below meth c H locs cells slots Q (F0 m 0 ls []) := by
  refine lv_lload_n hx hb (by decide +kernel : decode cX6_lowest 0 = .ok (.lload_n 0, 1)) (i := 0) rfl (lv_at hl 0 rfl) ?_
  refine lv_lstore hx hb (by decide +kernel : decode cX6_lowest 1 = .ok (.lstore 5, 2)) hl (by decide) (lv' := [(5, .long x0), (0, .long x0), (2, .long y0), (4, .int i4)]) rfl (fun ls1 hl1 => ?_)
  refine lv_lload_n hx hb (by decide +kernel : decode cX6_lowest 3 = .ok (.lload_n 2, 1)) (i := 2) rfl (lv_at hl1 2 rfl) ?_
  refine lv_lstore hx hb (by decide +kernel : decode cX6_lowest 4 = .ok (.lstore 7, 2)) hl1 (by decide) (lv' := [(7, .long y0), (5, .long x0), (0, .long x0), (2, .long y0), (4, .int i4)]) rfl (fun ls2 hl2 => ?_)
  exact lo_loop hx hb x0 y0 i4 hk _ x0 y0 ls2 (Nat.le_refl _) (fun q => absurd q h0) hl2
end LOW
theorem ai_anyE {α : Type} {o : Option α} {f : α → Bool} (h : o.any f = true) : ∃ v, o = some v ∧ f v = true := by
  cases o with
  | none => cases h
  | some v => exact ⟨v, rfl, h⟩
/-- .. as a walk that is known -/
theorem lo_known {TY : List ai_c} {WR : List (Nat × Nat × Nat)} {w0 : va_W} {ad : List Nat} {M : ai_m} {d : Nat} {p : Program} {l : Launch} {e : Env} {R : Room} {s : State} {m : MethodId} {args : Array Value} {below : List Frame} {meth : Method} {c : Code} {D : va_G} {tys : ai_ty} {A : Nat → Prop} {b L : Nat} {sx : Nat → Int32} {cells slots : Nat} {Q : State → Prop} {r0 : List Int} {st : ai_s} {x : ai_s} (C : ai_cx tb_m150 d p R s m args c D tys A b L sx cells slots) (h0 : st.1 = 0) (h1 : ((ai_get st.2.1 0).any fun v => ai_tL v.1) = true) (h2 : ((ai_get st.2.1 2).any fun v => (ai_l st.2.2.2.1 v).any fun p => decide (1 ≤ p.1)) = true) (h4 : ((ai_get st.2.1 4).any fun v => ai_tI v.1) = true) (hs : st.2.2.1.isEmpty = true) (hn : Nat.blt 1 st.2.2.2.1.length = true)
    (hx : x = (44, [], [(2, st.2.2.2.1.length, 0, 0)], ai_nu st.2.2.2.1 (-9223372036854775808) 9223372036854775807, st.2.2.2.2.1, st.2.2.2.2.2))
    (k : ai_G TY WR w0 ad tb_m150 p l e R s m args below meth c D tys A b L sx cells slots Q r0 x) : ai_G TY WR w0 ad tb_m150 p l e R s m args below meth c D tys A b L sx cells slots Q r0 st := by
  subst hx
  intro r lv skc ws H locs ls hxx g hP hD hS hl
  obtain ⟨g1, g2, g3, g4, g5, g6, g7, g8⟩ := g
  obtain ⟨v0, a0, b0⟩ := ai_anyE h1
  obtain ⟨v2, a2, b2⟩ := ai_anyE h2
  obtain ⟨v4, a4, b4⟩ := ai_anyE h4
  obtain ⟨w2, c2, e2⟩ := ai_anyE b2
  obtain ⟨n0, x0, i0, j0⟩ := ai_get_ok g3 a0
  obtain ⟨n2, x2, i2, j2⟩ := ai_get_ok g3 a2
  obtain ⟨n4, x4, i4, j4⟩ := ai_get_ok g3 a4
  obtain ⟨y0, rfl⟩ := ai_isL j0 b0
  obtain ⟨y4, rfl⟩ := ai_isI j4 b4
  obtain ⟨-, z, y2, -, rfl, -, l1, l2⟩ := ai_l_ok g1 j2 c2
  have e2 := of_decide_eq_true e2
  have hne : ¬ y2 = 0 := fun q => by
    rw [q] at l1
    have : (0 : Int64).toInt = 0 := rfl
    omega
  have hsk : skc = [] := by
    rw [List.isEmpty_iff.mp hs] at g4
    exact g4.nil
  subst hsk
  have hl' : lv_has ls 11 [(0, .long y0), (2, .long y2), (4, .int y4)] := ⟨hl.1, hl.2.1, fun q hq => by
    rcases List.mem_cons.mp hq with rfl | hq
    · exact lv_at hl n0 i0
    · rcases List.mem_cons.mp hq with rfl | hq
      · exact lv_at hl n2 i2
      · rcases List.mem_cons.mp hq with rfl | hq
        · exact lv_at hl n4 i4
        · cases hq⟩
  rw [h0]
  refine lo_walk (x0 := y0) (y0 := y2) (i4 := y4) C.1 C.2.1 hne hl' (fun q ls' hl2 => ?_)
  exact k (r ++ [q.toInt]) [] [.long q] ws H locs ls' (hxx.tr ai_x.push) ⟨g1.nu (ai_lrg q).1 (ai_lrg q).2, g2.mono ai_x.push, trivial, ⟨Or.inr (Or.inr (Or.inl ⟨rfl, _, _, ai_last g1.1, rfl, by show q.toInt = q.toInt + 0; omega⟩)), trivial⟩, g5, g6.mono ai_x.push, g7, ai_sc1 ai_x.push (by rw [g1.1]; exact Nat.le_of_ble_eq_true hn) g8⟩ hP hD hS hl2
end
section
/-! the machine's own String.length and charAt; spelling, isWord, wordRead: by hand -/
def jm (y : MethodName) (c : ByteArray) (n : Nat) (r : Option FieldType) : ai_m := (y, c, n, r, false, [], [], [], [], [], [], [])
def jd_C (M : ai_m) (d : Nat) (p : Program) (R : Room) (s : State) (m : MethodId) (args : Array Value) (c : Code) (D : va_G) (tys : ai_ty) (A : Nat → Prop) (aK aV : Nat → Nat) (cells slots : Nat) : Prop := (p.tables.exec = Jvm.exec) ∧ (c.code = M.2.1) ∧ (c.maxLocals = M.2.2.1) ∧ (s.vm.findClass M.1.cls = some m.cls) ∧ (∀ w ∈ ai_GT, w.before args s = true) ∧ (va_K D vwCl tys s) ∧ (ai_jt aK aV A s) ∧ (d ≤ R.frames) ∧ (36 * d ≤ R.locals) ∧ (cells ≤ R.cells) ∧ (slots ≤ R.slots)
theorem jd_C.x {M : ai_m} {d : Nat} {p : Program} {R : Room} {s : State} {m : MethodId} {args : Array Value} {c : Code} {D : va_G} {tys : ai_ty} {A : Nat → Prop} {aK aV : Nat → Nat} {cells slots : Nat} (C : jd_C M d p R s m args c D tys A aK aV cells slots) : p.tables.exec = Jvm.exec := C.1
theorem jd_C.b {M : ai_m} {d : Nat} {p : Program} {R : Room} {s : State} {m : MethodId} {args : Array Value} {c : Code} {D : va_G} {tys : ai_ty} {A : Nat → Prop} {aK aV : Nat → Nat} {cells slots : Nat} (C : jd_C M d p R s m args c D tys A aK aV cells slots) : c.code = M.2.1 := C.2.1
theorem jd_C.ml {M : ai_m} {d : Nat} {p : Program} {R : Room} {s : State} {m : MethodId} {args : Array Value} {c : Code} {D : va_G} {tys : ai_ty} {A : Nat → Prop} {aK aV : Nat → Nat} {cells slots : Nat} (C : jd_C M d p R s m args c D tys A aK aV cells slots) : c.maxLocals = M.2.2.1 := C.2.2.1
theorem jd_C.own {M : ai_m} {d : Nat} {p : Program} {R : Room} {s : State} {m : MethodId} {args : Array Value} {c : Code} {D : va_G} {tys : ai_ty} {A : Nat → Prop} {aK aV : Nat → Nat} {cells slots : Nat} (C : jd_C M d p R s m args c D tys A aK aV cells slots) : s.vm.findClass M.1.cls = some m.cls := C.2.2.2.1
theorem jd_C.ts {M : ai_m} {d : Nat} {p : Program} {R : Room} {s : State} {m : MethodId} {args : Array Value} {c : Code} {D : va_G} {tys : ai_ty} {A : Nat → Prop} {aK aV : Nat → Nat} {cells slots : Nat} (C : jd_C M d p R s m args c D tys A aK aV cells slots) : ∀ w ∈ ai_GT, w.before args s = true := C.2.2.2.2.1
theorem jd_C.K {M : ai_m} {d : Nat} {p : Program} {R : Room} {s : State} {m : MethodId} {args : Array Value} {c : Code} {D : va_G} {tys : ai_ty} {A : Nat → Prop} {aK aV : Nat → Nat} {cells slots : Nat} (C : jd_C M d p R s m args c D tys A aK aV cells slots) : va_K D vwCl tys s := C.2.2.2.2.2.1
theorem jd_C.J {M : ai_m} {d : Nat} {p : Program} {R : Room} {s : State} {m : MethodId} {args : Array Value} {c : Code} {D : va_G} {tys : ai_ty} {A : Nat → Prop} {aK aV : Nat → Nat} {cells slots : Nat} (C : jd_C M d p R s m args c D tys A aK aV cells slots) : ai_jt aK aV A s := C.2.2.2.2.2.2.1
theorem jd_C.fr {M : ai_m} {d : Nat} {p : Program} {R : Room} {s : State} {m : MethodId} {args : Array Value} {c : Code} {D : va_G} {tys : ai_ty} {A : Nat → Prop} {aK aV : Nat → Nat} {cells slots : Nat} (C : jd_C M d p R s m args c D tys A aK aV cells slots) : d ≤ R.frames := C.2.2.2.2.2.2.2.1
theorem jd_C.lc {M : ai_m} {d : Nat} {p : Program} {R : Room} {s : State} {m : MethodId} {args : Array Value} {c : Code} {D : va_G} {tys : ai_ty} {A : Nat → Prop} {aK aV : Nat → Nat} {cells slots : Nat} (C : jd_C M d p R s m args c D tys A aK aV cells slots) : 36 * d ≤ R.locals := C.2.2.2.2.2.2.2.2.1
theorem jd_C.ce {M : ai_m} {d : Nat} {p : Program} {R : Room} {s : State} {m : MethodId} {args : Array Value} {c : Code} {D : va_G} {tys : ai_ty} {A : Nat → Prop} {aK aV : Nat → Nat} {cells slots : Nat} (C : jd_C M d p R s m args c D tys A aK aV cells slots) : cells ≤ R.cells := C.2.2.2.2.2.2.2.2.2.1
theorem jd_C.sl {M : ai_m} {d : Nat} {p : Program} {R : Room} {s : State} {m : MethodId} {args : Array Value} {c : Code} {D : va_G} {tys : ai_ty} {A : Nat → Prop} {aK aV : Nat → Nat} {cells slots : Nat} (C : jd_C M d p R s m args c D tys A aK aV cells slots) : slots ≤ R.slots := C.2.2.2.2.2.2.2.2.2.2
def jd_P (D : va_G) (tys : ai_ty) (A : Nat → Prop) (aK aV : Nat → Nat) (H : Heap) : State → Prop := fun U => U.heap = H ∧ va_K D vwCl tys U ∧ ai_jt aK aV A U
def jd_Q (H : Heap) (S : Option Value → Prop) : Array Value → State → Outcome → State → Prop := fun _ _ oc t => ∃ v, oc = .returned v ∧ S v ∧ t.heap = H
theorem jd_met {M : ai_m} {d : Nat} {D : va_G} {tys : ai_ty} {A : Nat → Prop} {aK aV : Nat → Nat} {H : Heap} {vals : List Value} {S : Option Value → Prop} (l : Launch) (hpl : plainName M.1.cls = true) (hw : (lg_sl vals).length ≤ M.2.2.1)
    (walk : ∀ {p : Program} {e : Env} {s : State} {m : MethodId} {below : List Frame} {meth : Method} {c : Code} {ls : Array Slot}, jd_C M d p (ai_rm d) s m vals.toArray c D tys A aK aV 0 0 → s.heap = H → meth.sig.returnType = M.2.2.2.1 → meth.locks = false → lv_has ls M.2.2.1 (lv_args 0 vals) → W p l e (ai_rm d) s m vals.toArray below meth c s.heap [] 0 0 (MQ below (jd_Q H S) vals.toArray s 0 0 A) (F0 m 0 ls [])) :
    Met l M.1 (ai_ws M) (ai_rm d) (va_Pc vals (jd_P D tys A aK aV H)) (jd_Q H S) 0 0 A := by
  refine Met.ofW (cc := M.2.1) (maxL := M.2.2.1) (ret := M.2.2.2.1) hpl rfl ?_
  intro p e s m args below meth c s₁ B hml hv
  obtain ⟨rfl, hH, hK, hJ⟩ := hv
  have hts := atoms_spec (ws := ai_ws M) B.pre
  have hown := findClass_of_methodNamed B.named
  have hl := lv_entry vals (n := M.2.2.1) hw
  rw [lg_entry_eq]
  exact walk ⟨B.exec, B.bytes, hml, hown, fun w h => hts w (List.mem_cons_of_mem _ h), hK, hJ, Nat.le_refl _, Nat.le_refl _, Nat.zero_le _, Nat.zero_le _⟩ hH B.returns B.notSynchronized hl
section JDK
variable {M : ai_m} {d : Nat} {p : Program} {l : Launch} {e : Env} {R : Room} {s : State} {m : MethodId} {args : Array Value} {below : List Frame} {meth : Method} {c : Code} {D : va_G} {tys : ai_ty} {A : Nat → Prop} {aK aV : Nat → Nat} {H : Heap} {locs : List Loc} {cells slots : Nat} {Q : State → Prop} {pc : Nat} {ls : Array Slot} {rest : List Value} {S : Option Value → Prop}
theorem jd_PB {vals : List Value} : FrameBlind (va_Pc vals (jd_P D tys A aK aV H)) := fun a U g mk q => by
  obtain ⟨q0, q1, qK, qJ⟩ := q
  exact ⟨q0, q1, va_K.moved (u := U) (U := U.calling g mk a) (Vm.Alike.refl U.vm) qK, ai_jt.same (s := U) (U := U.calling g mk a) rfl rfl qJ⟩
theorem jd_PW (C : jd_C M d p R s m args c D tys A aK aV cells slots) {vals : List Value} (hS : va_S A s.heap H locs) : ∀ U : State, U.heap = H → s.WarmedH U.vm → va_Pc vals (jd_P D tys A aK aV H) vals.toArray U := fun U hU hW =>
  ⟨rfl, hU, va_K.moved hW.alike C.K, C.J.moved hW (by rw [hU]; exact hS)⟩
theorem jd_rm (C : jd_C M d p R s m args c D tys A aK aV cells slots) (h1 : 1 ≤ d) {M' : ai_m} (h2 : M'.2.2.1 ≤ 17) : (ai_rm (d - 1)).frames + 1 ≤ R.frames ∧ 8 + (M'.2.2.1 + 11) + (ai_rm (d - 1)).locals ≤ R.locals := by
  have a := C.fr
  have b := C.lc
  show d - 1 + 1 ≤ _ ∧ 8 + (M'.2.2.1 + 11) + 36 * (d - 1) ≤ _
  omega
/-- a call that changes nothing -/
theorem jd_V {M' : ai_m} {cls : String} {index a : Nat} {As : List Value} {n : Nat} (C : jd_C M d p R s m args c D tys A aK aV cells slots) (hS : va_S A s.heap H locs) (h1 : 1 ≤ d) (h2 : M'.2.2.1 ≤ 17) (h3 : (rest.map fun v => v.category).sum ≤ 8) (good : GoodIn ai_GT (wsV M.1.cls index cls M'.1 (ai_ws M'))) (hy : M'.1.cls = cls ∧ M'.1.cls ≠ "java/lang/invoke/MethodHandle" ∧ M'.1.cls ≠ "java/lang/invoke/VarHandle" ∧ (parseMethodDescriptor M'.1.desc).map (fun d => d.parameters.length) = some n)
    (recv : ∃ cell : Cell, H[a]? = some cell ∧ cell.vm.isStatics = false ∧ s.vm.findClass cls = some cell.cls) (met : Met l M'.1 (ai_ws M') (ai_rm (d - 1)) (va_Pc (.ref a :: As) (jd_P D tys A aK aV H)) (jd_Q H S) 0 0 A) (hlen : As.length = n) (hl : ls.size = M.2.2.1) {stk : List Value} (hstk : stk = As.reverse ++ .ref a :: rest) (hd : decode M.2.1 pc = .ok (.invokevirtual index, 3))
    (kk : ∀ (v : Option Value) (locs' : List Loc), S v → va_S A s.heap H locs' → W p l e R s m args below meth c H locs' cells slots Q (F0 m (pc + 3) ls (v.toList ++ rest))) : W p l e R s m args below meth c H locs cells slots Q (F0 m pc ls stk) := by
  subst hstk
  refine ai_callW (Qa := jd_Q H S (Value.ref a :: As).toArray) (free := A) (va_runV (C := cls) (As := As) (rest := rest) (Ts := ai_GT) (own := M.1.cls) ⟨C.x, C.b, C.ml, C.own, C.ts⟩ met (cwV n C.ts good rfl rfl rfl hy (jd_rm C h1 h2)) ⟨jd_PB, recv, jd_PW C hS⟩ rfl hlen hl rfl (lv_room h3) hd ⟨C.ce, C.sl⟩) ?_
  intro v st₀ t L h0 hL hq
  obtain ⟨v', e1, e2, e3⟩ := hq
  cases e1
  rw [e3]
  exact kk v (locs ++ L) e2 ⟨hS.1, hS.2.1, fun q hq => by
    rcases List.mem_append.mp hq with h | h
    · exact hS.2.2 q h
    · exact hL q h⟩
theorem jd_S {M' : ai_m} {index : Nat} {As : List Value} {n : Nat} (C : jd_C M d p R s m args c D tys A aK aV cells slots) (hS : va_S A s.heap H locs) (h1 : 1 ≤ d) (h2 : M'.2.2.1 ≤ 17) (h3 : (rest.map fun v => v.category).sum ≤ 8) (good : GoodIn ai_GT (va_wsS M.1.cls index M'.1 (ai_ws M'))) (hy : M'.1.cls ≠ "java/lang/invoke/MethodHandle" ∧ M'.1.cls ≠ "java/lang/invoke/VarHandle" ∧ (parseMethodDescriptor M'.1.desc).map (fun d => d.parameters.length) = some n)
    (met : Met l M'.1 (ai_ws M') (ai_rm (d - 1)) (va_Pc As (jd_P D tys A aK aV H)) (jd_Q H S) 0 0 A) (hlen : As.length = n) (hl : ls.size = M.2.2.1) {stk : List Value} (hstk : stk = As.reverse ++ rest) (hd : decode M.2.1 pc = .ok (.invokestatic index, 3))
    (kk : ∀ (v : Option Value) (locs' : List Loc), S v → va_S A s.heap H locs' → W p l e R s m args below meth c H locs' cells slots Q (F0 m (pc + 3) ls (v.toList ++ rest))) : W p l e R s m args below meth c H locs cells slots Q (F0 m pc ls stk) := by
  subst hstk
  refine ai_callW (Qa := jd_Q H S As.toArray) (free := A) (va_runS (As := As) (rest := rest) (Ts := ai_GT) (own := M.1.cls) ⟨C.x, C.b, C.ml, C.own, C.ts⟩ met (va_cwS n C.ts good rfl rfl rfl hy (jd_rm C h1 h2)) ⟨jd_PB, jd_PW C hS⟩ rfl hlen hl rfl (lv_room h3) hd ⟨C.ce, C.sl⟩) ?_
  intro v st₀ t L h0 hL hq
  obtain ⟨v', e1, e2, e3⟩ := hq
  cases e1
  rw [e3]
  exact kk v (locs ++ L) e2 ⟨hS.1, hS.2.1, fun q hq => by
    rcases List.mem_append.mp hq with h | h
    · exact hS.2.2 q h
    · exact hL q h⟩
theorem jd_gV {own cls : String} {index : Nat} {M' : ai_m} (hc : Cond.code M'.1 M'.2.1 M'.2.2.1 M'.2.2.2.1 ∈ ai_GT) (h1 : Cond.methodLink own index M'.1 ∈ ai_GT) (h2 : Cond.instanceMethod M'.1 ∈ ai_GT) (h3 : Cond.selects cls M'.1 M'.1 ∈ ai_GT) (h4 : Cond.initialized cls ∈ ai_GT) : GoodIn ai_GT (wsV own index cls M'.1 (ai_ws M')) := tv_good fun w hw => by
  unfold wsV at hw
  rcases List.mem_append.mp hw with hw | hw
  · simp only [List.mem_cons, List.not_mem_nil, or_false] at hw
    rcases hw with rfl | rfl | rfl | rfl
    · exact h1
    · exact h2
    · exact h3
    · exact h4
  · rcases List.mem_cons.mp hw with rfl | hw
    · exact hc
    · exact hw
theorem jd_gS {own : String} {index : Nat} {M' : ai_m} (hc : Cond.code M'.1 M'.2.1 M'.2.2.1 M'.2.2.2.1 ∈ ai_GT) (h1 : Cond.methodLink own index M'.1 ∈ ai_GT) (h2 : Cond.static M'.1 ∈ ai_GT) (h4 : Cond.initialized M'.1.cls ∈ ai_GT) : GoodIn ai_GT (va_wsS own index M'.1 (ai_ws M')) := tv_good fun w hw => by
  unfold va_wsS at hw
  rcases List.mem_append.mp hw with hw | hw
  · simp only [List.mem_cons, List.not_mem_nil, or_false] at hw
    rcases hw with rfl | rfl | rfl
    · exact h1
    · exact h2
    · exact h4
  · rcases List.mem_cons.mp hw with rfl | hw
    · exact hc
    · exact hw
end JDK
def jm_coder : ai_m := jm yJ0_coder_7d493 cJ0_coder_7d493 1 (some .byte)
set_option maxRecDepth 100000 in
theorem jc_coder : Cond.code yJ0_coder_7d493 cJ0_coder_7d493 1 (some .byte) ∈ ai_GT := List.mem_filter.mpr ⟨List.mem_of_getElem? (i := 342) rfl, rfl⟩
def jm_len : ai_m := jm yJ0_length_8abf5 cJ0_length_8abf5 1 (some .int)
set_option maxRecDepth 100000 in
theorem jc_len : Cond.code yJ0_length_8abf5 cJ0_length_8abf5 1 (some .int) ∈ ai_GT := List.mem_filter.mpr ⟨List.mem_of_getElem? (i := 338) rfl, rfl⟩
def jm_lat : ai_m := jm yJ0_isLatin1_aae02 cJ0_isLatin1_aae02 1 (some .boolean)
set_option maxRecDepth 100000 in
theorem jc_lat : Cond.code yJ0_isLatin1_aae02 cJ0_isLatin1_aae02 1 (some .boolean) ∈ ai_GT := List.mem_filter.mpr ⟨List.mem_of_getElem? (i := 352) rfl, rfl⟩
def jm_pre : ai_m := jm yJ3_checkIndex_8e157 cJ3_checkIndex_8e157 3 (some .int)
set_option maxRecDepth 100000 in
theorem jc_pre : Cond.code yJ3_checkIndex_8e157 cJ3_checkIndex_8e157 3 (some .int) ∈ ai_GT := List.mem_filter.mpr ⟨List.mem_of_getElem? (i := 363) rfl, rfl⟩
def jm_chk : ai_m := jm yJ0_checkIndex_df160 cJ0_checkIndex_df160 2 none
set_option maxRecDepth 100000 in
theorem jc_chk : Cond.code yJ0_checkIndex_df160 cJ0_checkIndex_df160 2 none ∈ ai_GT := List.mem_filter.mpr ⟨List.mem_of_getElem? (i := 358) rfl, rfl⟩
def jm_cl : ai_m := jm yJ1_charAt_3b067 cJ1_charAt_3b067 2 (some .char)
set_option maxRecDepth 100000 in
theorem jc_cl : Cond.code yJ1_charAt_3b067 cJ1_charAt_3b067 2 (some .char) ∈ ai_GT := List.mem_filter.mpr ⟨List.mem_of_getElem? (i := 355) rfl, rfl⟩
def jm_ca : ai_m := jm yJ0_charAt_5068e cJ0_charAt_5068e 2 (some .char)
set_option maxRecDepth 100000 in
theorem jc_ca : Cond.code yJ0_charAt_5068e cJ0_charAt_5068e 2 (some .char) ∈ ai_GT := List.mem_filter.mpr ⟨List.mem_of_getElem? (i := 348) rfl, rfl⟩
def jm_sp : ai_m := jm yX2_spelling cX2_spelling 1 (some (.object "java/lang/String"))
set_option maxRecDepth 100000 in
theorem jc_sp : Cond.code yX2_spelling cX2_spelling 1 (some (.object "java/lang/String")) ∈ ai_GT := List.mem_filter.mpr ⟨List.mem_of_getElem? (i := 323) rfl, rfl⟩
def jm_is : ai_m := jm yX2_isWord cX2_isWord 3 (some .boolean)
set_option maxRecDepth 100000 in
theorem jc_is : Cond.code yX2_isWord cX2_isWord 3 (some .boolean) ∈ ai_GT := List.mem_filter.mpr ⟨List.mem_of_getElem? (i := 334) rfl, rfl⟩
theorem jg_coder : GoodIn ai_GT (wsV RJ0 335 RJ0 yJ0_coder_7d493 (ai_ws jm_coder)) := jd_gV (M' := jm_coder) jc_coder (tw_mem (i := 339) (by decide +kernel) : (.methodLink RJ0 335 yJ0_coder_7d493 : Cond) ∈ ai_GT) (tw_mem (i := 340) (by decide +kernel) : (.instanceMethod yJ0_coder_7d493 : Cond) ∈ ai_GT) (tw_mem (i := 341) (by decide +kernel) : (.selects RJ0 yJ0_coder_7d493 yJ0_coder_7d493 : Cond) ∈ ai_GT) (tw_mem (i := 59) (by decide +kernel) : (.initialized RJ0 : Cond) ∈ ai_GT)
theorem jg_lat : GoodIn ai_GT (wsV RJ0 492 RJ0 yJ0_isLatin1_aae02 (ai_ws jm_lat)) := jd_gV (M' := jm_lat) jc_lat (tw_mem (i := 349) (by decide +kernel) : (.methodLink RJ0 492 yJ0_isLatin1_aae02 : Cond) ∈ ai_GT) (tw_mem (i := 350) (by decide +kernel) : (.instanceMethod yJ0_isLatin1_aae02 : Cond) ∈ ai_GT) (tw_mem (i := 351) (by decide +kernel) : (.selects RJ0 yJ0_isLatin1_aae02 yJ0_isLatin1_aae02 : Cond) ∈ ai_GT) (tw_mem (i := 59) (by decide +kernel) : (.initialized RJ0 : Cond) ∈ ai_GT)
theorem jg_pre : GoodIn ai_GT (va_wsS RJ0 1059 yJ3_checkIndex_8e157 (ai_ws jm_pre)) := jd_gS (M' := jm_pre) jc_pre (tw_mem (i := 361) (by decide +kernel) : (.methodLink RJ0 1059 yJ3_checkIndex_8e157 : Cond) ∈ ai_GT) (tw_mem (i := 362) (by decide +kernel) : (.static yJ3_checkIndex_8e157 : Cond) ∈ ai_GT) (tw_mem (i := 61) (by decide +kernel) : (.initialized RJ3 : Cond) ∈ ai_GT)
theorem jg_chk : GoodIn ai_GT (va_wsS RJ1 9 yJ0_checkIndex_df160 (ai_ws jm_chk)) := jd_gS (M' := jm_chk) jc_chk (tw_mem (i := 356) (by decide +kernel) : (.methodLink RJ1 9 yJ0_checkIndex_df160 : Cond) ∈ ai_GT) (tw_mem (i := 357) (by decide +kernel) : (.static yJ0_checkIndex_df160 : Cond) ∈ ai_GT) (tw_mem (i := 59) (by decide +kernel) : (.initialized RJ0 : Cond) ∈ ai_GT)
theorem jg_cl : GoodIn ai_GT (va_wsS RJ0 495 yJ1_charAt_3b067 (ai_ws jm_cl)) := jd_gS (M' := jm_cl) jc_cl (tw_mem (i := 353) (by decide +kernel) : (.methodLink RJ0 495 yJ1_charAt_3b067 : Cond) ∈ ai_GT) (tw_mem (i := 354) (by decide +kernel) : (.static yJ1_charAt_3b067 : Cond) ∈ ai_GT) (tw_mem (i := 60) (by decide +kernel) : (.initialized RJ1 : Cond) ∈ ai_GT)
theorem jg_len : GoodIn ai_GT (wsV RX2 141 RJ0 yJ0_length_8abf5 (ai_ws jm_len)) := jd_gV (M' := jm_len) jc_len (tw_mem (i := 335) (by decide +kernel) : (.methodLink RX2 141 yJ0_length_8abf5 : Cond) ∈ ai_GT) (tw_mem (i := 336) (by decide +kernel) : (.instanceMethod yJ0_length_8abf5 : Cond) ∈ ai_GT) (tw_mem (i := 337) (by decide +kernel) : (.selects RJ0 yJ0_length_8abf5 yJ0_length_8abf5 : Cond) ∈ ai_GT) (tw_mem (i := 59) (by decide +kernel) : (.initialized RJ0 : Cond) ∈ ai_GT)
theorem jg_ca : GoodIn ai_GT (wsV RX2 145 RJ0 yJ0_charAt_5068e (ai_ws jm_ca)) := jd_gV (M' := jm_ca) jc_ca (tw_mem (i := 345) (by decide +kernel) : (.methodLink RX2 145 yJ0_charAt_5068e : Cond) ∈ ai_GT) (tw_mem (i := 346) (by decide +kernel) : (.instanceMethod yJ0_charAt_5068e : Cond) ∈ ai_GT) (tw_mem (i := 347) (by decide +kernel) : (.selects RJ0 yJ0_charAt_5068e yJ0_charAt_5068e : Cond) ∈ ai_GT) (tw_mem (i := 59) (by decide +kernel) : (.initialized RJ0 : Cond) ∈ ai_GT)
theorem jg_sp : GoodIn ai_GT (va_wsS RX2 133 yX2_spelling (ai_ws jm_sp)) := jd_gS (M' := jm_sp) jc_sp (tw_mem (i := 321) (by decide +kernel) : (.methodLink RX2 133 yX2_spelling : Cond) ∈ ai_GT) (tw_mem (i := 322) (by decide +kernel) : (.static yX2_spelling : Cond) ∈ ai_GT) (tw_mem (i := 54) (by decide +kernel) : (.initialized RX2 : Cond) ∈ ai_GT)
theorem jg_is : GoodIn ai_GT (wsV RX2 137 RX2 yX2_isWord (ai_ws jm_is)) := jd_gV (M' := jm_is) jc_is (tw_mem (i := 331) (by decide +kernel) : (.methodLink RX2 137 yX2_isWord : Cond) ∈ ai_GT) (tw_mem (i := 333) (by decide +kernel) : (.instanceMethod yX2_isWord : Cond) ∈ ai_GT) (tw_mem (i := 5) (by decide +kernel) : (.selects RX2 yX2_isWord yX2_isWord : Cond) ∈ ai_GT) (tw_mem (i := 54) (by decide +kernel) : (.initialized RX2 : Cond) ∈ ai_GT)
theorem jd_coder (l : Launch) {d : Nat} {D : va_G} {tys : ai_ty} {A : Nat → Prop} {aK aV : Nat → Nat} {H : Heap} {i : Nat} (hi : i < 7) : Met l yJ0_coder_7d493 (ai_ws jm_coder) (ai_rm d) (va_Pc [.ref (aK i)] (jd_P D tys A aK aV H)) (jd_Q H (fun v => v = some (.int 0))) 0 0 A := by
  refine jd_met (M := jm_coder) l (by decide) (by first | exact Nat.le_refl _ | exact Nat.le_of_ble_eq_true rfl) ?_
  intro p e s m below meth c ls C hH hr hlk hl
  have hS : va_S A s.heap s.heap [] := va_S.rf
  have hr : meth.sig.returnType = (some .byte) := hr
  have hl : lv_has ls 1 [(0, .ref (aK i))] := hl
  refine va_gets C.x C.b C.J.2.2.1 hS C.own (C.ts _ (tw_mem (i := 343) (by decide +kernel) : (.fieldLink RJ0 38 "java/lang/String" "COMPACT_STRINGS" "Z" : Cond) ∈ ai_GT)) (fun _ h => h) (by decide +kernel : decode cJ0_coder_7d493 0 = .ok (.getstatic 38, 3)) ?_
  refine lv_if_eq C.x C.b (by decide +kernel : decode cJ0_coder_7d493 3 = .ok (.ifCond .eq 10, 3)) (tgt := 13) (by decide) (fun h => absurd h (by decide)) (fun _ => ?_)
  refine lv_aload_n C.x C.b (by decide +kernel : decode cJ0_coder_7d493 6 = .ok (.aload_n 0, 1)) rfl (lv_at hl 0 rfl) ?_
  refine vk_getf C.x C.b (C.J.1.1 i hi).2.1 hS C.own (C.ts _ (tw_mem (i := 1133) (by decide +kernel) : (.fieldLink RJ0 15 "java/lang/String" "coder" "B" : Cond) ∈ ai_GT)) (fun _ h => h) (by decide +kernel : decode cJ0_coder_7d493 7 = .ok (.getfield 15, 3)) ?_
  refine lv_goto C.x C.b (by decide +kernel : decode cJ0_coder_7d493 10 = .ok (.goto 4, 3)) (tgt := 14) (by decide) ?_
  exact W.zret C.x C.b hr rfl (fun t ht hW => ⟨_, rfl, rfl, by rw [ht]; exact hH⟩) hS.2.2 (by decide +kernel : decode cJ0_coder_7d493 14 = .ok (.ireturn, 1)) hlk
theorem jd_lat (l : Launch) {d : Nat} {D : va_G} {tys : ai_ty} {A : Nat → Prop} {aK aV : Nat → Nat} {H : Heap} {i : Nat} (hi : i < 7) : Met l yJ0_isLatin1_aae02 (ai_ws jm_lat) (ai_rm d) (va_Pc [.ref (aK i)] (jd_P D tys A aK aV H)) (jd_Q H (fun v => v = some (.int 1))) 0 0 A := by
  refine jd_met (M := jm_lat) l (by decide) (by first | exact Nat.le_refl _ | exact Nat.le_of_ble_eq_true rfl) ?_
  intro p e s m below meth c ls C hH hr hlk hl
  have hS : va_S A s.heap s.heap [] := va_S.rf
  have hr : meth.sig.returnType = (some .boolean) := hr
  have hl : lv_has ls 1 [(0, .ref (aK i))] := hl
  refine va_gets C.x C.b C.J.2.2.1 hS C.own (C.ts _ (tw_mem (i := 343) (by decide +kernel) : (.fieldLink RJ0 38 "java/lang/String" "COMPACT_STRINGS" "Z" : Cond) ∈ ai_GT)) (fun _ h => h) (by decide +kernel : decode cJ0_isLatin1_aae02 0 = .ok (.getstatic 38, 3)) ?_
  refine lv_if_eq C.x C.b (by decide +kernel : decode cJ0_isLatin1_aae02 3 = .ok (.ifCond .eq 14, 3)) (tgt := 17) (by decide) (fun h => absurd h (by decide)) (fun _ => ?_)
  refine lv_aload_n C.x C.b (by decide +kernel : decode cJ0_isLatin1_aae02 6 = .ok (.aload_n 0, 1)) rfl (lv_at hl 0 rfl) ?_
  refine vk_getf C.x C.b (C.J.1.1 i hi).2.1 hS C.own (C.ts _ (tw_mem (i := 1133) (by decide +kernel) : (.fieldLink RJ0 15 "java/lang/String" "coder" "B" : Cond) ∈ ai_GT)) (fun _ h => h) (by decide +kernel : decode cJ0_isLatin1_aae02 7 = .ok (.getfield 15, 3)) ?_
  refine lv_if_ne C.x C.b (by decide +kernel : decode cJ0_isLatin1_aae02 10 = .ok (.ifCond .ne 7, 3)) (tgt := 17) (by decide) (fun h => absurd rfl h) (fun _ => ?_)
  refine lv_iconst C.x C.b (by decide +kernel : decode cJ0_isLatin1_aae02 13 = .ok (.iconst 1, 1)) (v := 1) rfl ?_
  refine lv_goto C.x C.b (by decide +kernel : decode cJ0_isLatin1_aae02 14 = .ok (.goto 4, 3)) (tgt := 18) (by decide) ?_
  exact W.zret C.x C.b hr rfl (fun t ht hW => ⟨_, rfl, rfl, by rw [ht]; exact hH⟩) hS.2.2 (by decide +kernel : decode cJ0_isLatin1_aae02 18 = .ok (.ireturn, 1)) hlk
theorem jd_len (l : Launch) {d : Nat} {D : va_G} {tys : ai_ty} {A : Nat → Prop} {aK aV : Nat → Nat} {H : Heap} {i : Nat} (hi : i < 7) (hd : 1 ≤ d) : Met l yJ0_length_8abf5 (ai_ws jm_len) (ai_rm d) (va_Pc [.ref (aK i)] (jd_P D tys A aK aV H)) (jd_Q H (fun v => v = some (.int (Int32.ofNat (ai_JL.getD i 0))))) 0 0 A := by
  refine jd_met (M := jm_len) l (by decide) (by first | exact Nat.le_refl _ | exact Nat.le_of_ble_eq_true rfl) ?_
  intro p e s m below meth c ls C hH hr hlk hl
  have hS : va_S A s.heap s.heap [] := va_S.rf
  have hr : meth.sig.returnType = (some .int) := hr
  have hl : lv_has ls 1 [(0, .ref (aK i))] := hl
  refine lv_aload_n C.x C.b (by decide +kernel : decode cJ0_length_8abf5 0 = .ok (.aload_n 0, 1)) rfl (lv_at hl 0 rfl) ?_
  refine vk_getf C.x C.b (C.J.1.1 i hi).2.2.1 hS C.own (C.ts _ (tw_mem (i := 1132) (by decide +kernel) : (.fieldLink RJ0 9 "java/lang/String" "value" "[B" : Cond) ∈ ai_GT)) (fun _ h => h) (by decide +kernel : decode cJ0_length_8abf5 1 = .ok (.getfield 9, 3)) ?_
  refine va_tlen C.x C.b (C.J.1.1 i hi).2.2.2 hS rfl (by decide +kernel : decode cJ0_length_8abf5 4 = .ok (.arraylength, 1)) ?_
  refine lv_aload_n C.x C.b (by decide +kernel : decode cJ0_length_8abf5 5 = .ok (.aload_n 0, 1)) rfl (lv_at hl 0 rfl) ?_
  refine jd_V (M' := jm_coder) (As := []) C hS hd (by decide) (Nat.le_of_ble_eq_true rfl) jg_coder (by decide +kernel) (vk_recv C.J.1 hi hS) (jd_coder l hi) rfl hl.1 rfl (by decide +kernel : decode cJ0_length_8abf5 6 = .ok (.invokevirtual 335, 3)) (fun v locs' hv hS' => ?_)
  subst hv
  refine lv_ishr C.x C.b (by decide +kernel : decode cJ0_length_8abf5 9 = .ok (.ishr, 1)) ?_
  exact W.iret C.x C.b hr (fun t ht hW => ⟨_, rfl, by rw [(by decide : ∀ i, i < 7 → (Int32.ofNat (ai_JL.getD i 0)) >>> ((0 : Int32) &&& 31) = Int32.ofNat (ai_JL.getD i 0)) i hi], by rw [ht]; exact hH⟩) hS'.2.2 (by decide +kernel : decode cJ0_length_8abf5 10 = .ok (.ireturn, 1)) hlk
theorem jd_pre (l : Launch) {d : Nat} {D : va_G} {tys : ai_ty} {A : Nat → Prop} {aK aV : Nat → Nat} {H : Heap} {k n : Int32} {f : Value} (hf : (lg_sl [.int k, .int n, f]).length ≤ 3) (h1 : ¬ k < 0) (h2 : k < n) : Met l yJ3_checkIndex_8e157 (ai_ws jm_pre) (ai_rm d) (va_Pc [.int k, .int n, f] (jd_P D tys A aK aV H)) (jd_Q H (fun v => v = some (.int k))) 0 0 A := by
  refine jd_met (M := jm_pre) l (by decide) hf ?_
  intro p e s m below meth c ls C hH hr hlk hl
  have hS : va_S A s.heap s.heap [] := va_S.rf
  have hr : meth.sig.returnType = some .int := hr
  refine lv_iload_n C.x C.b (by decide +kernel : decode cJ3_checkIndex_8e157 0 = .ok (.iload_n 0, 1)) rfl (lv_at hl 0 rfl) ?_
  refine lv_if_lt C.x C.b (by decide +kernel : decode cJ3_checkIndex_8e157 1 = .ok (.ifCond .lt 8, 3)) (tgt := 9) (by decide) (fun h => absurd h h1) (fun _ => ?_)
  refine lv_iload_n C.x C.b (by decide +kernel : decode cJ3_checkIndex_8e157 4 = .ok (.iload_n 0, 1)) rfl (lv_at hl 0 rfl) ?_
  refine lv_iload_n C.x C.b (by decide +kernel : decode cJ3_checkIndex_8e157 5 = .ok (.iload_n 1, 1)) rfl (lv_at hl 1 rfl) ?_
  refine lv_icmp_lt C.x C.b (by decide +kernel : decode cJ3_checkIndex_8e157 6 = .ok (.if_icmp .lt 10, 3)) (tgt := 16) (by decide) (fun _ => ?_) (fun h => absurd h2 h)
  refine lv_iload_n C.x C.b (by decide +kernel : decode cJ3_checkIndex_8e157 16 = .ok (.iload_n 0, 1)) rfl (lv_at hl 0 rfl) ?_
  exact W.iret C.x C.b hr (fun t ht hW => ⟨_, rfl, rfl, by rw [ht]; exact hH⟩) hS.2.2 (by decide +kernel : decode cJ3_checkIndex_8e157 17 = .ok (.ireturn, 1)) hlk
theorem jd_chk (l : Launch) {d : Nat} {D : va_G} {tys : ai_ty} {A : Nat → Prop} {aK aV : Nat → Nat} {H : Heap} {k n : Int32} (h1 : ¬ k < 0) (h2 : k < n) (hd : 1 ≤ d) : Met l yJ0_checkIndex_df160 (ai_ws jm_chk) (ai_rm d) (va_Pc [.int k, .int n] (jd_P D tys A aK aV H)) (jd_Q H (fun v => v = none)) 0 0 A := by
  refine jd_met (M := jm_chk) l (by decide) (by first | exact Nat.le_refl _ | exact Nat.le_of_ble_eq_true rfl) ?_
  intro p e s m below meth c ls C hH hr hlk hl
  have hS : va_S A s.heap s.heap [] := va_S.rf
  have hr : meth.sig.returnType = none := hr
  have hl : lv_has ls 2 [(0, .int k), (1, .int n)] := hl
  rcases C.J.2.2.2 with hz | ⟨q, hz⟩
  · refine lv_iload_n C.x C.b (by decide +kernel : decode cJ0_checkIndex_df160 0 = .ok (.iload_n 0, 1)) rfl (lv_at hl 0 rfl) ?_
    refine lv_iload_n C.x C.b (by decide +kernel : decode cJ0_checkIndex_df160 1 = .ok (.iload_n 1, 1)) rfl (lv_at hl 1 rfl) ?_
    refine va_gets C.x C.b hz hS C.own (C.ts _ (tw_mem (i := 359) (by decide +kernel) : (.fieldLink RJ0 1053 "jdk/internal/util/Preconditions" "SIOOBE_FORMATTER" "Ljava/util/function/BiFunction;" : Cond) ∈ ai_GT)) (fun _ h => h) (by decide +kernel : decode cJ0_checkIndex_df160 2 = .ok (.getstatic 1053, 3)) ?_
    refine jd_S (M' := jm_pre) (n := 3) (As := [.int k, .int n, .null]) (rest := []) C hS hd (by decide) (Nat.le_of_ble_eq_true rfl) jg_pre (by decide +kernel) (jd_pre l (Nat.le_of_ble_eq_true rfl) h1 h2) rfl hl.1 rfl (by decide +kernel : decode cJ0_checkIndex_df160 5 = .ok (.invokestatic 1059, 3)) (fun v locs' hv hS' => ?_)
    subst hv
    refine lv_pop C.x C.b (by decide +kernel : decode cJ0_checkIndex_df160 8 = .ok (.pop, 1)) rfl ?_
    exact W.vret C.x C.b hr (fun t ht hW => ⟨_, rfl, rfl, by rw [ht]; exact hH⟩) hS'.2.2 (by decide +kernel : decode cJ0_checkIndex_df160 9 = .ok (.return_, 1)) hlk
  · refine lv_iload_n C.x C.b (by decide +kernel : decode cJ0_checkIndex_df160 0 = .ok (.iload_n 0, 1)) rfl (lv_at hl 0 rfl) ?_
    refine lv_iload_n C.x C.b (by decide +kernel : decode cJ0_checkIndex_df160 1 = .ok (.iload_n 1, 1)) rfl (lv_at hl 1 rfl) ?_
    refine va_gets C.x C.b hz hS C.own (C.ts _ (tw_mem (i := 359) (by decide +kernel) : (.fieldLink RJ0 1053 "jdk/internal/util/Preconditions" "SIOOBE_FORMATTER" "Ljava/util/function/BiFunction;" : Cond) ∈ ai_GT)) (fun _ h => h) (by decide +kernel : decode cJ0_checkIndex_df160 2 = .ok (.getstatic 1053, 3)) ?_
    refine jd_S (M' := jm_pre) (n := 3) (As := [.int k, .int n, .ref q]) (rest := []) C hS hd (by decide) (Nat.le_of_ble_eq_true rfl) jg_pre (by decide +kernel) (jd_pre l (Nat.le_of_ble_eq_true rfl) h1 h2) rfl hl.1 rfl (by decide +kernel : decode cJ0_checkIndex_df160 5 = .ok (.invokestatic 1059, 3)) (fun v locs' hv hS' => ?_)
    subst hv
    refine lv_pop C.x C.b (by decide +kernel : decode cJ0_checkIndex_df160 8 = .ok (.pop, 1)) rfl ?_
    exact W.vret C.x C.b hr (fun t ht hW => ⟨_, rfl, rfl, by rw [ht]; exact hH⟩) hS'.2.2 (by decide +kernel : decode cJ0_checkIndex_df160 9 = .ok (.return_, 1)) hlk

theorem jd_in {k N : Nat} (h : k < N) (hN : N < 256) : ¬ Int32.ofNat k < 0 ∧ Int32.ofNat k < Int32.ofNat N ∧ vp_in (Int32.ofNat k) N ∧ (Int32.ofNat k).toNatClampNeg = k := ⟨nI_pos (by omega), nI_lt h (by omega), vp_in_nI h (by omega), nI_clamp (by omega)⟩
def ai_jb (i k : Nat) : Int32 := (ai_JB.getD i []).getD k 0
theorem jd_b : ∀ i, i < 7 → ai_JL.getD i 0 < 256 ∧ ∀ k, k < ai_JL.getD i 0 → (((ai_jb i k) &&& 255).toUInt32 % 65536).toInt32 = ai_jb i k := by decide
theorem jd_cl (l : Launch) {d : Nat} {D : va_G} {tys : ai_ty} {A : Nat → Prop} {aK aV : Nat → Nat} {H : Heap} {i k : Nat} (hi : i < 7) (hk : k < ai_JL.getD i 0) (hd : 2 ≤ d) : Met l yJ1_charAt_3b067 (ai_ws jm_cl) (ai_rm d) (va_Pc [.ref (aV i), .int (Int32.ofNat k)] (jd_P D tys A aK aV H)) (jd_Q H (fun v => v = some (.int (ai_jb i k)))) 0 0 A := by
  refine jd_met (M := jm_cl) l (by decide) (by first | exact Nat.le_refl _ | exact Nat.le_of_ble_eq_true rfl) ?_
  intro p e s m below meth c ls C hH hr hlk hl
  have hS : va_S A s.heap s.heap [] := va_S.rf
  have hr : meth.sig.returnType = (some .char) := hr
  have hl : lv_has ls 2 [(0, .ref (aV i)), (1, .int (Int32.ofNat k))] := hl
  obtain ⟨hb1, hb2⟩ := jd_b i hi
  obtain ⟨i1, i2, i3, i4⟩ := jd_in hk hb1
  refine lv_iload_n C.x C.b (by decide +kernel : decode cJ1_charAt_3b067 0 = .ok (.iload_n 1, 1)) rfl (lv_at hl 1 rfl) ?_
  refine lv_aload_n C.x C.b (by decide +kernel : decode cJ1_charAt_3b067 1 = .ok (.aload_n 0, 1)) rfl (lv_at hl 0 rfl) ?_
  refine va_tlen C.x C.b (C.J.1.1 i hi).2.2.2 hS rfl (by decide +kernel : decode cJ1_charAt_3b067 2 = .ok (.arraylength, 1)) ?_
  refine jd_S (M' := jm_chk) (n := 2) (As := [.int (Int32.ofNat k), .int (Int32.ofNat (ai_JL.getD i 0))]) (rest := []) C hS (by omega) (by decide) (Nat.le_of_ble_eq_true rfl) jg_chk (by decide +kernel) (jd_chk l i1 i2 (by omega)) rfl hl.1 rfl (by decide +kernel : decode cJ1_charAt_3b067 3 = .ok (.invokestatic 9, 3)) (fun v locs' hv hS' => ?_)
  subst hv
  refine lv_aload_n C.x C.b (by decide +kernel : decode cJ1_charAt_3b067 6 = .ok (.aload_n 0, 1)) rfl (lv_at hl 0 rfl) ?_
  refine lv_iload_n C.x C.b (by decide +kernel : decode cJ1_charAt_3b067 7 = .ok (.iload_n 1, 1)) rfl (lv_at hl 1 rfl) ?_
  refine va_tb C.x C.b (C.J.1.1 i hi).2.2.2 hS' i3 (v := .int (ai_jb i k)) (by rw [i4]; rfl) (by decide +kernel : decode cJ1_charAt_3b067 8 = .ok (.baload, 1)) ?_
  refine lv_sipush C.x C.b (by decide +kernel : decode cJ1_charAt_3b067 9 = .ok (.sipush 255, 3)) (v := 255) rfl ?_
  refine lv_iand C.x C.b (by decide +kernel : decode cJ1_charAt_3b067 12 = .ok (.iand, 1)) ?_
  refine lv_i2c C.x C.b (by decide +kernel : decode cJ1_charAt_3b067 13 = .ok (.i2c, 1)) (v := ai_jb i k) (hb2 k hk) ?_
  exact W.zret C.x C.b hr (by rw [← hb2 k hk]; exact pk_nc _) (fun t ht hW => ⟨_, rfl, rfl, by rw [ht]; exact hH⟩) hS'.2.2 (by decide +kernel : decode cJ1_charAt_3b067 14 = .ok (.ireturn, 1)) hlk
theorem jd_ca (l : Launch) {d : Nat} {D : va_G} {tys : ai_ty} {A : Nat → Prop} {aK aV : Nat → Nat} {H : Heap} {i k : Nat} (hi : i < 7) (hk : k < ai_JL.getD i 0) (hd : 3 ≤ d) : Met l yJ0_charAt_5068e (ai_ws jm_ca) (ai_rm d) (va_Pc [.ref (aK i), .int (Int32.ofNat k)] (jd_P D tys A aK aV H)) (jd_Q H (fun v => v = some (.int (ai_jb i k)))) 0 0 A := by
  refine jd_met (M := jm_ca) l (by decide) (by first | exact Nat.le_refl _ | exact Nat.le_of_ble_eq_true rfl) ?_
  intro p e s m below meth c ls C hH hr hlk hl
  have hS : va_S A s.heap s.heap [] := va_S.rf
  have hr : meth.sig.returnType = (some .char) := hr
  have hl : lv_has ls 2 [(0, .ref (aK i)), (1, .int (Int32.ofNat k))] := hl
  obtain ⟨hb1, hb2⟩ := jd_b i hi
  refine lv_aload_n C.x C.b (by decide +kernel : decode cJ0_charAt_5068e 0 = .ok (.aload_n 0, 1)) rfl (lv_at hl 0 rfl) ?_
  refine jd_V (M' := jm_lat) (As := []) (rest := []) C hS (by omega) (by decide) (Nat.le_of_ble_eq_true rfl) jg_lat (by decide +kernel) (vk_recv C.J.1 hi hS) (jd_lat l hi) rfl hl.1 rfl (by decide +kernel : decode cJ0_charAt_5068e 1 = .ok (.invokevirtual 492, 3)) (fun v locs' hv hS' => ?_)
  subst hv
  refine lv_if_eq C.x C.b (by decide +kernel : decode cJ0_charAt_5068e 4 = .ok (.ifCond .eq 12, 3)) (tgt := 16) (by decide) (fun h => absurd h (by decide)) (fun _ => ?_)
  refine lv_aload_n C.x C.b (by decide +kernel : decode cJ0_charAt_5068e 7 = .ok (.aload_n 0, 1)) rfl (lv_at hl 0 rfl) ?_
  refine vk_getf C.x C.b (C.J.1.1 i hi).2.2.1 hS' C.own (C.ts _ (tw_mem (i := 1132) (by decide +kernel) : (.fieldLink RJ0 9 "java/lang/String" "value" "[B" : Cond) ∈ ai_GT)) (fun _ h => h) (by decide +kernel : decode cJ0_charAt_5068e 8 = .ok (.getfield 9, 3)) ?_
  refine lv_iload_n C.x C.b (by decide +kernel : decode cJ0_charAt_5068e 11 = .ok (.iload_n 1, 1)) rfl (lv_at hl 1 rfl) ?_
  refine jd_S (M' := jm_cl) (n := 2) (As := [.ref (aV i), .int (Int32.ofNat k)]) (rest := []) C hS' (by omega) (by decide) (Nat.le_of_ble_eq_true rfl) jg_cl (by decide +kernel) (jd_cl l hi hk (by omega)) rfl hl.1 rfl (by decide +kernel : decode cJ0_charAt_5068e 12 = .ok (.invokestatic 495, 3)) (fun v locs2 hv hS2 => ?_)
  subst hv
  exact W.zret C.x C.b hr (by rw [← hb2 k hk]; exact pk_nc _) (fun t ht hW => ⟨_, rfl, rfl, by rw [ht]; exact hH⟩) hS2.2.2 (by decide +kernel : decode cJ0_charAt_5068e 15 = .ok (.ireturn, 1)) hlk
theorem jd_sp0 (l : Launch) {d : Nat} {D : va_G} {tys : ai_ty} {A : Nat → Prop} {aK aV : Nat → Nat} {H : Heap} : Met l yX2_spelling (ai_ws jm_sp) (ai_rm d) (va_Pc [.int 0] (jd_P D tys A aK aV H)) (jd_Q H (fun v => v = some (.ref (aK 0)))) 0 0 A := by
  refine jd_met (M := jm_sp) l (by decide) (by first | exact Nat.le_refl _ | exact Nat.le_of_ble_eq_true rfl) ?_
  intro p e s m below meth c ls C hH hr hlk hl
  have hS : va_S A s.heap s.heap [] := va_S.rf
  have hr : meth.sig.returnType = (some (.object "java/lang/String")) := hr
  have hl : lv_has ls 1 [(0, .int 0)] := hl
  have hR : vk_R RX2 149 "plain" (aK 0) s := C.J.2.1 0 (149, "plain") rfl
  refine lv_iload_n C.x C.b (by decide +kernel : decode cX2_spelling 0 = .ok (.iload_n 0, 1)) rfl (lv_at hl 0 rfl) ?_
  refine lv_tableIn C.x C.b (by decide +kernel : decode cX2_spelling 1 = .ok (.tableswitch 57 0 5 #[39, 42, 45, 48, 51, 54], 39)) (x := 0) (by decide) (by decide) (off := 39) rfl (tgt := 40) (by decide) ?_
  refine va_ldcS C.x C.b C.own hR (by decide +kernel : decode cX2_spelling 40 = .ok (.ldc 149, 2)) ?_
  exact W.aret C.x C.b hr (Or.inl ⟨_, rfl⟩) (Or.inr ⟨_, rfl⟩) (fun t ht hW => ⟨_, rfl, rfl, by rw [ht]; exact hH⟩) hS.2.2 (by decide +kernel : decode cX2_spelling 42 = .ok (.areturn, 1)) hlk
theorem jd_sp1 (l : Launch) {d : Nat} {D : va_G} {tys : ai_ty} {A : Nat → Prop} {aK aV : Nat → Nat} {H : Heap} : Met l yX2_spelling (ai_ws jm_sp) (ai_rm d) (va_Pc [.int 1] (jd_P D tys A aK aV H)) (jd_Q H (fun v => v = some (.ref (aK 1)))) 0 0 A := by
  refine jd_met (M := jm_sp) l (by decide) (by first | exact Nat.le_refl _ | exact Nat.le_of_ble_eq_true rfl) ?_
  intro p e s m below meth c ls C hH hr hlk hl
  have hS : va_S A s.heap s.heap [] := va_S.rf
  have hr : meth.sig.returnType = (some (.object "java/lang/String")) := hr
  have hl : lv_has ls 1 [(0, .int 1)] := hl
  have hR : vk_R RX2 151 "snake" (aK 1) s := C.J.2.1 1 (151, "snake") rfl
  refine lv_iload_n C.x C.b (by decide +kernel : decode cX2_spelling 0 = .ok (.iload_n 0, 1)) rfl (lv_at hl 0 rfl) ?_
  refine lv_tableIn C.x C.b (by decide +kernel : decode cX2_spelling 1 = .ok (.tableswitch 57 0 5 #[39, 42, 45, 48, 51, 54], 39)) (x := 1) (by decide) (by decide) (off := 42) rfl (tgt := 43) (by decide) ?_
  refine va_ldcS C.x C.b C.own hR (by decide +kernel : decode cX2_spelling 43 = .ok (.ldc 151, 2)) ?_
  exact W.aret C.x C.b hr (Or.inl ⟨_, rfl⟩) (Or.inr ⟨_, rfl⟩) (fun t ht hW => ⟨_, rfl, rfl, by rw [ht]; exact hH⟩) hS.2.2 (by decide +kernel : decode cX2_spelling 45 = .ok (.areturn, 1)) hlk
theorem jd_sp2 (l : Launch) {d : Nat} {D : va_G} {tys : ai_ty} {A : Nat → Prop} {aK aV : Nat → Nat} {H : Heap} : Met l yX2_spelling (ai_ws jm_sp) (ai_rm d) (va_Pc [.int 2] (jd_P D tys A aK aV H)) (jd_Q H (fun v => v = some (.ref (aK 2)))) 0 0 A := by
  refine jd_met (M := jm_sp) l (by decide) (by first | exact Nat.le_refl _ | exact Nat.le_of_ble_eq_true rfl) ?_
  intro p e s m below meth c ls C hH hr hlk hl
  have hS : va_S A s.heap s.heap [] := va_S.rf
  have hr : meth.sig.returnType = (some (.object "java/lang/String")) := hr
  have hl : lv_has ls 1 [(0, .int 2)] := hl
  have hR : vk_R RX2 153 "sea" (aK 2) s := C.J.2.1 2 (153, "sea") rfl
  refine lv_iload_n C.x C.b (by decide +kernel : decode cX2_spelling 0 = .ok (.iload_n 0, 1)) rfl (lv_at hl 0 rfl) ?_
  refine lv_tableIn C.x C.b (by decide +kernel : decode cX2_spelling 1 = .ok (.tableswitch 57 0 5 #[39, 42, 45, 48, 51, 54], 39)) (x := 2) (by decide) (by decide) (off := 45) rfl (tgt := 46) (by decide) ?_
  refine va_ldcS C.x C.b C.own hR (by decide +kernel : decode cX2_spelling 46 = .ok (.ldc 153, 2)) ?_
  exact W.aret C.x C.b hr (Or.inl ⟨_, rfl⟩) (Or.inr ⟨_, rfl⟩) (fun t ht hW => ⟨_, rfl, rfl, by rw [ht]; exact hH⟩) hS.2.2 (by decide +kernel : decode cX2_spelling 48 = .ok (.areturn, 1)) hlk
theorem jd_sp3 (l : Launch) {d : Nat} {D : va_G} {tys : ai_ty} {A : Nat → Prop} {aK aV : Nat → Nat} {H : Heap} : Met l yX2_spelling (ai_ws jm_sp) (ai_rm d) (va_Pc [.int 3] (jd_P D tys A aK aV H)) (jd_Q H (fun v => v = some (.ref (aK 3)))) 0 0 A := by
  refine jd_met (M := jm_sp) l (by decide) (by first | exact Nat.le_refl _ | exact Nat.le_of_ble_eq_true rfl) ?_
  intro p e s m below meth c ls C hH hr hlk hl
  have hS : va_S A s.heap s.heap [] := va_S.rf
  have hr : meth.sig.returnType = (some (.object "java/lang/String")) := hr
  have hl : lv_has ls 1 [(0, .int 3)] := hl
  have hR : vk_R RX2 155 "age" (aK 3) s := C.J.2.1 3 (155, "age") rfl
  refine lv_iload_n C.x C.b (by decide +kernel : decode cX2_spelling 0 = .ok (.iload_n 0, 1)) rfl (lv_at hl 0 rfl) ?_
  refine lv_tableIn C.x C.b (by decide +kernel : decode cX2_spelling 1 = .ok (.tableswitch 57 0 5 #[39, 42, 45, 48, 51, 54], 39)) (x := 3) (by decide) (by decide) (off := 48) rfl (tgt := 49) (by decide) ?_
  refine va_ldcS C.x C.b C.own hR (by decide +kernel : decode cX2_spelling 49 = .ok (.ldc 155, 2)) ?_
  exact W.aret C.x C.b hr (Or.inl ⟨_, rfl⟩) (Or.inr ⟨_, rfl⟩) (fun t ht hW => ⟨_, rfl, rfl, by rw [ht]; exact hH⟩) hS.2.2 (by decide +kernel : decode cX2_spelling 51 = .ok (.areturn, 1)) hlk
theorem jd_sp4 (l : Launch) {d : Nat} {D : va_G} {tys : ai_ty} {A : Nat → Prop} {aK aV : Nat → Nat} {H : Heap} : Met l yX2_spelling (ai_ws jm_sp) (ai_rm d) (va_Pc [.int 4] (jd_P D tys A aK aV H)) (jd_Q H (fun v => v = some (.ref (aK 4)))) 0 0 A := by
  refine jd_met (M := jm_sp) l (by decide) (by first | exact Nat.le_refl _ | exact Nat.le_of_ble_eq_true rfl) ?_
  intro p e s m below meth c ls C hH hr hlk hl
  have hS : va_S A s.heap s.heap [] := va_S.rf
  have hr : meth.sig.returnType = (some (.object "java/lang/String")) := hr
  have hl : lv_has ls 1 [(0, .int 4)] := hl
  have hR : vk_R RX2 157 "guest" (aK 4) s := C.J.2.1 4 (157, "guest") rfl
  refine lv_iload_n C.x C.b (by decide +kernel : decode cX2_spelling 0 = .ok (.iload_n 0, 1)) rfl (lv_at hl 0 rfl) ?_
  refine lv_tableIn C.x C.b (by decide +kernel : decode cX2_spelling 1 = .ok (.tableswitch 57 0 5 #[39, 42, 45, 48, 51, 54], 39)) (x := 4) (by decide) (by decide) (off := 51) rfl (tgt := 52) (by decide) ?_
  refine va_ldcS C.x C.b C.own hR (by decide +kernel : decode cX2_spelling 52 = .ok (.ldc 157, 2)) ?_
  exact W.aret C.x C.b hr (Or.inl ⟨_, rfl⟩) (Or.inr ⟨_, rfl⟩) (fun t ht hW => ⟨_, rfl, rfl, by rw [ht]; exact hH⟩) hS.2.2 (by decide +kernel : decode cX2_spelling 54 = .ok (.areturn, 1)) hlk
theorem jd_sp5 (l : Launch) {d : Nat} {D : va_G} {tys : ai_ty} {A : Nat → Prop} {aK aV : Nat → Nat} {H : Heap} : Met l yX2_spelling (ai_ws jm_sp) (ai_rm d) (va_Pc [.int 5] (jd_P D tys A aK aV H)) (jd_Q H (fun v => v = some (.ref (aK 5)))) 0 0 A := by
  refine jd_met (M := jm_sp) l (by decide) (by first | exact Nat.le_refl _ | exact Nat.le_of_ble_eq_true rfl) ?_
  intro p e s m below meth c ls C hH hr hlk hl
  have hS : va_S A s.heap s.heap [] := va_S.rf
  have hr : meth.sig.returnType = (some (.object "java/lang/String")) := hr
  have hl : lv_has ls 1 [(0, .int 5)] := hl
  have hR : vk_R RX2 159 "laughs" (aK 5) s := C.J.2.1 5 (159, "laughs") rfl
  refine lv_iload_n C.x C.b (by decide +kernel : decode cX2_spelling 0 = .ok (.iload_n 0, 1)) rfl (lv_at hl 0 rfl) ?_
  refine lv_tableIn C.x C.b (by decide +kernel : decode cX2_spelling 1 = .ok (.tableswitch 57 0 5 #[39, 42, 45, 48, 51, 54], 39)) (x := 5) (by decide) (by decide) (off := 54) rfl (tgt := 55) (by decide) ?_
  refine va_ldcS C.x C.b C.own hR (by decide +kernel : decode cX2_spelling 55 = .ok (.ldc 159, 2)) ?_
  exact W.aret C.x C.b hr (Or.inl ⟨_, rfl⟩) (Or.inr ⟨_, rfl⟩) (fun t ht hW => ⟨_, rfl, rfl, by rw [ht]; exact hH⟩) hS.2.2 (by decide +kernel : decode cX2_spelling 57 = .ok (.areturn, 1)) hlk
theorem jd_sp6 (l : Launch) {d : Nat} {D : va_G} {tys : ai_ty} {A : Nat → Prop} {aK aV : Nat → Nat} {H : Heap} : Met l yX2_spelling (ai_ws jm_sp) (ai_rm d) (va_Pc [.int 6] (jd_P D tys A aK aV H)) (jd_Q H (fun v => v = some (.ref (aK 6)))) 0 0 A := by
  refine jd_met (M := jm_sp) l (by decide) (by first | exact Nat.le_refl _ | exact Nat.le_of_ble_eq_true rfl) ?_
  intro p e s m below meth c ls C hH hr hlk hl
  have hS : va_S A s.heap s.heap [] := va_S.rf
  have hr : meth.sig.returnType = (some (.object "java/lang/String")) := hr
  have hl : lv_has ls 1 [(0, .int 6)] := hl
  have hR : vk_R RX2 160 "plan" (aK 6) s := C.J.2.1 6 (160, "plan") rfl
  refine lv_iload_n C.x C.b (by decide +kernel : decode cX2_spelling 0 = .ok (.iload_n 0, 1)) rfl (lv_at hl 0 rfl) ?_
  refine lv_tableOut C.x C.b (by decide +kernel : decode cX2_spelling 1 = .ok (.tableswitch 57 0 5 #[39, 42, 45, 48, 51, 54], 39)) (x := 6) (Or.inr (by decide)) (tgt := 58) (by decide) ?_
  refine va_ldcS C.x C.b C.own hR (by decide +kernel : decode cX2_spelling 58 = .ok (.ldc 160, 2)) ?_
  exact W.aret C.x C.b hr (Or.inl ⟨_, rfl⟩) (Or.inr ⟨_, rfl⟩) (fun t ht hW => ⟨_, rfl, rfl, by rw [ht]; exact hH⟩) hS.2.2 (by decide +kernel : decode cX2_spelling 60 = .ok (.areturn, 1)) hlk
theorem jd_sp (l : Launch) {d : Nat} {D : va_G} {tys : ai_ty} {A : Nat → Prop} {aK aV : Nat → Nat} {H : Heap} {i : Nat} (hi : i < 7) : Met l yX2_spelling (ai_ws jm_sp) (ai_rm d) (va_Pc [.int (Int32.ofNat i)] (jd_P D tys A aK aV H)) (jd_Q H (fun v => v = some (.ref (aK i)))) 0 0 A := by
  match i, hi with
  | 0, _ => exact jd_sp0 l
  | 1, _ => exact jd_sp1 l
  | 2, _ => exact jd_sp2 l
  | 3, _ => exact jd_sp3 l
  | 4, _ => exact jd_sp4 l
  | 5, _ => exact jd_sp5 l
  | 6, _ => exact jd_sp6 l
end
section
/-! isWord, wordRead; the methods whose walk is known -/
theorem jd_get {M : ai_m} {d : Nat} {p : Program} {l : Launch} {e : Env} {R : Room} {s : State} {m : MethodId} {args : Array Value} {below : List Frame} {meth : Method} {c : Code} {D : va_G} {tys : ai_ty} {A : Nat → Prop} {aK aV : Nat → Nat} {H : Heap} {locs : List Loc} {cells slots : Nat} {Q : State → Prop} {pc : Nat} {ls : Array Slot} {rest : List Value} (C : jd_C M d p R s m args c D tys A aK aV cells slots) {ci j idx q0 a : Nat} (hf : ai_flok M.1.cls ci j idx) {ws : va_W} {fs : List Value} {v : Value} (hP : va_P D vwCl ws H) (w1 : ws[q0]? = some (a, .inr (ci, fs))) (hv : fs[j]? = some v) (hd : decode M.2.1 pc = .ok (.getfield idx, 3)) (k : W p l e R s m args below meth c H locs cells slots Q (F0 m (pc + 3) ls (v :: rest))) : W p l e R s m args below meth c H locs cells slots Q (F0 m pc ls (.ref a :: rest)) := by
  obtain ⟨C0, T0, N0, f1, f2, f3, f4⟩ := hf
  exact va_get C.x C.b C.ts f4 C.own C.K hP q0 w1 f1 j f2 (C.ts _ f3) (fun _ h => h) hv hd k
theorem jf_11 : ai_flok RX2 2 0 11 := tv_m37.1.1.2.1 (11, 2, 0) (by decide)
theorem jf_41 : ai_flok RX2 2 7 41 := tv_m37.1.1.2.1 (41, 2, 7) (by decide)
theorem jf_68 : ai_flok RX2 2 9 68 := tv_m37.1.1.2.1 (68, 2, 9) (by decide)
set_option maxHeartbeats 1000000 in
theorem jd_is (l : Launch) {d : Nat} {D : va_G} {tys : ai_ty} {A : Nat → Prop} {aK aV : Nat → Nat} {H : Heap} {i : Nat} (hi : i < 7) (hd : 4 ≤ d) {ws : va_W} {a q27 t0 : Nat} {fs : List Value} {zt zf : Int32} {cA : ClassId} {f : Nat → Int32} (hP : va_P D vwCl ws H) (w1 : ws[26]? = some (a, .inr (2, fs))) (f0 : fs[0]? = some (.ref q27)) (f7 : fs[7]? = some (.int zt)) (f9 : fs[9]? = some (.int zf)) (b1 : 0 ≤ zf.toInt) (b2 : zt.toInt ≤ 160) (b3 : 0 ≤ zt.toInt) (b4 : zf.toInt ≤ 160) (w2 : ws[27]? = some (q27, .inl (cA, 160, .inl f))) (ht : tys[t0]? = some (cA, .int)) : Met l yX2_isWord (ai_ws jm_is) (ai_rm d) (va_Pc [.ref a, .ref (aK i)] (jd_P D tys A aK aV H)) (jd_Q H (fun v => v = some (.int 0) ∨ v = some (.int 1))) 0 0 A := by
  refine jd_met (M := jm_is) l (by decide) (by first | exact Nat.le_refl _ | exact Nat.le_of_ble_eq_true rfl) ?_
  intro p e s m below meth c ls C hH hr hlk hl
  have hS : va_S A s.heap s.heap [] := va_S.rf
  have hr : meth.sig.returnType = (some .boolean) := hr
  subst hH
  obtain ⟨hb1, -⟩ := jd_b i hi
  have hl : lv_has ls 3 [(0, .ref a), (1, .ref (aK i))] := hl
  generalize hN : ai_JL.getD i 0 = N at hb1
  have hNI : (Int32.ofNat N).toInt = (N : Int) := nI_toInt (by omega)
  have loop : Int32.ofNat N = zt - zf → ∀ (n k : Nat), k + n = N → ∀ (ls : Array Slot) (locs : List Loc), lv_has ls 3 [(2, .int (Int32.ofNat k)), (0, .ref a), (1, .ref (aK i))] → va_S A s.heap s.heap locs → W p l e (ai_rm d) s m ([Value.ref a, Value.ref (aK i)] : List Value).toArray below meth c s.heap locs 0 0 (MQ below (jd_Q s.heap (fun v => v = some (.int 0) ∨ v = some (.int 1))) ([Value.ref a, Value.ref (aK i)] : List Value).toArray s 0 0 A) (F0 m 20 ls []) := by
    intro heq n
    have hsub : (zt - zf).toInt = zt.toInt - zf.toInt := ai_subI (by omega) (by omega)
    have hNz : (N : Int) = zt.toInt - zf.toInt := by rw [← hsub, ← heq, hNI]
    induction n with
    | zero =>
      intro k hk ls locs hl hS
      refine lv_iload_n C.x C.b (by decide +kernel : decode cX2_isWord 20 = .ok (.iload_n 2, 1)) rfl (lv_at hl 0 rfl) ?_
      refine lv_aload_n C.x C.b (by decide +kernel : decode cX2_isWord 21 = .ok (.aload_n 1, 1)) rfl (lv_at hl 2 rfl) ?_
      refine jd_V (M' := jm_len) (As := []) (rest := [.int (Int32.ofNat k)]) C hS (by omega) (by decide) (Nat.le_of_ble_eq_true rfl) jg_len (by decide +kernel) (vk_recv C.J.1 hi hS) (jd_len l hi (by omega)) rfl hl.1 rfl (by decide +kernel : decode cX2_isWord 22 = .ok (.invokevirtual 141, 3)) (fun v locs1 hv hS1 => ?_)

      subst hv
      refine lv_icmp_ge C.x C.b (by decide +kernel : decode cX2_isWord 25 = .ok (.if_icmp .ge 30, 3)) (tgt := 55) (by decide) (fun _ => ?_) (fun h => absurd (by rw [hN, show k = N by omega]; exact Int32.le_refl _) h)
      refine lv_iconst C.x C.b (by decide +kernel : decode cX2_isWord 55 = .ok (.iconst 1, 1)) (v := 1) rfl ?_
      exact W.zret C.x C.b hr rfl (fun t ht hW => ⟨_, rfl, Or.inr rfl, ht⟩) hS1.2.2 (by decide +kernel : decode cX2_isWord 56 = .ok (.ireturn, 1)) hlk
    | succ n ih =>
      intro k hk ls locs hl hS
      have hkN : k < ai_JL.getD i 0 := by rw [hN]; omega
      obtain ⟨i1, i2, i3, i4⟩ := jd_in (k := k) (N := N) (by omega) hb1
      refine lv_iload_n C.x C.b (by decide +kernel : decode cX2_isWord 20 = .ok (.iload_n 2, 1)) rfl (lv_at hl 0 rfl) ?_
      refine lv_aload_n C.x C.b (by decide +kernel : decode cX2_isWord 21 = .ok (.aload_n 1, 1)) rfl (lv_at hl 2 rfl) ?_
      refine jd_V (M' := jm_len) (As := []) (rest := [.int (Int32.ofNat k)]) C hS (by omega) (by decide) (Nat.le_of_ble_eq_true rfl) jg_len (by decide +kernel) (vk_recv C.J.1 hi hS) (jd_len l hi (by omega)) rfl hl.1 rfl (by decide +kernel : decode cX2_isWord 22 = .ok (.invokevirtual 141, 3)) (fun v locs1 hv hS1 => ?_)

      subst hv
      refine lv_icmp_ge C.x C.b (by decide +kernel : decode cX2_isWord 25 = .ok (.if_icmp .ge 30, 3)) (tgt := 55) (by decide) (fun h => absurd i2 (Int32.not_lt.mpr (by rw [← hN]; exact h))) (fun _ => ?_)
      refine lv_aload_n C.x C.b (by decide +kernel : decode cX2_isWord 28 = .ok (.aload_n 0, 1)) rfl (lv_at hl 1 rfl) ?_
      refine jd_get C jf_11 hP w1 f0 (by decide +kernel : decode cX2_isWord 29 = .ok (.getfield 11, 3)) ?_
      refine lv_aload_n C.x C.b (by decide +kernel : decode cX2_isWord 32 = .ok (.aload_n 0, 1)) rfl (lv_at hl 1 rfl) ?_
      refine jd_get C jf_68 hP w1 f9 (by decide +kernel : decode cX2_isWord 33 = .ok (.getfield 68, 3)) ?_
      refine lv_iload_n C.x C.b (by decide +kernel : decode cX2_isWord 36 = .ok (.iload_n 2, 1)) rfl (lv_at hl 0 rfl) ?_
      refine lv_iadd C.x C.b (by decide +kernel : decode cX2_isWord 37 = .ok (.iadd, 1)) ?_
      have hkI : (Int32.ofNat k).toInt = (k : Int) := nI_toInt (by omega)
      have hix : (zf + Int32.ofNat k).toInt = zf.toInt + k := by rw [ai_addI (by omega) (by omega), hkI]
      refine va_iald C.x C.b C.K hP 27 t0 w2 ht (vp_in_iff.mpr ⟨by omega, by omega⟩) (by decide +kernel : decode cX2_isWord 38 = .ok (.iaload, 1)) ?_
      refine lv_aload_n C.x C.b (by decide +kernel : decode cX2_isWord 39 = .ok (.aload_n 1, 1)) rfl (lv_at hl 2 rfl) ?_
      refine lv_iload_n C.x C.b (by decide +kernel : decode cX2_isWord 40 = .ok (.iload_n 2, 1)) rfl (lv_at hl 0 rfl) ?_
      refine jd_V (M' := jm_ca) (n := 1) (As := [.int (Int32.ofNat k)]) C hS1 (by omega) (by decide) (Nat.le_of_ble_eq_true rfl) jg_ca (by decide +kernel) (vk_recv C.J.1 hi hS1) (jd_ca l hi hkN (by omega)) rfl hl.1 rfl (by decide +kernel : decode cX2_isWord 41 = .ok (.invokevirtual 145, 3)) (fun v locs2 hv hS2 => ?_)
      subst hv
      refine lv_icmp_eq C.x C.b (by decide +kernel : decode cX2_isWord 44 = .ok (.if_icmp .eq 5, 3)) (tgt := 49) (by decide) (fun _ => ?_) (fun _ => ?_)
      · refine lv_iinc C.x C.b (by decide +kernel : decode cX2_isWord 49 = .ok (.iinc 2 1, 3)) hl (k := 0) rfl (v := Int32.ofNat (k + 1)) (nI_succ k).symm (by decide) (lv' := [(2, .int (Int32.ofNat (k + 1))), (0, .ref a), (1, .ref (aK i))]) rfl (fun ls3 hl3 => ?_)
        refine lv_goto C.x C.b (by decide +kernel : decode cX2_isWord 52 = .ok (.goto (-32), 3)) (tgt := 20) (by decide) ?_
        exact ih (k + 1) (by omega) ls3 locs2 hl3 hS2
      · refine lv_iconst C.x C.b (by decide +kernel : decode cX2_isWord 47 = .ok (.iconst 0, 1)) (v := 0) rfl ?_
        exact W.zret C.x C.b hr rfl (fun t ht hW => ⟨_, rfl, Or.inl rfl, ht⟩) hS2.2.2 (by decide +kernel : decode cX2_isWord 48 = .ok (.ireturn, 1)) hlk
  refine lv_aload_n C.x C.b (by decide +kernel : decode cX2_isWord 0 = .ok (.aload_n 1, 1)) rfl (lv_at hl 1 rfl) ?_
  refine jd_V (M' := jm_len) (As := []) (rest := []) C hS (by omega) (by decide) (Nat.le_of_ble_eq_true rfl) jg_len (by decide +kernel) (vk_recv C.J.1 hi hS) (jd_len l hi (by omega)) rfl hl.1 rfl (by decide +kernel : decode cX2_isWord 1 = .ok (.invokevirtual 141, 3)) (fun v locs1 hv hS1 => ?_)

  subst hv
  refine lv_aload_n C.x C.b (by decide +kernel : decode cX2_isWord 4 = .ok (.aload_n 0, 1)) rfl (lv_at hl 0 rfl) ?_
  refine jd_get C jf_41 hP w1 f7 (by decide +kernel : decode cX2_isWord 5 = .ok (.getfield 41, 3)) ?_
  refine lv_aload_n C.x C.b (by decide +kernel : decode cX2_isWord 8 = .ok (.aload_n 0, 1)) rfl (lv_at hl 0 rfl) ?_
  refine jd_get C jf_68 hP w1 f9 (by decide +kernel : decode cX2_isWord 9 = .ok (.getfield 68, 3)) ?_
  refine lv_isub C.x C.b (by decide +kernel : decode cX2_isWord 12 = .ok (.isub, 1)) ?_
  refine lv_icmp_eq C.x C.b (by decide +kernel : decode cX2_isWord 13 = .ok (.if_icmp .eq 5, 3)) (tgt := 18) (by decide) (fun heq => ?_) (fun _ => ?_)
  · refine lv_iconst C.x C.b (by decide +kernel : decode cX2_isWord 18 = .ok (.iconst 0, 1)) (v := 0) rfl ?_
    refine lv_istore_n C.x C.b (by decide +kernel : decode cX2_isWord 19 = .ok (.istore_n 2, 1)) (i := 2) rfl hl (by decide) (lv' := [(2, .int 0), (0, .ref a), (1, .ref (aK i))]) rfl (fun ls2 hl2 => ?_)
    exact loop (by rw [← hN]; exact heq) N 0 (by omega) ls2 locs1 hl2 hS1
  · refine lv_iconst C.x C.b (by decide +kernel : decode cX2_isWord 16 = .ok (.iconst 0, 1)) (v := 0) rfl ?_
    exact W.zret C.x C.b hr rfl (fun t ht hW => ⟨_, rfl, Or.inl rfl, ht⟩) hS1.2.2 (by decide +kernel : decode cX2_isWord 17 = .ok (.ireturn, 1)) hlk
theorem jd_fi {ad : List Nat} {f : ai_f} {x : Value} (h : ai_fd ad f x) (h1 : f.1 = 1) : ∃ i : Int32, x = .int i ∧ f.2.2.1 ≤ i.toInt ∧ i.toInt ≤ f.2.2.2 := by
  rcases h with ⟨q, -⟩ | ⟨-, h⟩ | ⟨q, -⟩
  · omega
  · exact h
  · omega
theorem jd_fr {ad : List Nat} {f : ai_f} {x : Value} (h : ai_fd ad f x) (h1 : f.1 = 0) : ∃ q, ad[f.2.1]? = some q ∧ x = .ref q := by
  rcases h with ⟨-, h⟩ | ⟨q, -⟩ | ⟨q, -⟩
  · exact h
  · omega
  · omega
/-- wordRead's walk -/
theorem jd_wr {d : Nat} {p : Program} {l : Launch} {e : Env} {R : Room} {s : State} {m : MethodId} {args : Array Value} {below : List Frame} {meth : Method} {c : Code} {D : va_G} {tys : ai_ty} {A : Nat → Prop} {aK aV : Nat → Nat} {H : Heap} {locs : List Loc} {cells slots : Nat} {Q : State → Prop} {ls : Array Slot} (C : jd_C tb_m37 d p R s m args c D tys A aK aV cells slots) (h6 : 6 ≤ d) (hS : va_S A s.heap H locs) {ws : va_W} {a q27 t0 : Nat} {fs : List Value} {zt zf : Int32} {cA : ClassId} {f : Nat → Int32} (hP : va_P D vwCl ws H) (w1 : ws[26]? = some (a, .inr (2, fs))) (f0 : fs[0]? = some (.ref q27)) (f7 : fs[7]? = some (.int zt)) (f9 : fs[9]? = some (.int zf)) (b1 : 0 ≤ zf.toInt) (b2 : zt.toInt ≤ 160) (b3 : 0 ≤ zt.toInt) (b4 : zf.toInt ≤ 160) (w2 : ws[27]? = some (q27, .inl (cA, 160, .inl f))) (ht : tys[t0]? = some (cA, .int))
    (hl : lv_has ls 2 [(0, .ref a)]) (k1 : ∀ (z : Int32) (ls : Array Slot) (locs : List Loc), 0 ≤ z.toInt → z.toInt ≤ 7 → lv_has ls 2 [] → va_S A s.heap H locs → W p l e R s m args below meth c H locs cells slots Q (F0 m 20 ls [.int z])) (k2 : ∀ (z : Int32) (ls : Array Slot) (locs : List Loc), 0 ≤ z.toInt → z.toInt ≤ 7 → lv_has ls 2 [] → va_S A s.heap H locs → W p l e R s m args below meth c H locs cells slots Q (F0 m 29 ls [.int z])) : W p l e R s m args below meth c H locs cells slots Q (F0 m 0 ls []) := by
  have loop : ∀ (n j : Nat), j + n = 7 → ∀ (ls : Array Slot) (locs : List Loc), lv_has ls 2 [(1, .int (Int32.ofNat j)), (0, .ref a)] → va_S A s.heap H locs → W p l e R s m args below meth c H locs cells slots Q (F0 m 2 ls []) := by
    intro n
    induction n with
    | zero =>
      intro j hj ls locs hl hS
      have e7 : j = 7 := by omega
      subst e7
      refine lv_iload_n C.x C.b (by decide +kernel : decode cX2_wordRead 2 = .ok (.iload_n 1, 1)) rfl (lv_at hl 0 rfl) ?_
      refine lv_bipush C.x C.b (by decide +kernel : decode cX2_wordRead 3 = .ok (.bipush 7, 2)) (v := 7) rfl ?_
      refine lv_icmp_ge C.x C.b (by decide +kernel : decode cX2_wordRead 5 = .ok (.if_icmp .ge 22, 3)) (tgt := 27) (by decide) (fun _ => ?_) (fun h => absurd (by decide) h)
      refine lv_bipush C.x C.b (by decide +kernel : decode cX2_wordRead 27 = .ok (.bipush 7, 2)) (v := 7) rfl ?_
      exact k2 7 ls locs (by decide) (by decide) (lv_sub hl [] rfl) hS
    | succ n ih =>
      intro j hj ls locs hl hS
      have hi : j < 7 := by omega
      have hjI : (Int32.ofNat j).toInt = (j : Int) := nI_toInt (by omega)
      refine lv_iload_n C.x C.b (by decide +kernel : decode cX2_wordRead 2 = .ok (.iload_n 1, 1)) rfl (lv_at hl 0 rfl) ?_
      refine lv_bipush C.x C.b (by decide +kernel : decode cX2_wordRead 3 = .ok (.bipush 7, 2)) (v := 7) rfl ?_
      refine lv_icmp_ge C.x C.b (by decide +kernel : decode cX2_wordRead 5 = .ok (.if_icmp .ge 22, 3)) (tgt := 27) (by decide) (fun h => absurd h (nI_ge hi (by decide))) (fun _ => ?_)
      refine lv_aload_n C.x C.b (by decide +kernel : decode cX2_wordRead 8 = .ok (.aload_n 0, 1)) rfl (lv_at hl 1 rfl) ?_
      refine lv_iload_n C.x C.b (by decide +kernel : decode cX2_wordRead 9 = .ok (.iload_n 1, 1)) rfl (lv_at hl 0 rfl) ?_
      refine jd_S (M' := jm_sp) (n := 1) (As := [.int (Int32.ofNat j)]) (rest := [.ref a]) C hS (by omega) (by decide) (Nat.le_of_ble_eq_true rfl) jg_sp (by decide +kernel) (jd_sp l hi) rfl hl.1 rfl (by decide +kernel : decode cX2_wordRead 10 = .ok (.invokestatic 133, 3)) (fun v locs1 hv hS1 => ?_)
      subst hv
      refine jd_V (M' := jm_is) (n := 1) (As := [.ref (aK j)]) (rest := []) C hS1 (by omega) (by decide) (Nat.le_of_ble_eq_true rfl) jg_is (by decide +kernel) (va_recv C.K hP (q := (RX2, TX2, 11)) rfl w1) (jd_is l hi (by omega) hP w1 f0 f7 f9 b1 b2 b3 b4 w2 ht) rfl hl.1 rfl (by decide +kernel : decode cX2_wordRead 13 = .ok (.invokevirtual 137, 3)) (fun v locs2 hv hS2 => ?_)
      rcases hv with hv | hv
      · subst hv
        refine lv_if_eq C.x C.b (by decide +kernel : decode cX2_wordRead 16 = .ok (.ifCond .eq 5, 3)) (tgt := 21) (by decide) (fun _ => ?_) (fun h => absurd rfl h)
        refine lv_iinc C.x C.b (by decide +kernel : decode cX2_wordRead 21 = .ok (.iinc 1 1, 3)) hl (k := 0) rfl (v := Int32.ofNat (j + 1)) (nI_succ j).symm (by decide) (lv' := [(1, .int (Int32.ofNat (j + 1))), (0, .ref a)]) rfl (fun ls3 hl3 => ?_)
        refine lv_goto C.x C.b (by decide +kernel : decode cX2_wordRead 24 = .ok (.goto (-22), 3)) (tgt := 2) (by decide) ?_
        exact ih (j + 1) (by omega) ls3 locs2 hl3 hS2
      · subst hv
        refine lv_if_eq C.x C.b (by decide +kernel : decode cX2_wordRead 16 = .ok (.ifCond .eq 5, 3)) (tgt := 21) (by decide) (fun h => absurd h (by decide)) (fun _ => ?_)
        refine lv_iload_n C.x C.b (by decide +kernel : decode cX2_wordRead 19 = .ok (.iload_n 1, 1)) rfl (lv_at hl 0 rfl) ?_
        exact k1 _ ls locs2 (by omega) (by omega) (lv_sub hl [] rfl) hS2
  refine lv_iconst C.x C.b (by decide +kernel : decode cX2_wordRead 0 = .ok (.iconst 0, 1)) (v := 0) rfl ?_
  refine lv_istore_n C.x C.b (by decide +kernel : decode cX2_wordRead 1 = .ok (.istore_n 1, 1)) (i := 1) rfl hl (by decide) (lv' := [(1, .int 0), (0, .ref a)]) rfl (fun ls2 hl2 => ?_)
  exact loop 7 0 rfl ls2 locs hl2 hS
/-- .. as a walk that is known -/
theorem wr_known {TY : List ai_c} {WR : List (Nat × Nat × Nat)} {w0 : va_W} {ad : List Nat} {M : ai_m} {d : Nat} {p : Program} {l : Launch} {e : Env} {R : Room} {s : State} {m : MethodId} {args : Array Value} {below : List Frame} {meth : Method} {c : Code} {D : va_G} {tys : ai_ty} {A : Nat → Prop} {b L : Nat} {sx : Nat → Int32} {cells slots : Nat} {Q : State → Prop} {r0 : List Int} {st : ai_s} (C : ai_cx tb_m37 d p R s m args c D tys A b L sx cells slots) (h6 : 6 ≤ d) (h0 : st.1 = 0) (h1 : ai_get st.2.1 0 = some (0, 26, 0, 0)) (hs : st.2.2.1.isEmpty = true) (hn : Nat.blt 1 st.2.2.2.1.length = true)
    (k1 : ai_G tb_TY WR w0 ad tb_m37 p l e R s m args below meth c D tys A b L sx cells slots Q r0 (20, [], [(1, st.2.2.2.1.length, 0, 0)], ai_nu st.2.2.2.1 0 7, st.2.2.2.2.1, st.2.2.2.2.2))
    (k2 : ai_G tb_TY WR w0 ad tb_m37 p l e R s m args below meth c D tys A b L sx cells slots Q r0 (29, [], [(1, st.2.2.2.1.length, 0, 0)], ai_nu st.2.2.2.1 0 7, st.2.2.2.2.1, st.2.2.2.2.2)) : ai_G tb_TY WR w0 ad tb_m37 p l e R s m args below meth c D tys A b L sx cells slots Q r0 st := by
  intro r lv skc ws H locs ls hxx g hP hD hS hl
  obtain ⟨g1, g2, g3, g4, g5, g6, g7, g8⟩ := g
  obtain ⟨n0, x0, i0, j0⟩ := ai_get_ok g3 h1
  obtain ⟨aK, aV, hJ⟩ := C.2.2.2.2.2.1.2
  have C' : jd_C tb_m37 d p R s m args c D tys A aK aV cells slots := ⟨C.1, C.2.1, C.2.2.1, C.2.2.2.1, C.2.2.2.2.1, C.2.2.2.2.2.2.1, hJ, C.2.2.2.2.2.2.2.2.1.1, C.2.2.2.2.2.2.2.2.1.2.1, C.2.2.2.2.2.2.2.2.1.2.2.1, C.2.2.2.2.2.2.2.2.1.2.2.2⟩
  have hsk : skc = [] := by
    rw [List.isEmpty_iff.mp hs] at g4
    exact g4.nil
  subst hsk
  obtain ⟨a, e1, w1, v1, c1⟩ := g5.get (c := 26) rfl
  obtain ⟨q27, e2, w2, v2, c2⟩ := g5.get (c := 27) rfl
  rcases c1 with ⟨-, fs, rfl, -, hf⟩ | ⟨q, -⟩ | ⟨q, -⟩ | ⟨q, -⟩
  · rcases c2 with ⟨q, -⟩ | ⟨-, cA, f, rfl, ⟨t0, ht⟩, -⟩ | ⟨q, -⟩ | ⟨q, -⟩
    · exact absurd q (by decide)
    · obtain ⟨y0, f0, d0⟩ := hf 0 _ rfl
      obtain ⟨y7, f7, d7⟩ := hf 7 _ rfl
      obtain ⟨y9, f9, d9⟩ := hf 9 _ rfl
      obtain ⟨q0, z0, rfl⟩ := jd_fr d0 rfl
      obtain ⟨zt, rfl, t1, t2⟩ := jd_fi d7 rfl
      obtain ⟨zf, rfl, u1, u2⟩ := jd_fi d9 rfl
      have hq : q0 = q27 := Option.some.inj (z0.symm.trans v2)
      subst hq
      have hx0 : x0 = .ref a := by
        rcases j0 with ⟨-, q, q1, q2⟩ | ⟨q, -⟩ | ⟨q, -⟩ | ⟨q, -⟩ | ⟨q, -⟩
        · rw [q2, Option.some.inj (q1.symm.trans v1)]
        all_goals exact absurd q (by decide)
      subst hx0
      have hl' : lv_has ls 2 [(0, .ref a)] := ⟨hl.1, hl.2.1, fun q hq => by
        rcases List.mem_cons.mp hq with rfl | hq
        · exact lv_at hl n0 i0
        · cases hq⟩
      rw [h0]
      refine jd_wr C' h6 hS hP w1 f0 f7 f9 u1 t2 t1 u2 w2 ht hl' (fun z ls' locs' z1 z2 hl2 hS2 => ?_) (fun z ls' locs' z1 z2 hl2 hS2 => ?_)
      · exact k1 (r ++ [z.toInt]) [] [.int z] ws H locs' ls' (hxx.tr ai_x.push) ⟨g1.nu z1 z2, g2.mono ai_x.push, trivial, ⟨Or.inr (Or.inl ⟨rfl, _, _, ai_last g1.1, rfl, by show z.toInt = z.toInt + 0; omega⟩), trivial⟩, g5, g6.mono ai_x.push, g7, ai_sc1 ai_x.push (by rw [g1.1]; exact Nat.le_of_ble_eq_true hn) g8⟩ hP hD hS2 hl2
      · exact k2 (r ++ [z.toInt]) [] [.int z] ws H locs' ls' (hxx.tr ai_x.push) ⟨g1.nu z1 z2, g2.mono ai_x.push, trivial, ⟨Or.inr (Or.inl ⟨rfl, _, _, ai_last g1.1, rfl, by show z.toInt = z.toInt + 0; omega⟩), trivial⟩, g5, g6.mono ai_x.push, g7, ai_sc1 ai_x.push (by rw [g1.1]; exact Nat.le_of_ble_eq_true hn) g8⟩ hP hD hS2 hl2
    · exact absurd q (by decide)
    · exact absurd q (by decide)
  · exact absurd q (by decide)
  · exact absurd q (by decide)
  · exact absurd q (by decide)
theorem su_ok : ai_SU tb_K := by
  intro mid d cu st xs M hq hM w0 ad p l e R s m args below meth c D tys A b L sx cells slots Q r0 C k
  dsimp only at hq
  split at hq
  · rename_i hg
    rw [Bool.and_eq_true] at hg
    have hg0 := ai_beq.mp hg.1
    have hg6 := Nat.le_of_ble_eq_true hg.2
    have hq2 : tb_su mid st = some xs := hq
    clear hq
    unfold tb_su at hq2
    split at hq2
    · rename_i hm
      subst hm
      have hM' : M = tb_m150 := (Option.some.inj hM).symm
      subst hM'
      split at hq2
      · rename_i hc
        simp only [Bool.and_eq_true] at hc
        obtain ⟨⟨⟨⟨c0, c2⟩, c4⟩, cs⟩, cn⟩ := hc
        injection hq2 with hq2
        subst hq2
        exact lo_known (M := tb_m150) C hg0 c0 c2 c4 cs cn rfl (k _ (List.mem_singleton.mpr rfl))
      · cases hq2
    · split at hq2
      · rename_i hm
        subst hm
        have hM' : M = tb_m37 := (Option.some.inj hM).symm
        subst hM'
        split at hq2
        · rename_i hc
          simp only [Bool.and_eq_true, decide_eq_true_eq] at hc
          obtain ⟨⟨c0, cs⟩, cn⟩ := hc
          injection hq2 with hq2
          subst hq2
          exact wr_known (TY := tb_TY) (M := tb_m37) C hg6 hg0 c0 cs cn (k _ List.mem_cons_self) (k _ (List.mem_cons_of_mem _ (List.mem_singleton.mpr rfl)))
        · cases hq2
      · cases hq2
  · cases hq
end
section
/-! a walk that knows pieces of itself: (method, least depth, state, ends) -/
def mm_ev (a b : ai_v) : Bool := Nat.beq a.1 b.1 && Nat.beq a.2.1 b.2.1 && Nat.beq a.2.2.1 b.2.2.1 && decide (a.2.2.2 = b.2.2.2)
theorem mm_ev_ok {a b : ai_v} (h : mm_ev a b = true) : a = b := by
  obtain ⟨a1, a2, a3, a4⟩ := a
  obtain ⟨b1, b2, b3, b4⟩ := b
  simp only [mm_ev, Bool.and_eq_true, decide_eq_true_eq] at h
  obtain ⟨⟨⟨h1, h2⟩, h3⟩, rfl⟩ := h
  cases ai_beq.mp h1
  cases ai_beq.mp h2
  cases ai_beq.mp h3
  rfl
def mm_ee (a b : ai_e) : Bool := decide (a.1 = b.1) && decide (a.2.1 = b.2.1) && decide (a.2.2.1 = b.2.2.1) && Nat.beq a.2.2.2.1 b.2.2.2.1 && decide (a.2.2.2.2 = b.2.2.2.2)
theorem mm_ee_ok {a b : ai_e} (h : mm_ee a b = true) : a = b := by
  obtain ⟨a1, a2, a3, a4, a5⟩ := a
  obtain ⟨b1, b2, b3, b4, b5⟩ := b
  simp only [mm_ee, Bool.and_eq_true, decide_eq_true_eq] at h
  obtain ⟨⟨⟨⟨rfl, rfl⟩, rfl⟩, h4⟩, rfl⟩ := h
  cases ai_beq.mp h4
  rfl
def mm_ek (a b : ai_k) : Bool := Nat.beq a.1 b.1 && Nat.beq a.2.1 b.2.1 && mm_ev a.2.2 b.2.2
theorem mm_ek_ok {a b : ai_k} (h : mm_ek a b = true) : a = b := by
  obtain ⟨a1, a2, a3⟩ := a
  obtain ⟨b1, b2, b3⟩ := b
  simp only [mm_ek, Bool.and_eq_true] at h
  obtain ⟨⟨h1, h2⟩, h3⟩ := h
  cases ai_beq.mp h1
  cases ai_beq.mp h2
  cases mm_ev_ok h3
  rfl
def mm_eo (a b : Nat × ai_v) : Bool := Nat.beq a.1 b.1 && mm_ev a.2 b.2
theorem mm_eo_ok {a b : Nat × ai_v} (h : mm_eo a b = true) : a = b := by
  obtain ⟨a1, a2⟩ := a
  obtain ⟨b1, b2⟩ := b
  simp only [mm_eo, Bool.and_eq_true] at h
  cases ai_beq.mp h.1
  cases mm_ev_ok h.2
  rfl
def mm_eb (a b : ai_b) : Bool := Nat.beq a.1 b.1 && Nat.beq a.2.1 b.2.1 && Nat.beq a.2.2.1 b.2.2.1 && Nat.beq a.2.2.2.1 b.2.2.2.1 && decide (a.2.2.2.2 = b.2.2.2.2)
theorem mm_eb_ok {a b : ai_b} (h : mm_eb a b = true) : a = b := by
  obtain ⟨a1, a2, a3, a4, a5⟩ := a
  obtain ⟨b1, b2, b3, b4, b5⟩ := b
  simp only [mm_eb, Bool.and_eq_true, decide_eq_true_eq] at h
  obtain ⟨⟨⟨⟨h1, h2⟩, h3⟩, h4⟩, rfl⟩ := h
  cases ai_beq.mp h1
  cases ai_beq.mp h2
  cases ai_beq.mp h3
  cases ai_beq.mp h4
  rfl
def mm_el {α : Type} (f : α → α → Bool) : List α → List α → Bool
  | [], [] => true
  | a :: l, b :: m => f a b && mm_el f l m
  | _, _ => false
theorem mm_el_ok {α : Type} {f : α → α → Bool} (hf : ∀ {a b : α}, f a b = true → a = b) : ∀ {l m : List α}, mm_el f l m = true → l = m
  | [], [], _ => rfl
  | [], _ :: _, h => by cases h
  | _ :: _, [], h => by cases h
  | a :: l, b :: m, h => by
    simp only [mm_el, Bool.and_eq_true] at h
    rw [hf h.1, mm_el_ok hf h.2]
def mm_es (a b : ai_s) : Bool := Nat.beq a.1 b.1 && mm_el mm_eo a.2.1 b.2.1 && mm_el mm_ev a.2.2.1 b.2.2.1 && mm_el mm_ee a.2.2.2.1 b.2.2.2.1 && mm_el mm_ek a.2.2.2.2.1 b.2.2.2.2.1 && mm_el mm_eb a.2.2.2.2.2 b.2.2.2.2.2
theorem mm_es_ok {a b : ai_s} (h : mm_es a b = true) : a = b := by
  obtain ⟨a1, a2, a3, a4, a5, a6⟩ := a
  obtain ⟨b1, b2, b3, b4, b5, b6⟩ := b
  simp only [mm_es, Bool.and_eq_true] at h
  obtain ⟨⟨⟨⟨⟨h1, h2⟩, h3⟩, h4⟩, h5⟩, h6⟩ := h
  cases ai_beq.mp h1
  cases mm_el_ok mm_eo_ok h2
  cases mm_el_ok mm_ev_ok h3
  cases mm_el_ok mm_ee_ok h4
  cases mm_el_ok mm_ek_ok h5
  cases mm_el_ok mm_eb_ok h6
  rfl
abbrev mm_e : Type := Nat × Nat × ai_s × List ai_s
def mm_f (ms : List mm_e) (mid d : Nat) (st : ai_s) : Option (List ai_s) := (ms.find? fun e => Nat.beq e.2.2.1.1 st.1 && Nat.beq e.1 mid && Nat.ble e.2.1 d && mm_es e.2.2.1 st).map fun e => e.2.2.2
noncomputable def mm_b0 (K : ai_K) (ms : List mm_e) (rec : ai_R) : ai_R := fun mid M d cu st => match mm_f ms mid d st with
  | some xs => some xs
  | none => ai_body0 K rec mid M d cu st
noncomputable def mm_b (K : ai_K) (ms : List mm_e) (rec : ai_R) : ai_R := fun mid M d cu st => ai_norm st (mm_b0 K ms rec mid M d cu)
noncomputable def mm_x (ms : List mm_e) (n : Nat) : ai_R := Nat.rec (fun _ _ _ _ _ => none) (fun _ rec => mm_b tb_K ms rec) n
def mm_ok (e : mm_e) : Prop := ai_SR tb_TY tb_WR tb_MT (fun mid _ d _ st => if (Nat.beq e.1 mid && Nat.ble e.2.1 d && mm_es e.2.2.1 st) = true then some e.2.2.2 else none)
theorem mm_x_ok {ms : List mm_e} (hms : ∀ e ∈ ms, mm_ok e) : ∀ n, ai_SR tb_TY tb_WR tb_MT (mm_x ms n)
  | 0 => fun mid d cu st ys M hq => by cases hq
  | n + 1 => by
    intro mid d cu st ys M hq hM w0 ad p l e R s m args below meth c D tys A b L sx cells slots Q r0 C k
    have hq : mm_b tb_K ms (mm_x ms n) mid M d cu st = some ys := hq
    unfold mm_b at hq
    rw [ai_norm_eq] at hq
    unfold mm_b0 at hq
    split at hq
    · rename_i xs hx
      injection hq with hq
      subst hq
      unfold mm_f at hx
      obtain ⟨e1, he, rfl⟩ := Option.map_eq_some_iff.mp hx
      have h1 := List.find?_some he
      have h2 := List.mem_of_find?_eq_some he
      simp only [Bool.and_eq_true, decide_eq_true_eq] at h1
      exact hms e1 h2 mid d cu st _ M (if_pos (by simp only [Bool.and_eq_true]; exact ⟨⟨h1.1.1.2, h1.1.2⟩, h1.2⟩)) hM C k
    · exact ai_body_ok (K := tb_K) su_ok (mm_x_ok hms n) tv_MT mid d cu st ys M (by unfold ai_body; rw [ai_norm_eq]; exact hq) hM C k
theorem mm_cx {M : ai_m} {d d' : Nat} {p : Program} {R : Room} {s : State} {m : MethodId} {args : Array Value} {c : Code} {D : va_G} {tys : ai_ty} {A : Nat → Prop} {b L : Nat} {sx : Nat → Int32} {cells slots : Nat} (h : d' ≤ d) (C : ai_cx M d p R s m args c D tys A b L sx cells slots) : ai_cx M d' p R s m args c D tys A b L sx cells slots :=
  ⟨C.1, C.2.1, C.2.2.1, C.2.2.2.1, C.2.2.2.2.1, C.2.2.2.2.2.1, C.2.2.2.2.2.2.1, C.2.2.2.2.2.2.2.1, ⟨Nat.le_trans h C.2.2.2.2.2.2.2.2.1.1, Nat.le_trans (Nat.mul_le_mul_left 36 h) C.2.2.2.2.2.2.2.2.1.2.1, C.2.2.2.2.2.2.2.2.1.2.2⟩, C.2.2.2.2.2.2.2.2.2⟩
noncomputable def mm_c (ms : List mm_e) (cu : List Nat) (M : ai_m) (e : mm_e) : Bool := (mm_x ms 5000 e.1 M e.2.1 cu e.2.2.1).any fun xs => mm_el mm_es xs e.2.2.2
theorem mm_mk {ms : List mm_e} {cu : List Nat} {M : ai_m} {e : mm_e} (hms : ∀ e ∈ ms, mm_ok e) (hM : tb_MT[e.1]? = some M) (h : mm_c ms cu M e = true) : mm_ok e := by
  intro mid d cu' st ys M' hq hM' w0 ad p l en R s m args below meth c D tys A b L sx cells slots Q r0 C k
  dsimp only at hq
  split at hq
  · rename_i hc
    simp only [Bool.and_eq_true] at hc
    have hd := Nat.le_of_ble_eq_true hc.1.2
    have h3 := ai_beq.mp hc.1.1
    subst h3
    have h4 := mm_es_ok hc.2
    subst h4
    injection hq with hq
    subst hq
    rw [hM] at hM'
    injection hM' with hM'
    subst hM'
    unfold mm_c at h
    obtain ⟨xs, h1, h2⟩ := ai_anyE h
    have h2 := mm_el_ok mm_es_ok h2
    subst h2
    exact mm_x_ok hms 5000 e.1 e.2.1 cu e.2.2.1 _ M h1 hM (mm_cx hd C) k
  · cases hq
end
section
/-! methods walked by hand, over the walk of their rounds: skip -/
def hk (WR : List (Nat × Nat × Nat)) : ai_K := (tb_TY, WR, tb_MT, [], fun _ _ => none, [])
theorem hk_su {WR : List (Nat × Nat × Nat)} : ai_SU (hk WR) := by
  intro mid d cu st xs M h
  have h : (if (Nat.beq st.1 0 && Nat.ble (ai_gd mid) d) = true then (none : Option (List ai_s)) else none) = some xs := h
  split at h <;> cases h
def hG (M : ai_m) (p : Program) (l : Launch) (e : Env) (R : Room) (s : State) (m : MethodId) (args : Array Value) (below : List Frame) (meth : Method) (c : Code) (D : va_G) (A : Nat → Prop) (cells slots : Nat) (Q : State → Prop) (pc : Nat) (lv : List (Nat × Value)) (sk : List Value) (ws : va_W) : Prop :=
  ∀ (H : Heap) (locs : List Loc) (ls : Array Slot), va_P D vwCl ws H → va_D A ws → va_S A s.heap H locs → lv_has ls M.2.2.1 lv → W p l e R s m args below meth c H locs cells slots Q (F0 m pc ls sk)
section HND
variable {ad : List Nat} {M : ai_m} {d : Nat} {p : Program} {l : Launch} {e : Env} {R : Room} {s : State} {m : MethodId} {args : Array Value} {below : List Frame} {meth : Method} {c : Code} {D : va_G} {tys : ai_ty} {A : Nat → Prop} {b L : Nat} {sx : Nat → Int32} {cells slots : Nat} {Q : State → Prop}
/-- a stretch of a method, walked from a state that the world now stands for -/
theorem hseg {WR : List (Nat × Nat × Nat)} {n mid : Nat} {cu : List Nat} {st : ai_s} {xs : List ai_s} (h : ai_ex (hk WR) n mid M d cu st = some xs) (hM : tb_MT[mid]? = some M) (C : ai_cx M d p R s m args c D tys A b L sx cells slots) {r : List Int} {lv : List (Nat × Value)} {sk : List Value} {ws : va_W} (g : ai_gm tb_TY WR ws ad b L sx tys M.2.2.2.2.1 r st lv sk ws)
    (k : ∀ x ∈ xs, ∀ (r' : List Int) (lv' : List (Nat × Value)) (sk' : List Value) (ws' : va_W), ai_x r r' → ai_gm tb_TY WR ws ad b L sx tys M.2.2.2.2.1 r' x lv' sk' ws' → hG M p l e R s m args below meth c D A cells slots Q x.1 lv' sk' ws') : hG M p l e R s m args below meth c D A cells slots Q st.1 lv sk ws :=
  fun H locs ls hP hD hS hl => (ai_ex_ok (K := hk WR) hk_su tv_MT n) mid d cu st xs M h hM C (fun x hx r' lv' sk' ws' H' locs' ls' hx' g' hP' hD' hS' hl' => k x hx r' lv' sk' ws' hx' g' H' locs' ls' hP' hD' hS' hl') r lv sk ws H locs ls ai_x.rf g hP hD hS hl
end HND
theorem ai_fr.tr {WR : List (Nat × Nat × Nat)} {u v w : va_W} (h : ai_fr WR u v) (k : ai_fr WR v w) : ai_fr WR u w := fun c i x a b => k c i x a (h c i x a b)
/-- values of name 0 alone: constants and cells -/
def lo0 (v : ai_v) : Bool := Nat.beq v.1 0 || (Nat.beq v.1 1 && Nat.beq v.2.1 0)
theorem dv0 {ad : List Nat} {b : Nat} {r r' : List Int} {v : ai_v} {x : Value} (h : ai_dv ad b r v x) (h0 : r[0]? = some 0) (h0' : r'[0]? = some 0) (hv : lo0 v = true) : ai_dv ad b r' v x := by
  unfold lo0 at hv
  rw [Bool.or_eq_true, Bool.and_eq_true, ai_beq, ai_beq, ai_beq] at hv
  rcases h with h | ⟨h1, z, i, h2, h3, h4⟩ | ⟨h1, -⟩ | ⟨h1, -⟩ | ⟨h1, -⟩
  · exact Or.inl h
  · rcases hv with hv | hv
    · omega
    · rw [hv.2, h0] at h2
      cases h2
      exact Or.inr (Or.inl ⟨h1, 0, i, by rw [hv.2]; exact h0', h3, h4⟩)
  all_goals (exfalso; omega)
theorem lo0_ok {ad : List Nat} {b : Nat} {r r' : List Int} (h0 : r[0]? = some 0) (h0' : r'[0]? = some 0) : ∀ {lo : List (Nat × ai_v)} {lv : List (Nat × Value)}, (lo.all fun q => lo0 q.2) = true → ai_lo ad b r lo lv → ai_lo ad b r' lo lv
  | [], [], _, _ => trivial
  | [], _ :: _, _, h => h
  | _ :: _, [], _, h => h
  | q :: t, y :: u, hv, h => by
    rw [List.all_cons, Bool.and_eq_true] at hv
    exact ⟨h.1, dv0 h.2.1 h0 h0' hv.1, lo0_ok h0 h0' hv.2 h.2.2⟩
def sk_lo (j : Nat) : List (Nat × ai_v) := [(0, (0, 26, 0, 0)), (1, (1, 0, 0, fx_lo j)), (2, (1, 0, 0, fx_hi j))]
def sk_st (j : Nat) : ai_s := (0, sk_lo j, [], [(0, 0, false, 0, 0), (0, 2555, false, 1, 0), (0, 160, false, 2, 0), (0, 160, false, 3, 0)], [(26, 1, (1, 2, 0, 0)), (26, 7, (1, 3, 0, 0))], [])
def sk_WR : List (Nat × Nat × Nat) := [(26, 7, 8)]
/-- facts that a walk's end tells: (k, 3, 2, ..) of names 3 and 2; what row 27 has at name 3, within bounds -/
def sk_f (x : ai_s) (k : Nat) : Bool := x.2.2.2.2.2.any fun q => Nat.beq q.1 k && (Nat.beq q.2.1 3 && (Nat.beq q.2.2.1 2 && decide (q.2.2.2.2 = 0)))
def sk_g (x : ai_s) (f : ai_e → Bool) : Bool := x.2.2.2.2.2.any fun q => Nat.beq q.1 1027 && (Nat.beq q.2.1 3 && (decide (q.2.2.2.2 = 0) && (x.2.2.2.1[q.2.2.2.1]?).any f))
def sk_ok (j : Nat) (x : ai_s) : Bool := x.2.2.1.isEmpty &&
  ((Nat.beq x.1 50 && (decide (ai_lk x.2.2.2.2.1 26 7 = some (1, 3, 0, 0)) && (sk_f x 5 || (sk_f x 4 && sk_g x fun e => decide (e.2.1 < fx_lo j) || decide (fx_hi j < e.1))))) ||
   (Nat.beq x.1 47 && (decide (ai_lk x.2.2.2.2.1 26 7 = some (1, 3, 0, 1)) && (decide (x.2.1 = sk_lo j) && (sk_f x 4 && ((sk_g x fun e => decide (fx_lo j ≤ e.1)) && sk_g x fun e => decide (e.2.1 ≤ fx_hi j)))))))
noncomputable def sk_x (j : Nat) : Option (List ai_s) := ai_ex (hk sk_WR) 60 35 tb_m35 3 [47] (sk_st j)
theorem sk_r0 : ((sk_x 0).any fun xs => xs.all (sk_ok 0)) = true := by decide +kernel
theorem sk_r1 : ((sk_x 1).any fun xs => xs.all (sk_ok 1)) = true := by decide +kernel
theorem sk_r2 : ((sk_x 2).any fun xs => xs.all (sk_ok 2)) = true := by decide +kernel
theorem sk_run (j : Nat) (hj : j < 3) : ((sk_x j).any fun xs => xs.all (sk_ok j)) = true := by
  match j, hj with
  | 0, _ => exact sk_r0
  | 1, _ => exact sk_r1
  | 2, _ => exact sk_r2
  | j + 3, hj => exact absurd hj (by omega)
theorem sk_fok {w0 : va_W} {r : List Int} {x : ai_s} {zn zc : Int} (g2 : ai_sb w0 r x.2.2.2.2.2) (h3 : r[3]? = some zc) (h2 : r[2]? = some zn) : (sk_f x 5 = true → zn ≤ zc) ∧ (sk_f x 4 = true → zc < zn) := by
  refine ⟨fun h => ?_, fun h => ?_⟩
  · obtain ⟨q, hq, h⟩ := List.any_eq_true.mp h
    rw [Bool.and_eq_true, Bool.and_eq_true, Bool.and_eq_true, ai_beq, ai_beq, ai_beq, decide_eq_true_eq] at h
    obtain ⟨a1, a2, a3, a4⟩ := h
    obtain ⟨za, zb, zr, e1, e2, -, -, -, -, -, e5, -⟩ := g2 q hq
    rw [a2, h3] at e1
    rw [a3, h2] at e2
    cases e1
    cases e2
    have := e5 a1
    omega
  · obtain ⟨q, hq, h⟩ := List.any_eq_true.mp h
    rw [Bool.and_eq_true, Bool.and_eq_true, Bool.and_eq_true, ai_beq, ai_beq, ai_beq, decide_eq_true_eq] at h
    obtain ⟨a1, a2, a3, a4⟩ := h
    obtain ⟨za, zb, zr, e1, e2, -, -, -, -, e4, -⟩ := g2 q hq
    rw [a2, h3] at e1
    rw [a3, h2] at e2
    cases e1
    cases e2
    have := e4 a1
    omega
theorem sk_gok {w0 : va_W} {r : List Int} {x : ai_s} {zc t : Int} {f : ai_e → Bool} (g1 : ai_ok r x.2.2.2.1) (g2 : ai_sb w0 r x.2.2.2.2.2) (h3 : r[3]? = some zc) (ht : fx_o w0 27 zc.toNat = some t) (h : sk_g x f = true) : ∃ e : ai_e, f e = true ∧ e.1 ≤ t ∧ t ≤ e.2.1 := by
  obtain ⟨q, hq, h⟩ := List.any_eq_true.mp h
  rw [Bool.and_eq_true, Bool.and_eq_true, Bool.and_eq_true, ai_beq, ai_beq, decide_eq_true_eq] at h
  obtain ⟨a1, a2, a3, a4⟩ := h
  obtain ⟨za, zb, zr, e1, e2, e3, -, -, -, -, -, e9⟩ := g2 q hq
  obtain ⟨z1, z2, f1, f2, f3, f4⟩ := (e9 (by omega)).1 (by omega)
  rw [a2, h3] at f1
  cases f1
  rw [a1, a3, Int.add_zero, show 1027 - 1000 = 27 from rfl] at f4
  have f5 := f4 t ht
  subst f5
  obtain ⟨e, b1, b2, b3⟩ := ai_any g1 f2 a4
  exact ⟨e, b1, b2, b3⟩
theorem dvn {ad : List Nat} {b : Nat} {r : List Int} {n : Nat} {o z : Int} {x : Value} (h : ai_dv ad b r (1, n, 0, o) x) (hz : r[n]? = some z) : ∃ i : Int32, x = .int i ∧ i.toInt = z + o := by
  rcases h with ⟨q, -⟩ | ⟨-, y, i, q1, q2, q3⟩ | ⟨q, -⟩ | ⟨q, -⟩ | ⟨q, -⟩
  · exact absurd (id q : (1 : Nat) = 0) (by decide)
  · have q1 : r[n]? = some y := q1
    rw [hz] at q1
    cases q1
    exact ⟨i, q2, q3⟩
  · exact absurd (id q : (1 : Nat) = 2) (by decide)
  · exact absurd (id q : (1 : Nat) = 3) (by decide)
  · exact absurd (id q : (1 : Nat) = 4) (by decide)
/-- a row of ints of the world: what stands at a place -/
theorem sl_fx {ad : List Nat} {tys : ai_ty} {ws : va_W} {k n i : Nat} {pat : List ai_f} {j : Int32} (h : ai_wd tb_TY ad tys ws) (hT : tb_TY[k]? = some (1, n, pat)) (hs : ai_sl ws k i (.int j)) : fx_o ws k i = some j.toInt := by
  obtain ⟨a, e, h1, h2, h3⟩ := h.get hT
  rcases h3 with ⟨z, -⟩ | ⟨-, cA, f, rfl, -, -⟩ | ⟨z, -⟩ | ⟨z, -⟩
  · exact absurd (id z : (1 : Nat) = 0) (by decide)
  · obtain ⟨a', e', s1, s2⟩ := hs
    rw [h1] at s1
    cases s1
    rcases s2 with ⟨ci, fs, q, -⟩ | ⟨cA', n', f', q, q2, q3⟩ | ⟨cA', n', f', q, -⟩
    · cases q
    · cases q
      cases q3
      exact fx_sl_o ⟨a, cA, n, f, h1, q2, rfl⟩
    · cases q
  · exact absurd (id z : (1 : Nat) = 3) (by decide)
  · exact absurd (id z : (1 : Nat) = 4) (by decide)
theorem fr_fx {ad : List Nat} {tys : ai_ty} {WR : List (Nat × Nat × Nat)} {ws ws' : va_W} {k n i : Nat} {pat : List ai_f} {t : Int} (h : ai_wd tb_TY ad tys ws') (hT : tb_TY[k]? = some (1, n, pat)) (hf : ai_fr WR ws ws') (hw : ai_wr WR k i i = false) (ht : fx_o ws k i = some t) : fx_o ws' k i = some t := by
  obtain ⟨j, j1, rfl⟩ := fx_o_sl ht
  exact sl_fx h hT (hf k i _ hw j1)
section SKP
variable {ad : List Nat} {p : Program} {l : Launch} {e : Env} {R : Room} {s : State} {m : MethodId} {args : Array Value} {below : List Frame} {meth : Method} {c : Code} {D : va_G} {tys : ai_ty} {A : Nat → Prop} {b L : Nat} {sx : Nat → Int32} {cells slots : Nat} {Q : State → Prop}
theorem sk_step {j : Nat} (hj : j < 3) (C : ai_cx tb_m35 3 p R s m args c D tys A b L sx cells slots) {ws : va_W} {zn zc : Int32} {g : Nat → Int} (hw : ai_wd tb_TY ad tys ws) (hn : ai_sl ws 26 1 (.int zn)) (hc : ai_sl ws 26 7 (.int zc)) (n0 : 0 ≤ zn.toInt) (n1 : zn.toInt ≤ 160) (c0 : 0 ≤ zc.toInt) (c1 : zc.toInt ≤ 160) (hg : ∀ i, i < 160 → fx_o ws 27 i = some (g i)) {lv : List (Nat × Value)} (hlv : ai_lo ad b [0] (sk_lo j) lv)
    (k1 : ∀ (ws' : va_W) (lv' : List (Nat × Value)), ai_wd tb_TY ad tys ws' → ai_fr sk_WR ws ws' → ai_sl ws' 26 7 (.int zc) → (zn.toInt.toNat ≤ zc.toInt.toNat ∨ g zc.toInt.toNat < fx_lo j ∨ fx_hi j < g zc.toInt.toNat) → hG tb_m35 p l e R s m args below meth c D A cells slots Q 50 lv' [] ws')
    (k2 : ∀ (ws' : va_W) (lv' : List (Nat × Value)) (zc' : Int32), ai_wd tb_TY ad tys ws' → ai_fr sk_WR ws ws' → ai_sl ws' 26 7 (.int zc') → zc'.toInt = zc.toInt + 1 → zc.toInt < zn.toInt → fx_lo j ≤ g zc.toInt.toNat → g zc.toInt.toNat ≤ fx_hi j → ai_lo ad b [0] (sk_lo j) lv' → hG tb_m35 p l e R s m args below meth c D A cells slots Q 47 lv' [] ws') : hG tb_m35 p l e R s m args below meth c D A cells slots Q 0 lv [] ws := by
  obtain ⟨xs, h1, h2⟩ := ai_anyE (sk_run j hj)
  have gm : ai_gm tb_TY sk_WR ws ad b L sx tys tb_m35.2.2.2.2.1 [0, 0, zn.toInt, zc.toInt] (sk_st j) lv [] ws := by
    refine ⟨⟨rfl, fun k z e hz he => ?_⟩, (fun q hq => by cases hq), lo0_ok (r := [0]) rfl rfl rfl hlv, trivial, hw, fun q hq => ?_, fun _ _ _ _ h => h, fun h => by cases h⟩
    · match k, hz, he with
      | 0, hz, he => cases hz; cases he; exact ⟨Int.le_refl _, Int.le_refl _, (fun h => by cases h), 0, rfl, Int.le_refl _⟩
      | 1, hz, he => cases hz; cases he; exact ⟨by decide, by decide, (fun h => by cases h), 0, rfl, Int.le_refl _⟩
      | 2, hz, he => cases hz; cases he; exact ⟨n0, n1, (fun h => by cases h), _, rfl, by show zn.toInt + 0 ≤ zn.toInt; omega⟩
      | 3, hz, he => cases hz; cases he; exact ⟨c0, c1, (fun h => by cases h), _, rfl, by show zc.toInt + 0 ≤ zc.toInt; omega⟩
      | k + 4, hz, he => cases hz
    · have hq : q ∈ [(26, 1, ((1, 2, 0, 0) : ai_v)), (26, 7, (1, 3, 0, 0))] := hq
      rcases List.mem_cons.mp hq with rfl | hq
      · exact ⟨_, hn, Or.inr (Or.inl ⟨rfl, _, _, rfl, rfl, by show zn.toInt = zn.toInt + 0; omega⟩)⟩
      · rcases List.mem_cons.mp hq with rfl | hq
        · exact ⟨_, hc, Or.inr (Or.inl ⟨rfl, _, _, rfl, rfl, by show zc.toInt = zc.toInt + 0; omega⟩)⟩
        · cases hq
  refine hseg (st := sk_st j) h1 rfl C gm (fun x hx r' lv' sk' ws' hx' g' => ?_)
  obtain ⟨g1, g2, g3, g4, g5, g6, g7, g8⟩ := g'
  have r0 : r'[0]? = some 0 := hx'.at rfl
  have r2 : r'[2]? = some zn.toInt := hx'.at rfl
  have r3 : r'[3]? = some zc.toInt := hx'.at rfl
  have hox := List.all_eq_true.mp h2 x hx
  unfold sk_ok at hox
  rw [Bool.and_eq_true, Bool.or_eq_true] at hox
  obtain ⟨hs, hox⟩ := hox
  have hsk : sk' = [] := by
    rw [List.isEmpty_iff.mp hs] at g4
    exact g4.nil
  subst hsk
  obtain ⟨f5, f4⟩ := sk_fok g2 r3 r2
  rcases hox with hox | hox
  · rw [Bool.and_eq_true, Bool.and_eq_true, ai_beq, decide_eq_true_eq, Bool.or_eq_true] at hox
    obtain ⟨p1, p2, p3⟩ := hox
    obtain ⟨x1, s1, d1⟩ := ai_lk_ok g6 p2
    obtain ⟨i, rfl, hi⟩ := dvn d1 r3
    have hii : i = zc := Int32.toInt_inj.mp (by rw [hi]; omega)
    subst hii
    rw [p1]
    refine k1 ws' lv' g5 g7 s1 ?_
    rcases p3 with p3 | p3
    · have := f5 p3
      exact Or.inl (by omega)
    · rw [Bool.and_eq_true] at p3
      have h4 := f4 p3.1
      obtain ⟨e0, b1, b2, b3⟩ := sk_gok g1 g2 r3 (hg _ (by omega)) p3.2
      rw [Bool.or_eq_true, decide_eq_true_eq, decide_eq_true_eq] at b1
      rcases b1 with b1 | b1
      · exact Or.inr (Or.inl (by omega))
      · exact Or.inr (Or.inr (by omega))
  · rw [Bool.and_eq_true, Bool.and_eq_true, Bool.and_eq_true, Bool.and_eq_true, Bool.and_eq_true, ai_beq, decide_eq_true_eq, decide_eq_true_eq] at hox
    obtain ⟨p1, p2, p3, p4, p5, p6⟩ := hox
    obtain ⟨x1, s1, d1⟩ := ai_lk_ok g6 p2
    obtain ⟨i, rfl, hi⟩ := dvn d1 r3
    have h4 := f4 p4
    obtain ⟨e0, b1, b2, b3⟩ := sk_gok g1 g2 r3 (hg _ (by omega)) p5
    obtain ⟨e1, b4, b5, b6⟩ := sk_gok g1 g2 r3 (hg _ (by omega)) p6
    rw [decide_eq_true_eq] at b1 b4
    rw [p1]
    refine k2 ws' lv' i g5 g7 s1 hi h4 (by omega) (by omega) (lo0_ok r0 rfl rfl (by rw [← p3]; exact g3))
theorem sk_loop {j : Nat} (hj : j < 3) (C : ai_cx tb_m35 3 p R s m args c D tys A b L sx cells slots) {zn : Int32} {g : Nat → Int} (n0 : 0 ≤ zn.toInt) (n1 : zn.toInt ≤ 160) :
    ∀ (N : Nat) (ws : va_W) (zc : Int32) (lv : List (Nat × Value)), (160 - zc.toInt).toNat < N → ai_wd tb_TY ad tys ws → ai_sl ws 26 1 (.int zn) → ai_sl ws 26 7 (.int zc) → 0 ≤ zc.toInt → zc.toInt ≤ 160 → (∀ i, i < 160 → fx_o ws 27 i = some (g i)) → ai_lo ad b [0] (sk_lo j) lv →
    (∀ (ws' : va_W) (lv' : List (Nat × Value)) (ze : Int32), ai_wd tb_TY ad tys ws' → ai_fr sk_WR ws ws' → ai_sl ws' 26 7 (.int ze) → 0 ≤ ze.toInt → ze.toInt ≤ 160 → ze.toInt.toNat = tp_skip g zn.toInt.toNat (fx_lo j) (fx_hi j) zc.toInt.toNat → hG tb_m35 p l e R s m args below meth c D A cells slots Q 50 lv' [] ws') → hG tb_m35 p l e R s m args below meth c D A cells slots Q 0 lv [] ws := by
  intro N
  induction N with
  | zero => exact fun ws zc lv h => absurd h (Nat.not_lt_zero _)
  | succ N ih =>
    intro ws zc lv hN hw hn hc c0 c1 hg hlv k
    refine sk_step hj C hw hn hc n0 n1 c0 c1 hg hlv (fun ws' lv' hw' hf hc' ho => ?_) (fun ws' lv' zc' hw' hf hc' e1 hlt a1 a2 hlv' => ?_)
    · refine k ws' lv' zc hw' hf hc' c0 c1 ?_
      rw [tp_skip_out]
      omega
    · intro H locs ls hP hD hS hl
      refine lv_goto (tgt := 0) C.1 C.2.1 (tv_m35.1.1.1 (47, .goto (-47), 3) (List.mem_of_getElem? (i := 25) rfl)) (by decide) ?_
      refine ih ws' zc' lv' (by omega) hw' (hf 26 1 _ (by decide) hn) hc' (by omega) (by omega) (fun i hi => fr_fx hw' (k := 27) rfl hf (by unfold ai_wr sk_WR; simp) (hg i hi)) hlv' (fun ws2 lv2 ze hw2 hf2 h7 e0 e2 e3 => ?_) H locs ls hP hD hS hl
      refine k ws2 lv2 ze hw2 (hf.tr hf2) h7 e0 e2 ?_
      rw [e3, tp_skip_in (p := zc.toInt.toNat) (by omega) a1 a2, show zc'.toInt.toNat = zc.toInt.toNat + 1 by omega]
end SKP
end
section
/-! skip as a known method, with its fact -/
theorem fx_has {ad : List Nat} {tys : ai_ty} {ws : va_W} {k n i : Nat} {pat : List ai_f} (h : ai_wd tb_TY ad tys ws) (hT : tb_TY[k]? = some (1, n, pat)) (hi : i < n) : ∃ t, fx_o ws k i = some t := by
  obtain ⟨a, e, h1, h2, h3⟩ := h.get hT
  rcases h3 with ⟨z, -⟩ | ⟨-, cA, f, rfl, -, -⟩ | ⟨z, -⟩ | ⟨z, -⟩
  · exact absurd (id z : (1 : Nat) = 0) (by decide)
  · exact ⟨_, fx_sl_o ⟨a, cA, n, f, h1, hi, rfl⟩⟩
  · exact absurd (id z : (1 : Nat) = 3) (by decide)
  · exact absurd (id z : (1 : Nat) = 4) (by decide)
theorem fx_g {ad : List Nat} {tys : ai_ty} {ws : va_W} (h : ai_wd tb_TY ad tys ws) : fx_tape ws (fx_at ws 27) := fun i hi => by
  obtain ⟨t, ht⟩ := fx_has (k := 27) h rfl hi
  unfold fx_at
  rw [ht]
  rfl
theorem tp_sk_congr {g g' : Nat → Int} {lo hi : Int} : ∀ (f p : Nat), (∀ i, p ≤ i → i < p + f → g i = g' i) → tp_sk g lo hi f p = tp_sk g' lo hi f p
  | 0, _, _ => rfl
  | f + 1, p, h => by
    show (if tp_i (g p) lo hi = true then tp_sk g lo hi f (p + 1) else p) = (if tp_i (g' p) lo hi = true then tp_sk g' lo hi f (p + 1) else p)
    rw [h p (Nat.le_refl _) (by omega), tp_sk_congr f (p + 1) (fun i h1 h2 => h i (by omega) (by omega))]
theorem tp_skip_congr {g g' : Nat → Int} {n p : Nat} {lo hi : Int} (h : ∀ i, i < n → g i = g' i) : tp_skip g n lo hi p = tp_skip g' n lo hi p := by
  unfold tp_skip
  exact tp_sk_congr _ _ (fun i h1 h2 => h i (by omega))
def nowr (WR : List (Nat × Nat × Nat)) (c : Nat) : Bool := !(WR.any fun q => Nat.beq q.1 c || Nat.beq q.1 1000)
theorem nowr_ok {WR : List (Nat × Nat × Nat)} {c : Nat} (h : nowr WR c = true) (i j : Nat) : ai_wr WR c i j = false := by
  unfold nowr at h
  rw [Bool.not_eq_true'] at h
  unfold ai_wr
  rw [List.any_eq_false]
  intro q hq hx
  have := List.any_eq_false.mp h q hq
  rw [Bool.or_eq_true, ai_beq, ai_beq] at this
  rw [Bool.and_eq_true, Bool.and_eq_true, Bool.or_eq_true, decide_eq_true_eq, decide_eq_true_eq] at hx
  exact this hx.1.1
/-- the tape of w0 is the tape now -/
theorem tape_now {ad : List Nat} {tys : ai_ty} {WR : List (Nat × Nat × Nat)} {w0 ws : va_W} {g : Nat → Int} (h : ai_wd tb_TY ad tys ws) (hf : ai_fr WR w0 ws) (hn : nowr WR 27 = true) (hg : fx_tape w0 g) : ∀ i, i < 160 → fx_at ws 27 i = g i := fun i hi => by
  have a := fr_fx (k := 27) h rfl hf (nowr_ok hn i i) (hg i hi)
  unfold fx_at
  rw [a]
  rfl
theorem kn_fr {ad : List Nat} {b : Nat} {r : List Int} {Z : List (Nat × Nat × Nat)} {ws ws' : va_W} {kn : List ai_k} (hf : ai_fr Z ws ws') (hk : ai_kn ad b r ws kn) (hz : ∀ q ∈ kn, ai_wr Z q.1 q.2.1 q.2.1 = false) : ai_kn ad b r ws' kn := fun q hq => by
  obtain ⟨x, h1, h2⟩ := hk q hq
  exact ⟨x, hf _ _ _ (hz q hq) h1, h2⟩
theorem wr1 {c i k j : Nat} (h : ¬ (k = c ∧ j = i)) (hc : c ≠ 1000) : ai_wr [(c, i, i + 1)] k j j = false := by
  unfold ai_wr
  rw [List.any_eq_false]
  intro q hq hx
  rw [List.mem_singleton.mp hq] at hx
  simp only [Bool.and_eq_true, Bool.or_eq_true, decide_eq_true_eq] at hx
  omega
theorem dr_out {kn : List ai_k} {c i : Nat} {q : ai_k} (h : q ∈ ai_dr kn c i i) : q ∈ kn ∧ ¬ (q.1 = c ∧ q.2.1 = i) := by
  unfold ai_dr at h
  obtain ⟨h1, h2⟩ := List.mem_filter.mp h
  refine ⟨h1, fun hc => ?_⟩
  rw [Bool.not_eq_true', Bool.and_eq_false_iff] at h2
  rcases h2 with h2 | h2
  · rw [ai_beq.mpr hc.1] at h2
    cases h2
  · rw [Bool.and_eq_false_iff] at h2
    rcases h2 with h2 | h2
    · rw [Nat.ble_eq_true_of_le (by omega)] at h2
      cases h2
    · rw [Nat.ble_eq_true_of_le (by omega)] at h2
      cases h2
def su_j (lo : List (Nat × ai_v)) : Option Nat := if decide (lo = sk_lo 0) = true then some 0 else if decide (lo = sk_lo 1) = true then some 1 else if decide (lo = sk_lo 2) = true then some 2 else none
theorem su_j_ok {lo : List (Nat × ai_v)} {j : Nat} (h : su_j lo = some j) : j < 3 ∧ lo = sk_lo j := by
  unfold su_j at h
  split at h
  · rename_i hd
    cases h
    exact ⟨by decide, decide_eq_true_eq.mp hd⟩
  · split at h
    · rename_i hd
      cases h
      exact ⟨by decide, decide_eq_true_eq.mp hd⟩
    · split at h
      · rename_i hd
        cases h
        exact ⟨by decide, decide_eq_true_eq.mp hd⟩
      · cases h
def su_sk (WR : List (Nat × Nat × Nat)) (st : ai_s) : Option (List ai_s) :=
  (ai_lk st.2.2.2.2.1 26 7).bind fun v => (ai_lk st.2.2.2.2.1 26 1).bind fun w => (su_j st.2.1).bind fun j =>
    if v.1 = 1 ∧ w.1 = 1 ∧ w.2.2.2 = 0 ∧ st.2.2.1 = [] ∧ ai_wr WR 26 7 7 = true ∧ nowr WR 27 = true ∧ ai_z st.2.2.2.1 = true then
      some [(50, [], [], st.2.2.2.1 ++ [(0, 160, false, v.2.1, v.2.2.2)], (26, 7, (1, st.2.2.2.1.length, 0, 0)) :: ai_dr st.2.2.2.2.1 26 7 7, (320 + j, v.2.1, w.2.1, st.2.2.2.1.length, v.2.2.2) :: st.2.2.2.2.2)] else none
theorem f267 {ad : List Nat} {tys : ai_ty} {ws : va_W} {i : Nat} {z : Int32} {lo hi : Int} (h : ai_wd tb_TY ad tys ws) (hs : ai_sl ws 26 i (.int z)) (hF : (tb_TY[26]?).bind (fun t => t.2.2[i]?) = some (1, 0, lo, hi)) : lo ≤ z.toInt ∧ z.toInt ≤ hi := by
  obtain ⟨a, e, h1, h2, h3⟩ := h.get (c := 26) rfl
  rcases h3 with ⟨-, fs, rfl, h4, h5⟩ | ⟨z, -⟩ | ⟨z, -⟩ | ⟨z, -⟩
  · obtain ⟨x, h6, h7⟩ := h5 i _ hF
    obtain ⟨a', e', s1, s2⟩ := hs
    rw [h1] at s1
    cases s1
    rcases s2 with ⟨ci, fs', q, q2⟩ | ⟨cA', n', f', q, q2, q3⟩ | ⟨cA', n', f', q, -⟩
    · cases q
      rw [h6] at q2
      cases q2
      rcases h7 with ⟨z, -⟩ | ⟨-, j, q, b1, b2⟩ | ⟨z, -⟩
      · exact absurd (id z : (1 : Nat) = 0) (by decide)
      · cases q
        exact ⟨b1, b2⟩
      · exact absurd (id z : (1 : Nat) = 2) (by decide)
    · cases q
    · cases q
  · rcases z with z | z
    · exact absurd (id z : (0 : Nat) = 1) (by decide)
    · exact absurd (id z : (0 : Nat) = 2) (by decide)
  · exact absurd (id z : (0 : Nat) = 3) (by decide)
  · exact absurd (id z : (0 : Nat) = 4) (by decide)
theorem su_sk_ok {WR : List (Nat × Nat × Nat)} {d : Nat} {st : ai_s} {xs : List ai_s} (hq : su_sk WR st = some xs) (h0 : st.1 = 0) (hd : 3 ≤ d) {w0 : va_W} {ad : List Nat} {p : Program} {l : Launch} {e : Env} {R : Room} {s : State} {m : MethodId} {args : Array Value} {below : List Frame} {meth : Method} {c : Code} {D : va_G} {tys : ai_ty} {A : Nat → Prop} {b L : Nat} {sx : Nat → Int32} {cells slots : Nat} {Q : State → Prop} {r0 : List Int}
    (C : ai_cx tb_m35 d p R s m args c D tys A b L sx cells slots) (k : ∀ x ∈ xs, ai_G tb_TY WR w0 ad tb_m35 p l e R s m args below meth c D tys A b L sx cells slots Q r0 x) : ai_G tb_TY WR w0 ad tb_m35 p l e R s m args below meth c D tys A b L sx cells slots Q r0 st := by
  unfold su_sk at hq
  obtain ⟨v, v1, hq⟩ := Option.bind_eq_some_iff.mp hq
  obtain ⟨w, w1, hq⟩ := Option.bind_eq_some_iff.mp hq
  obtain ⟨j, j1, hq⟩ := Option.bind_eq_some_iff.mp hq
  obtain ⟨hj, hlo⟩ := su_j_ok j1
  split at hq
  · rename_i hc
    obtain ⟨c1, c2, c3, c4, c5, c6, c7⟩ := hc
    injection hq with hq
    subst hq
    intro r lv sk ws H locs ls hx g hP hD hS hl
    obtain ⟨g1, g2, g3, g4, g5, g6, g7, g8⟩ := g
    have hsk : sk = [] := by rw [c4] at g4; exact g4.nil
    subst hsk
    rw [h0]
    obtain ⟨x1, s1, d1⟩ := ai_lk_ok g6 v1
    obtain ⟨x2, s2, d2⟩ := ai_lk_ok g6 w1
    obtain ⟨zc, rfl⟩ : ∃ i : Int32, x1 = .int i := by
      rcases d1 with ⟨q, -⟩ | ⟨-, z, i, -, q2, -⟩ | ⟨q, -⟩ | ⟨q, -⟩ | ⟨q, -⟩
      · omega
      · exact ⟨i, q2⟩
      all_goals omega
    obtain ⟨zn, rfl⟩ : ∃ i : Int32, x2 = .int i := by
      rcases d2 with ⟨q, -⟩ | ⟨-, z, i, -, q2, -⟩ | ⟨q, -⟩ | ⟨q, -⟩ | ⟨q, -⟩
      · omega
      · exact ⟨i, q2⟩
      all_goals omega
    obtain ⟨za, a1, a2⟩ := ai_dv1 d1 c1
    obtain ⟨zb, b1, b2⟩ := ai_dv1 d2 c2
    rw [c3] at b2
    obtain ⟨e1, e2⟩ := f267 (i := 7) g5 s1 rfl
    obtain ⟨e3, e4⟩ := f267 (i := 1) g5 s2 rfl
    have r00 : r[0]? = some 0 := ai_z_ok g1 c7
    have hrl : r.length = st.2.2.2.1.length := g1.1
    refine sk_loop (g := fx_at ws 27) hj (mm_cx hd C) e3 e4 ((160 - zc.toInt).toNat + 1) ws zc lv (Nat.lt_succ_self _) g5 s2 s1 e1 e2 (fx_g g5) (lo0_ok r00 rfl rfl (by rw [← hlo]; exact g3)) (fun ws' lv' ze hw' hf h7 z0 z1 ez => ?_) H locs ls hP hD hS hl
    intro H' locs' ls' hP' hD' hS' hl'
    have hle := (tp_skip_le (g := fx_at ws 27) (n := zn.toInt.toNat) (p := zc.toInt.toNat) (lo := fx_lo j) (hi := fx_hi j)).1
    refine k _ (List.mem_singleton.mpr rfl) (r ++ [ze.toInt]) [] [] ws' H' locs' ls' (hx.tr ai_x.push) ⟨g1.push ⟨z0, z1, (fun h => by cases h), za, ai_x.push.at a1, by show za + v.2.2.2 ≤ ze.toInt; omega⟩, ?_, trivial, trivial, hw', ?_, ?_, fun h => by cases h⟩ hP' hD' hS' ⟨hl'.1, hl'.2.1, fun q hq => by cases hq⟩
    · intro q hq
      rcases List.mem_cons.mp hq with rfl | hq
      · refine ⟨za, zb, ze.toInt, ai_x.push.at a1, ai_x.push.at b1, ai_last g1.1, fun h => absurd (show 320 + j = 0 from h) (by omega), fun h => absurd (show 320 + j = 1 from h) (by omega), fun h => absurd (show 320 + j = 2 from h) (by omega), fun h => absurd (show 320 + j = 4 from h) (by omega), fun h => absurd (show 320 + j = 5 from h) (by omega), fun _ => ⟨fun h => absurd (show 1000 ≤ 320 + j from h) (by omega), fun h => absurd (show 320 + j < 300 ∨ (500 ≤ 320 + j ∧ 320 + j < 1000) from h) (by omega), fun g hg => ⟨fun _ h => absurd (show 320 + j < 305 from h) (by omega), fun _ h => absurd (show 320 + j < 318 from h) (by omega), fun _ _ => ⟨za, zb, ze.toInt, ai_x.push.at a1, ai_x.push.at b1, ai_last g1.1, by show 0 ≤ za + v.2.2.2; omega, z0, ?_⟩, fun h => absurd (show 400 ≤ 320 + j from h) (by omega), fun h => absurd (show 320 + j = 330 from h) (by omega)⟩, fun h => absurd (show 320 + j = 350 from h) (by omega)⟩⟩
        show ze.toInt.toNat = tp_skip g zb.toNat (fx_lo (320 + j - 320)) (fx_hi (320 + j - 320)) (za + v.2.2.2).toNat
        rw [Nat.add_sub_cancel_left, ez, ← a2, show zb = zn.toInt by omega]
        exact tp_skip_congr (fun i hi => tape_now g5 g7 c6 hg i (by omega))
      · exact g2.mono ai_x.push q hq
    · intro q hq
      rcases List.mem_cons.mp hq with rfl | hq
      · exact ⟨_, h7, Or.inr (Or.inl ⟨rfl, _, _, ai_last g1.1, rfl, by show ze.toInt = ze.toInt + 0; omega⟩)⟩
      · obtain ⟨q1, q2⟩ := dr_out hq
        obtain ⟨x, k1, k2⟩ := g6 q q1
        exact ⟨x, hf _ _ _ (wr1 (c := 26) (i := 7) q2 (by decide)) k1, k2.mono ai_x.push⟩
    · intro cc i x hwr hsl
      by_cases hci : cc = 26 ∧ i = 7
      · rw [hci.1, hci.2, c5] at hwr
        cases hwr
      · exact hf cc i x (wr1 (c := 26) (i := 7) hci (by decide)) (g7 cc i x hwr hsl)
  · cases hq
end
section
/-- a field, an element of a row: its int, within its kind's bounds -/
theorem pl_f {T : List ai_c} {ad : List Nat} {tys : ai_ty} {ws : va_W} {k ci i : Nat} {F : List ai_f} {lo hi : Int} (h : ai_wd T ad tys ws) (hT : T[k]? = some (0, ci, F)) (hF : F[i]? = some (1, 0, lo, hi)) : ∃ z : Int32, ai_sl ws k i (.int z) ∧ lo ≤ z.toInt ∧ z.toInt ≤ hi := by
  obtain ⟨a, e, h1, h2, h3⟩ := h.get hT
  rcases h3 with ⟨-, fs, rfl, h4, h5⟩ | ⟨z, -⟩ | ⟨z, -⟩ | ⟨z, -⟩
  · obtain ⟨x, h6, h7⟩ := h5 i _ hF
    rcases h7 with ⟨z, -⟩ | ⟨-, j, rfl, b1, b2⟩ | ⟨z, -⟩
    · exact absurd (id z : (1 : Nat) = 0) (by decide)
    · exact ⟨j, ⟨a, _, h1, Or.inl ⟨ci, fs, rfl, h6⟩⟩, b1, b2⟩
    · exact absurd (id z : (1 : Nat) = 2) (by decide)
  · rcases z with z | z
    · exact absurd (id z : (0 : Nat) = 1) (by decide)
    · exact absurd (id z : (0 : Nat) = 2) (by decide)
  · exact absurd (id z : (0 : Nat) = 3) (by decide)
  · exact absurd (id z : (0 : Nat) = 4) (by decide)
theorem pl_a {T : List ai_c} {ad : List Nat} {tys : ai_ty} {ws : va_W} {k n i a0 b0 : Nat} {pat : List ai_f} {lo hi : Int} (h : ai_wd T ad tys ws) (hT : T[k]? = some (1, n, pat)) (hi' : i < n) (hF : ai_pt pat i = some (a0, b0, lo, hi)) : ∃ z : Int32, ai_sl ws k i (.int z) ∧ lo ≤ z.toInt ∧ z.toInt ≤ hi := by
  obtain ⟨a, e, h1, h2, h3⟩ := h.get hT
  rcases h3 with ⟨z, -⟩ | ⟨-, cA, f, rfl, -, h5⟩ | ⟨z, -⟩ | ⟨z, -⟩
  · exact absurd (id z : (1 : Nat) = 0) (by decide)
  · obtain ⟨b1, b2⟩ := h5 i _ hi' hF
    exact ⟨f i, ⟨a, _, h1, Or.inr (Or.inl ⟨cA, n, f, rfl, hi', rfl⟩)⟩, b1, b2⟩
  · exact absurd (id z : (1 : Nat) = 3) (by decide)
  · exact absurd (id z : (1 : Nat) = 4) (by decide)
/-! takeNumber, by hand over its walks -/
def tn_lo : List (Nat × ai_v) := [(0, (0, 26, 0, 0))]
def tn_WR : List (Nat × Nat × Nat) := [(26, 8, 9), (26, 10, 11)]
def tn_st : ai_s := (0, tn_lo, [], [(0, 0, false, 0, 0), (0, 2555, false, 1, 0), (0, 160, false, 2, 0), (0, 160, false, 3, 0)], [(26, 9, (1, 2, 0, 0)), (26, 7, (1, 3, 0, 0))], [])
def tn_d (x : ai_s) (f : ai_e → Bool) : Bool := x.2.2.2.2.2.any fun q => Nat.beq q.1 0 && (Nat.beq q.2.1 3 && (Nat.beq q.2.2.1 2 && (decide (q.2.2.2.2 = 0) && (x.2.2.2.1[q.2.2.2.1]?).any f)))
def tn_ok (x : ai_s) : Bool := x.2.2.1.isEmpty && ((Nat.beq x.1 18 && (decide (ai_lk x.2.2.2.2.1 26 8 = some (1, 0, 0, 4)) && tn_d x fun e => decide (3 ≤ e.1))) || (Nat.beq x.1 19 && (decide (x.2.1 = tn_lo) && tn_d x fun e => decide (e.2.1 ≤ 2))))
theorem tn_r : ((ai_ex (hk tn_WR) 60 36 tb_m36 3 [19] tn_st).any fun xs => xs.all tn_ok) = true := by decide +kernel
/-- one figure, two figures -/
def ta_st (k : Nat) : ai_s := (19, tn_lo, [], [(0, 0, false, 0, 0), (0, 2555, false, 1, 0), (0, 160 - (k : Int), false, 2, 0)], [(26, 9, (1, 2, 0, 0)), (26, 7, (1, 2, 0, (k : Int)))], [])
def ta_g (x : ai_s) (n : Nat) (o : Int) : Bool := x.2.2.2.2.2.any fun q => Nat.beq q.1 1027 && (Nat.beq q.2.1 2 && (Nat.beq q.2.2.2.1 n && decide (q.2.2.2.2 = o)))
def ta_m (x : ai_s) (v m : Nat) : Bool := x.2.2.2.2.2.any fun q => Nat.beq q.1 510 && (Nat.beq q.2.1 v && (Nat.beq q.2.2.2.1 m && decide (q.2.2.2.2 = -48)))
def ta_1 (x : ai_s) : Bool := x.2.2.1.isEmpty && (Nat.beq x.1 69 && (decide (ai_lk x.2.2.2.2.1 26 8 = some (1, 0, 0, 2)) && (ai_lk x.2.2.2.2.1 26 10).any fun v => decide (v = (1, v.2.1, 0, -48)) && ta_g x v.2.1 0))
def ta_2 (x : ai_s) : Bool := x.2.2.1.isEmpty && (Nat.beq x.1 69 && (decide (ai_lk x.2.2.2.2.1 26 8 = some (1, 0, 0, 2)) && (ai_lk x.2.2.2.2.1 26 10).any fun v => decide (v = (1, v.2.1, 0, -48)) && x.2.2.2.2.2.any fun q => Nat.beq q.1 1 && (Nat.beq q.2.2.2.1 v.2.1 && (decide (q.2.2.2.2 = 0) && (ta_g x q.2.2.1 1 && (((x.2.2.2.1[q.2.2.2.1]?).any fun e => decide (-1000 ≤ e.1) && decide (e.2.1 ≤ 1000)) && x.2.2.2.2.2.any fun q' => Nat.beq q'.1 1027 && (ta_g x q'.2.2.2.1 0 && ta_m x q'.2.2.2.1 q.2.1)))))))
theorem ta_r1 : ((ai_ex (hk tn_WR) 200 36 tb_m36 3 [] (ta_st 1)).any fun xs => xs.all ta_1) = true := by decide +kernel
theorem ta_r2 : ((ai_ex (hk tn_WR) 200 36 tb_m36 3 [] (ta_st 2)).any fun xs => xs.all ta_2) = true := by decide +kernel
theorem kn1 {ad : List Nat} {b : Nat} {r : List Int} {ws : va_W} {k i n : Nat} {o t : Int} {z : Int32} (h : ai_sl ws k i (.int z)) (hr : r[n]? = some t) (hz : z.toInt = t + o) : ∃ x, ai_sl ws k i x ∧ ai_dv ad b r (1, n, 0, o) x := ⟨_, h, Or.inr (Or.inl ⟨rfl, t, z, hr, rfl, hz⟩)⟩
theorem ta_gok {w0 : va_W} {r : List Int} {x : ai_s} {n : Nat} {o zf t : Int} (g2 : ai_sb w0 r x.2.2.2.2.2) (h2 : r[2]? = some zf) (ht : fx_o w0 27 (zf + o).toNat = some t) (h : ta_g x n o = true) : r[n]? = some t := by
  obtain ⟨q, hq, h⟩ := List.any_eq_true.mp h
  rw [Bool.and_eq_true, Bool.and_eq_true, Bool.and_eq_true, ai_beq, ai_beq, ai_beq, decide_eq_true_eq] at h
  obtain ⟨a1, a2, a3, a4⟩ := h
  obtain ⟨za, zb, zr, e1, e2, e3, -, -, -, -, -, e9⟩ := g2 q hq
  obtain ⟨z1, z2, f1, f2, f3, f4⟩ := (e9 (by omega)).1 (by omega)
  rw [a2, h2] at f1
  cases f1
  rw [a1, a4, show 1027 - 1000 = 27 from rfl] at f4
  rw [← a3, f2, f4 t ht]
theorem ta_mok {w0 : va_W} {r : List Int} {x : ai_s} {v m : Nat} (g2 : ai_sb w0 r x.2.2.2.2.2) (h : ta_m x v m = true) : ∃ za zr : Int, r[v]? = some za ∧ r[m]? = some zr ∧ zr = 10 * (za - 48) := by
  obtain ⟨q, hq, h⟩ := List.any_eq_true.mp h
  rw [Bool.and_eq_true, Bool.and_eq_true, Bool.and_eq_true, ai_beq, ai_beq, ai_beq, decide_eq_true_eq] at h
  obtain ⟨a1, a2, a3, a4⟩ := h
  obtain ⟨za, zb, zr, e1, e2, e3, -, -, -, -, -, e9⟩ := g2 q hq
  obtain ⟨z1, z2, f1, f2, -, -, f5, -⟩ := (e9 (by omega)).2.1 (by omega)
  have f6 := f5 (by omega)
  rw [a1, a4] at f6
  refine ⟨z1, z2, by rw [← a2]; exact f1, by rw [← a3]; exact f2, ?_⟩
  rw [f6, show ((510 - 500 : Nat) : Int) = 10 from rfl]
  rfl
theorem tn_dok {w0 : va_W} {r : List Int} {x : ai_s} {zf ze : Int} {f : ai_e → Bool} (g1 : ai_ok r x.2.2.2.1) (g2 : ai_sb w0 r x.2.2.2.2.2) (h2 : r[2]? = some zf) (h3 : r[3]? = some ze) (h : tn_d x f = true) : ∃ e : ai_e, f e = true ∧ e.1 ≤ ze - zf ∧ ze - zf ≤ e.2.1 := by
  obtain ⟨q, hq, h⟩ := List.any_eq_true.mp h
  rw [Bool.and_eq_true, Bool.and_eq_true, Bool.and_eq_true, Bool.and_eq_true, ai_beq, ai_beq, ai_beq, decide_eq_true_eq] at h
  obtain ⟨a1, a2, a3, a4, a5⟩ := h
  obtain ⟨za, zb, zr, e1, e2, e3, e4, -⟩ := g2 q hq
  rw [a2, h3] at e1
  rw [a3, h2] at e2
  cases e1
  cases e2
  have e5 := e4 a1
  obtain ⟨e, b1, b2, b3⟩ := ai_any g1 e3 a5
  exact ⟨e, b1, by omega, by omega⟩
def tz_st : ai_s := (19, tn_lo, [], [(0, 0, false, 0, 0), (0, 2555, false, 1, 0), (0, 160, false, 2, 0), (0, 160, false, 3, 0)], [(26, 9, (1, 2, 0, 0)), (26, 7, (1, 3, 0, 0))], [])
def tz_ok (x : ai_s) : Bool := x.2.2.1.isEmpty && ((Nat.beq x.1 69 && (decide (ai_lk x.2.2.2.2.1 26 8 = some (1, 0, 0, 2)) && decide (ai_lk x.2.2.2.2.1 26 10 = some (1, 0, 0, 0)))) || (Nat.beq x.1 42 && x.2.2.2.2.2.any fun q => Nat.beq q.1 4 && (Nat.beq q.2.1 2 && (Nat.beq q.2.2.1 3 && decide (q.2.2.2.2 = 0)))))
theorem tz_r : ((ai_ex (hk tn_WR) 60 36 tb_m36 3 [42] tz_st).any fun xs => xs.all tz_ok) = true := by decide +kernel
section TNS
variable {ad : List Nat} {p : Program} {l : Launch} {e : Env} {R : Room} {s : State} {m : MethodId} {args : Array Value} {below : List Frame} {meth : Method} {c : Code} {D : va_G} {tys : ai_ty} {A : Nat → Prop} {b L : Nat} {sx : Nat → Int32} {cells slots : Nat} {Q : State → Prop}
theorem tn_fig {k : Nat} (hk : k = 1 ∨ k = 2) (C : ai_cx tb_m36 3 p R s m args c D tys A b L sx cells slots) {ws : va_W} {zf ze : Int32} {g : Nat → Int} (hw : ai_wd tb_TY ad tys ws) (hf : ai_sl ws 26 9 (.int zf)) (he : ai_sl ws 26 7 (.int ze)) (f0 : 0 ≤ zf.toInt) (e1 : ze.toInt ≤ 160) (hlt : ze.toInt = zf.toInt + (k : Int)) (hg : ∀ i, i < 160 → fx_o ws 27 i = some (g i)) {lv : List (Nat × Value)} (hlv : ai_lo ad b [0] tn_lo lv)
    (k2 : ∀ (ws' : va_W) (lv' : List (Nat × Value)) (zv : Int32), ai_wd tb_TY ad tys ws' → ai_fr tn_WR ws ws' → ai_sl ws' 26 8 (.int 2) → ai_sl ws' 26 10 (.int zv) → zv.toInt = tp_num g zf.toInt.toNat ze.toInt.toNat → hG tb_m36 p l e R s m args below meth c D A cells slots Q 69 lv' [] ws') : hG tb_m36 p l e R s m args below meth c D A cells slots Q 19 lv [] ws := by
  have gm : ai_gm tb_TY tn_WR ws ad b L sx tys tb_m36.2.2.2.2.1 [0, 0, zf.toInt] (ta_st k) lv [] ws := by
    refine ⟨⟨rfl, fun n z e hz he => ?_⟩, (fun q hq => by cases hq), lo0_ok (r := [0]) rfl rfl rfl hlv, trivial, hw, fun q hq => ?_, fun _ _ _ _ h => h, fun h => by cases h⟩
    · match n, hz, he with
      | 0, hz, he => cases hz; cases he; exact ⟨Int.le_refl _, Int.le_refl _, (fun h => by cases h), 0, rfl, Int.le_refl _⟩
      | 1, hz, he => cases hz; cases he; exact ⟨by decide, by decide, (fun h => by cases h), 0, rfl, Int.le_refl _⟩
      | 2, hz, he => cases hz; cases he; exact ⟨f0, by show zf.toInt ≤ 160 - (k : Int); omega, (fun h => by cases h), _, rfl, by show zf.toInt + 0 ≤ zf.toInt; omega⟩
      | n + 3, hz, he => cases hz
    · have hq : q ∈ [(26, 9, ((1, 2, 0, 0) : ai_v)), (26, 7, (1, 2, 0, (k : Int)))] := hq
      rcases List.mem_cons.mp hq with rfl | hq
      · exact kn1 hf (n := 2) (t := zf.toInt) rfl (by omega)
      · rcases List.mem_cons.mp hq with rfl | hq
        · exact kn1 he (n := 2) (t := zf.toInt) rfl hlt
        · cases hq
  rcases hk with rfl | rfl
  · obtain ⟨xs, h1, h2⟩ := ai_anyE ta_r1
    refine hseg (st := ta_st 1) h1 rfl C gm (fun x hx r' lv' sk' ws' hx' g' => ?_)
    obtain ⟨g1, g2, g3, g4, g5, g6, g7, g8⟩ := g'
    have r0 : r'[0]? = some 0 := hx'.at rfl
    have r2 : r'[2]? = some zf.toInt := hx'.at rfl
    have hox := List.all_eq_true.mp h2 x hx
    unfold ta_1 at hox
    rw [Bool.and_eq_true, Bool.and_eq_true, Bool.and_eq_true, ai_beq, decide_eq_true_eq] at hox
    obtain ⟨hs, p1, p2, p3⟩ := hox
    have hsk : sk' = [] := by
      rw [List.isEmpty_iff.mp hs] at g4
      exact g4.nil
    subst hsk
    obtain ⟨v, v1, v2⟩ := ai_anyE p3
    rw [Bool.and_eq_true, decide_eq_true_eq] at v2
    obtain ⟨x1, s1, d1⟩ := ai_lk_ok g6 p2
    obtain ⟨i, rfl, hi⟩ := dvn d1 r0
    have hii : i = 2 := Int32.toInt_inj.mp (by rw [hi]; rfl)
    subst hii
    obtain ⟨x2, s2, d2⟩ := ai_lk_ok g6 v1
    have rv := ta_gok (t := g zf.toInt.toNat) g2 r2 (by rw [Int.add_zero]; exact hg _ (by omega)) v2.2
    rw [v2.1] at d2
    obtain ⟨zv, rfl, hv⟩ := dvn d2 rv
    rw [p1]
    refine k2 ws' lv' zv g5 g7 s1 s2 ?_
    unfold tp_num
    rw [if_neg (by omega), if_pos (by omega), hv]
    omega
  · obtain ⟨xs, h1, h2⟩ := ai_anyE ta_r2
    refine hseg (st := ta_st 2) h1 rfl C gm (fun x hx r' lv' sk' ws' hx' g' => ?_)
    obtain ⟨g1, g2, g3, g4, g5, g6, g7, g8⟩ := g'
    have r0 : r'[0]? = some 0 := hx'.at rfl
    have r2 : r'[2]? = some zf.toInt := hx'.at rfl
    have hox := List.all_eq_true.mp h2 x hx
    unfold ta_2 at hox
    rw [Bool.and_eq_true, Bool.and_eq_true, Bool.and_eq_true, ai_beq, decide_eq_true_eq] at hox
    obtain ⟨hs, p1, p2, p3⟩ := hox
    have hsk : sk' = [] := by
      rw [List.isEmpty_iff.mp hs] at g4
      exact g4.nil
    subst hsk
    obtain ⟨v, v1, v2⟩ := ai_anyE p3
    rw [Bool.and_eq_true, decide_eq_true_eq] at v2
    obtain ⟨v2, v3⟩ := v2
    obtain ⟨q, hq, v3⟩ := List.any_eq_true.mp v3
    rw [Bool.and_eq_true, Bool.and_eq_true, Bool.and_eq_true, Bool.and_eq_true, Bool.and_eq_true, ai_beq, ai_beq, decide_eq_true_eq] at v3
    obtain ⟨q1, q2, q3, q4, q5, q6⟩ := v3
    obtain ⟨q', -, q6⟩ := List.any_eq_true.mp q6
    rw [Bool.and_eq_true, Bool.and_eq_true] at q6
    obtain ⟨-, q7, q8⟩ := q6
    obtain ⟨x1, s1, d1⟩ := ai_lk_ok g6 p2
    obtain ⟨i, rfl, hi⟩ := dvn d1 r0
    have hii : i = 2 := Int32.toInt_inj.mp (by rw [hi]; rfl)
    subst hii
    obtain ⟨x2, s2, d2⟩ := ai_lk_ok g6 v1
    have rv := ta_gok (t := g zf.toInt.toNat) g2 r2 (by rw [Int.add_zero]; exact hg _ (by omega)) q7
    have rw' := ta_gok (t := g (zf.toInt.toNat + 1)) g2 r2 (by rw [show (zf.toInt + 1).toNat = zf.toInt.toNat + 1 by omega]; exact hg _ (by omega)) q4
    obtain ⟨za, zm, m1, m2, m3⟩ := ta_mok g2 q8
    rw [rv] at m1
    cases m1
    obtain ⟨ya, yb, yr, y1, y2, y3, -, y4, -⟩ := g2 q hq
    have y5 := y4 q1
    rw [m2] at y1
    cases y1
    rw [rw'] at y2
    cases y2
    rw [q3] at y5
    obtain ⟨e0, b1, b2, b3⟩ := ai_any g1 y3 q5
    rw [Bool.and_eq_true, decide_eq_true_eq, decide_eq_true_eq] at b1
    rw [v2] at d2
    obtain ⟨zv, rfl, hv⟩ := dvn d2 (by rw [← q2]; exact y3)
    rw [p1]
    refine k2 ws' lv' zv g5 g7 s1 s2 ?_
    have b27 : ∀ i, i < 160 → 0 ≤ g i ∧ g i ≤ 127 := fun i hi => by
      obtain ⟨j, j1, j2⟩ := fx_o_sl (hg i hi)
      obtain ⟨z, z1, z2, z3⟩ := pl_a (k := 27) (n := 160) (pat := [(1, 0, 0, 127)]) (lo := 0) (hi := 127) (a0 := 1) (b0 := 0) (i := i) hw rfl hi (by show ([(1, 0, 0, 127)] : List ai_f)[i % 1]? = _; rw [Nat.mod_one]; rfl)
      have := j1.fun z1
      cases this
      omega
    have c1 := b27 zf.toInt.toNat (by omega)
    have c2 := b27 (zf.toInt.toNat + 1) (by omega)
    unfold tp_num
    rw [if_neg (by omega), if_neg (by omega), hv]
    omega
theorem tn_zero (C : ai_cx tb_m36 3 p R s m args c D tys A b L sx cells slots) {ws : va_W} {zf ze : Int32} (hw : ai_wd tb_TY ad tys ws) (hf : ai_sl ws 26 9 (.int zf)) (he : ai_sl ws 26 7 (.int ze)) (f0 : 0 ≤ zf.toInt) (f1 : zf.toInt ≤ 160) (e0 : 0 ≤ ze.toInt) (e1 : ze.toInt ≤ 160) (hle : ze.toInt ≤ zf.toInt) {lv : List (Nat × Value)} (hlv : ai_lo ad b [0] tn_lo lv)
    (k2 : ∀ (ws' : va_W) (lv' : List (Nat × Value)) (zv : Int32), ai_wd tb_TY ad tys ws' → ai_fr tn_WR ws ws' → ai_sl ws' 26 8 (.int 2) → ai_sl ws' 26 10 (.int zv) → zv.toInt = 0 → hG tb_m36 p l e R s m args below meth c D A cells slots Q 69 lv' [] ws') : hG tb_m36 p l e R s m args below meth c D A cells slots Q 19 lv [] ws := by
  have gm : ai_gm tb_TY tn_WR ws ad b L sx tys tb_m36.2.2.2.2.1 [0, 0, zf.toInt, ze.toInt] tz_st lv [] ws := by
    refine ⟨⟨rfl, fun n z e hz he => ?_⟩, (fun q hq => by cases hq), lo0_ok (r := [0]) rfl rfl rfl hlv, trivial, hw, fun q hq => ?_, fun _ _ _ _ h => h, fun h => by cases h⟩
    · match n, hz, he with
      | 0, hz, he => cases hz; cases he; exact ⟨Int.le_refl _, Int.le_refl _, (fun h => by cases h), 0, rfl, Int.le_refl _⟩
      | 1, hz, he => cases hz; cases he; exact ⟨by decide, by decide, (fun h => by cases h), 0, rfl, Int.le_refl _⟩
      | 2, hz, he => cases hz; cases he; exact ⟨f0, f1, (fun h => by cases h), _, rfl, by show zf.toInt + 0 ≤ zf.toInt; omega⟩
      | 3, hz, he => cases hz; cases he; exact ⟨e0, e1, (fun h => by cases h), _, rfl, by show ze.toInt + 0 ≤ ze.toInt; omega⟩
      | n + 4, hz, he => cases hz
    · have hq : q ∈ [(26, 9, ((1, 2, 0, 0) : ai_v)), (26, 7, (1, 3, 0, 0))] := hq
      rcases List.mem_cons.mp hq with rfl | hq
      · exact kn1 hf (n := 2) (t := zf.toInt) rfl (by omega)
      · rcases List.mem_cons.mp hq with rfl | hq
        · exact kn1 he (n := 3) (t := ze.toInt) rfl (by omega)
        · cases hq
  obtain ⟨xs, h1, h2⟩ := ai_anyE tz_r
  refine hseg (st := tz_st) h1 rfl C gm (fun x hx r' lv' sk' ws' hx' g' => ?_)
  obtain ⟨g1, g2, g3, g4, g5, g6, g7, g8⟩ := g'
  have r0 : r'[0]? = some 0 := hx'.at rfl
  have r2 : r'[2]? = some zf.toInt := hx'.at rfl
  have r3 : r'[3]? = some ze.toInt := hx'.at rfl
  have hox := List.all_eq_true.mp h2 x hx
  unfold tz_ok at hox
  rw [Bool.and_eq_true, Bool.or_eq_true] at hox
  obtain ⟨hs, hox⟩ := hox
  have hsk : sk' = [] := by
    rw [List.isEmpty_iff.mp hs] at g4
    exact g4.nil
  subst hsk
  rcases hox with hox | hox
  · rw [Bool.and_eq_true, Bool.and_eq_true, ai_beq, decide_eq_true_eq, decide_eq_true_eq] at hox
    obtain ⟨p1, p2, p3⟩ := hox
    obtain ⟨x1, s1, d1⟩ := ai_lk_ok g6 p2
    obtain ⟨i, rfl, hi⟩ := dvn d1 r0
    have hii : i = 2 := Int32.toInt_inj.mp (by rw [hi]; rfl)
    subst hii
    obtain ⟨x2, s2, d2⟩ := ai_lk_ok g6 p3
    obtain ⟨j, rfl, hj⟩ := dvn d2 r0
    rw [p1]
    exact k2 ws' lv' j g5 g7 s1 s2 (by rw [hj]; rfl)
  · rw [Bool.and_eq_true, ai_beq] at hox
    obtain ⟨q, hq, h⟩ := List.any_eq_true.mp hox.2
    rw [Bool.and_eq_true, Bool.and_eq_true, Bool.and_eq_true, ai_beq, ai_beq, ai_beq, decide_eq_true_eq] at h
    obtain ⟨a1, a2, a3, a4⟩ := h
    obtain ⟨za, zb, zr, y1, y2, -, -, -, -, y4, -⟩ := g2 q hq
    rw [a2, r2] at y1
    rw [a3, r3] at y2
    cases y1
    cases y2
    have := y4 a1
    omega
theorem tn_all (C : ai_cx tb_m36 3 p R s m args c D tys A b L sx cells slots) {ws : va_W} {zf ze : Int32} {g : Nat → Int} (hw : ai_wd tb_TY ad tys ws) (hf : ai_sl ws 26 9 (.int zf)) (he : ai_sl ws 26 7 (.int ze)) (f0 : 0 ≤ zf.toInt) (f1 : zf.toInt ≤ 160) (e0 : 0 ≤ ze.toInt) (e1 : ze.toInt ≤ 160) (hg : ∀ i, i < 160 → fx_o ws 27 i = some (g i)) {lv : List (Nat × Value)} (hlv : ai_lo ad b [0] tn_lo lv)
    (k4 : ∀ (ws' : va_W) (lv' : List (Nat × Value)), ai_wd tb_TY ad tys ws' → ai_fr tn_WR ws ws' → ai_sl ws' 26 8 (.int 4) → 2 < ze.toInt - zf.toInt → hG tb_m36 p l e R s m args below meth c D A cells slots Q 18 lv' [] ws')
    (k2 : ∀ (ws' : va_W) (lv' : List (Nat × Value)) (zv : Int32), ai_wd tb_TY ad tys ws' → ai_fr tn_WR ws ws' → ai_sl ws' 26 8 (.int 2) → ai_sl ws' 26 10 (.int zv) → ze.toInt - zf.toInt ≤ 2 → zv.toInt = tp_num g zf.toInt.toNat ze.toInt.toNat → hG tb_m36 p l e R s m args below meth c D A cells slots Q 69 lv' [] ws') : hG tb_m36 p l e R s m args below meth c D A cells slots Q 0 lv [] ws := by
  obtain ⟨xs, h1, h2⟩ := ai_anyE tn_r
  have gm : ai_gm tb_TY tn_WR ws ad b L sx tys tb_m36.2.2.2.2.1 [0, 0, zf.toInt, ze.toInt] tn_st lv [] ws := by
    refine ⟨⟨rfl, fun n z e hz he => ?_⟩, (fun q hq => by cases hq), lo0_ok (r := [0]) rfl rfl rfl hlv, trivial, hw, fun q hq => ?_, fun _ _ _ _ h => h, fun h => by cases h⟩
    · match n, hz, he with
      | 0, hz, he => cases hz; cases he; exact ⟨Int.le_refl _, Int.le_refl _, (fun h => by cases h), 0, rfl, Int.le_refl _⟩
      | 1, hz, he => cases hz; cases he; exact ⟨by decide, by decide, (fun h => by cases h), 0, rfl, Int.le_refl _⟩
      | 2, hz, he => cases hz; cases he; exact ⟨f0, f1, (fun h => by cases h), _, rfl, by show zf.toInt + 0 ≤ zf.toInt; omega⟩
      | 3, hz, he => cases hz; cases he; exact ⟨e0, e1, (fun h => by cases h), _, rfl, by show ze.toInt + 0 ≤ ze.toInt; omega⟩
      | n + 4, hz, he => cases hz
    · have hq : q ∈ [(26, 9, ((1, 2, 0, 0) : ai_v)), (26, 7, (1, 3, 0, 0))] := hq
      rcases List.mem_cons.mp hq with rfl | hq
      · exact kn1 hf (n := 2) (t := zf.toInt) rfl (by omega)
      · rcases List.mem_cons.mp hq with rfl | hq
        · exact kn1 he (n := 3) (t := ze.toInt) rfl (by omega)
        · cases hq
  refine hseg (st := tn_st) h1 rfl C gm (fun x hx r' lv' sk' ws' hx' g' => ?_)
  obtain ⟨g1, g2, g3, g4, g5, g6, g7, g8⟩ := g'
  have r0 : r'[0]? = some 0 := hx'.at rfl
  have r2 : r'[2]? = some zf.toInt := hx'.at rfl
  have r3 : r'[3]? = some ze.toInt := hx'.at rfl
  have hox := List.all_eq_true.mp h2 x hx
  unfold tn_ok at hox
  rw [Bool.and_eq_true, Bool.or_eq_true] at hox
  obtain ⟨hs, hox⟩ := hox
  have hsk : sk' = [] := by
    rw [List.isEmpty_iff.mp hs] at g4
    exact g4.nil
  subst hsk
  rcases hox with hox | hox
  · rw [Bool.and_eq_true, Bool.and_eq_true, ai_beq, decide_eq_true_eq] at hox
    obtain ⟨p1, p2, p3⟩ := hox
    obtain ⟨w0', b1, b2, b3⟩ := tn_dok g1 g2 r2 r3 p3
    rw [decide_eq_true_eq] at b1
    obtain ⟨x1, s1, d1⟩ := ai_lk_ok g6 p2
    obtain ⟨i, rfl, hi⟩ := dvn d1 r0
    have hii : i = 4 := Int32.toInt_inj.mp (by rw [hi]; rfl)
    subst hii
    rw [p1]
    exact k4 ws' lv' g5 g7 s1 (by omega)
  · rw [Bool.and_eq_true, Bool.and_eq_true, ai_beq, decide_eq_true_eq] at hox
    obtain ⟨p1, p2, p3⟩ := hox
    obtain ⟨w0', b1, b2, b3⟩ := tn_dok g1 g2 r2 r3 p3
    rw [decide_eq_true_eq] at b1
    have hf' : ai_sl ws' 26 9 (.int zf) := g7 26 9 _ (by decide) hf
    have he' : ai_sl ws' 26 7 (.int ze) := g7 26 7 _ (by decide) he
    have hd : ze.toInt ≤ zf.toInt ∨ ze.toInt = zf.toInt + ((1 : Nat) : Int) ∨ ze.toInt = zf.toInt + ((2 : Nat) : Int) := by omega
    have hlv' : ai_lo ad b [0] tn_lo lv' := lo0_ok r0 rfl rfl (by rw [← p2]; exact g3)
    have hg' : ∀ i, i < 160 → fx_o ws' 27 i = some (g i) := fun i hi => fr_fx (k := 27) g5 rfl g7 (by unfold ai_wr tn_WR; simp) (hg i hi)
    rw [p1]
    rcases hd with hd | hd | hd
    · refine tn_zero C g5 hf' he' f0 f1 e0 e1 hd hlv' (fun ws2 lv2 zv a1 a2 a3 a4 a5 => k2 ws2 lv2 zv a1 (g7.tr a2) a3 a4 (by omega) ?_)
      rw [a5]
      unfold tp_num
      rw [if_pos (by omega)]
    · exact tn_fig (k := 1) (Or.inl rfl) C g5 hf' he' f0 e1 hd hg' hlv' (fun ws2 lv2 zv a1 a2 a3 a4 a5 => k2 ws2 lv2 zv a1 (g7.tr a2) a3 a4 (by omega) a5)
    · exact tn_fig (k := 2) (Or.inr rfl) C g5 hf' he' f0 e1 hd hg' hlv' (fun ws2 lv2 zv a1 a2 a3 a4 a5 => k2 ws2 lv2 zv a1 (g7.tr a2) a3 a4 (by omega) a5)
end TNS
end
section
/-! takeNumber as a known method, with its facts -/
def su_tn (WR : List (Nat × Nat × Nat)) (st : ai_s) : Option (List ai_s) :=
  (ai_lk st.2.2.2.2.1 26 9).bind fun v => (ai_lk st.2.2.2.2.1 26 7).bind fun w =>
    if v.1 = 1 ∧ w.1 = 1 ∧ v.2.2.2 = 0 ∧ w.2.2.2 = 0 ∧ st.2.1 = tn_lo ∧ st.2.2.1 = [] ∧ ai_wr WR 26 8 8 = true ∧ ai_wr WR 26 10 10 = true ∧ nowr WR 27 = true ∧ ai_z st.2.2.2.1 = true then
      some [(18, [], [], st.2.2.2.1, (26, 8, (1, 0, 0, 4)) :: ai_dr (ai_dr st.2.2.2.2.1 26 8 8) 26 10 10, (5, w.2.1, v.2.1, w.2.1, 3) :: st.2.2.2.2.2),
        (69, [], [], ai_nu st.2.2.2.1 (-2147483648) 2147483647, (26, 8, (1, 0, 0, 2)) :: (26, 10, (1, st.2.2.2.1.length, 0, 0)) :: ai_dr (ai_dr st.2.2.2.2.1 26 8 8) 26 10 10, (330, v.2.1, w.2.1, st.2.2.2.1.length, 0) :: (4, w.2.1, v.2.1, w.2.1, 3) :: st.2.2.2.2.2)] else none
theorem wr2 {k j : Nat} (h1 : ¬ (k = 26 ∧ j = 8)) (h2 : ¬ (k = 26 ∧ j = 10)) : ai_wr tn_WR k j j = false := by
  unfold ai_wr tn_WR
  rw [List.any_eq_false]
  intro q hq hx
  rcases List.mem_cons.mp hq with rfl | hq
  · simp only [Bool.and_eq_true, Bool.or_eq_true, decide_eq_true_eq] at hx
    omega
  · rw [List.mem_singleton.mp hq] at hx
    simp only [Bool.and_eq_true, Bool.or_eq_true, decide_eq_true_eq] at hx
    omega
theorem su_tn_ok {WR : List (Nat × Nat × Nat)} {d : Nat} {st : ai_s} {xs : List ai_s} (hq : su_tn WR st = some xs) (h0 : st.1 = 0) (hd : 3 ≤ d) {w0 : va_W} {ad : List Nat} {p : Program} {l : Launch} {e : Env} {R : Room} {s : State} {m : MethodId} {args : Array Value} {below : List Frame} {meth : Method} {c : Code} {D : va_G} {tys : ai_ty} {A : Nat → Prop} {b L : Nat} {sx : Nat → Int32} {cells slots : Nat} {Q : State → Prop} {r0 : List Int}
    (C : ai_cx tb_m36 d p R s m args c D tys A b L sx cells slots) (k : ∀ x ∈ xs, ai_G tb_TY WR w0 ad tb_m36 p l e R s m args below meth c D tys A b L sx cells slots Q r0 x) : ai_G tb_TY WR w0 ad tb_m36 p l e R s m args below meth c D tys A b L sx cells slots Q r0 st := by
  unfold su_tn at hq
  obtain ⟨v, v1, hq⟩ := Option.bind_eq_some_iff.mp hq
  obtain ⟨w, w1, hq⟩ := Option.bind_eq_some_iff.mp hq
  split at hq
  · rename_i hc
    obtain ⟨c1, c2, c3, c4, c5, c6, c7, c8, c9, c10⟩ := hc
    injection hq with hq
    subst hq
    intro r lv sk ws H locs ls hx g hP hD hS hl
    obtain ⟨g1, g2, g3, g4, g5, g6, g7, g8⟩ := g
    have hsk : sk = [] := by rw [c6] at g4; exact g4.nil
    subst hsk
    rw [h0]
    obtain ⟨x1, s1, d1⟩ := ai_lk_ok g6 v1
    obtain ⟨x2, s2, d2⟩ := ai_lk_ok g6 w1
    obtain ⟨zf, rfl⟩ : ∃ i : Int32, x1 = .int i := by
      rcases d1 with ⟨q, -⟩ | ⟨-, z, i, -, q2, -⟩ | ⟨q, -⟩ | ⟨q, -⟩ | ⟨q, -⟩
      · omega
      · exact ⟨i, q2⟩
      all_goals omega
    obtain ⟨ze, rfl⟩ : ∃ i : Int32, x2 = .int i := by
      rcases d2 with ⟨q, -⟩ | ⟨-, z, i, -, q2, -⟩ | ⟨q, -⟩ | ⟨q, -⟩ | ⟨q, -⟩
      · omega
      · exact ⟨i, q2⟩
      all_goals omega
    obtain ⟨za, a1, a2⟩ := ai_dv1 d1 c1
    obtain ⟨zb, b1, b2⟩ := ai_dv1 d2 c2
    rw [c3] at a2
    rw [c4] at b2
    obtain ⟨f0, f1⟩ := f267 (i := 9) g5 s1 rfl
    obtain ⟨e0, e1⟩ := f267 (i := 7) g5 s2 rfl
    have r00 : r[0]? = some 0 := ai_z_ok g1 c10
    have keep : ∀ (ws' : va_W) (r' : List Int), ai_fr tn_WR ws ws' → ai_x r r' → ∀ q ∈ ai_dr (ai_dr st.2.2.2.2.1 26 8 8) 26 10 10, ∃ x, ai_sl ws' q.1 q.2.1 x ∧ ai_dv ad b r' q.2.2 x := fun ws' r' hf hx' q hq => by
      obtain ⟨q1, q2⟩ := dr_out hq
      obtain ⟨q3, q4⟩ := dr_out q1
      obtain ⟨x, k1, k2⟩ := g6 q q3
      exact ⟨x, hf _ _ _ (wr2 q4 q2) k1, k2.mono hx'⟩
    have fr : ∀ ws' : va_W, ai_fr tn_WR ws ws' → ai_fr WR w0 ws' := fun ws' hf cc i x hwr hsl => by
      refine hf cc i x (wr2 (fun h => ?_) (fun h => ?_)) (g7 cc i x hwr hsl)
      · rw [h.1, h.2, c7] at hwr
        cases hwr
      · rw [h.1, h.2, c8] at hwr
        cases hwr
    have z8 : ∀ (r' : List Int), ai_x r r' → ∀ (z : Int32) (t : Int), z.toInt = t → ai_dv ad b r' (1, 0, 0, t) (.int z) := fun r' hx' z t hz => Or.inr (Or.inl ⟨rfl, 0, z, hx'.at r00, rfl, by rw [hz]; show t = 0 + t; omega⟩)
    refine tn_all (g := fx_at ws 27) (mm_cx hd C) g5 s1 s2 f0 f1 e0 e1 (fx_g g5) (lo0_ok r00 rfl rfl (by rw [← c5]; exact g3)) (fun ws' lv' hw' hf h8 hgt => ?_) (fun ws' lv' zv hw' hf h8 h10 hle hnum => ?_) H locs ls hP hD hS hl
    · intro H' locs' ls' hP' hD' hS' hl'
      refine k _ (List.mem_of_getElem? (i := 0) rfl) r [] [] ws' H' locs' ls' hx ⟨g1, ?_, trivial, trivial, hw', ?_, fr ws' hf, fun h => by cases h⟩ hP' hD' hS' ⟨hl'.1, hl'.2.1, fun q hq => by cases hq⟩
      · intro q hq
        rcases List.mem_cons.mp hq with rfl | hq
        · exact ⟨zb, za, zb, b1, a1, b1, fun h => absurd (show (5 : Nat) = 0 from h) (by decide), fun h => absurd (show (5 : Nat) = 1 from h) (by decide), fun h => absurd (show (5 : Nat) = 2 from h) (by decide), fun h => absurd (show (5 : Nat) = 4 from h) (by decide), fun _ => (by show za + 3 ≤ zb; omega), fun h => absurd (show (100 : Nat) ≤ 5 from h) (by decide)⟩
        · exact g2 q hq
      · intro q hq
        rcases List.mem_cons.mp hq with rfl | hq
        · exact ⟨_, h8, z8 r ai_x.rf 4 4 rfl⟩
        · exact keep ws' r hf ai_x.rf q hq
    · intro H' locs' ls' hP' hD' hS' hl'
      refine k _ (List.mem_of_getElem? (i := 1) rfl) (r ++ [zv.toInt]) [] [] ws' H' locs' ls' (hx.tr ai_x.push) ⟨g1.nu (Int32.le_toInt _) (Int32.toInt_le _), ?_, trivial, trivial, hw', ?_, fr ws' hf, fun h => by cases h⟩ hP' hD' hS' ⟨hl'.1, hl'.2.1, fun q hq => by cases hq⟩
      · intro q hq
        rcases List.mem_cons.mp hq with rfl | hq
        · refine ⟨za, zb, zv.toInt, ai_x.push.at a1, ai_x.push.at b1, ai_last g1.1, fun h => absurd (show (330 : Nat) = 0 from h) (by decide), fun h => absurd (show (330 : Nat) = 1 from h) (by decide), fun h => absurd (show (330 : Nat) = 2 from h) (by decide), fun h => absurd (show (330 : Nat) = 4 from h) (by decide), fun h => absurd (show (330 : Nat) = 5 from h) (by decide), fun _ => ⟨fun h => absurd (show (1000 : Nat) ≤ 330 from h) (by decide), fun h => absurd (show (330 : Nat) < 300 ∨ (500 ≤ 330 ∧ 330 < 1000) from h) (by decide), fun g hg => ⟨fun _ h => absurd (show (330 : Nat) < 305 from h) (by decide), fun _ h => absurd (show (330 : Nat) < 318 from h) (by decide), fun _ h => absurd (show (330 : Nat) < 323 from h) (by decide), fun h => absurd (show (400 : Nat) ≤ 330 from h) (by decide), fun _ => ⟨za, zb, zv.toInt, ai_x.push.at a1, ai_x.push.at b1, ai_last g1.1, by omega, by omega, ?_⟩⟩, fun h => absurd (show (330 : Nat) = 350 from h) (by decide)⟩⟩
          rw [hnum, show zf.toInt = za by omega, show ze.toInt = zb by omega]
          unfold tp_num
          split
          · rfl
          · split
            · rw [tape_now g5 g7 c9 hg _ (by omega)]
            · rw [tape_now g5 g7 c9 hg _ (by omega), tape_now g5 g7 c9 hg _ (by omega)]
        · rcases List.mem_cons.mp hq with rfl | hq
          · exact ⟨zb, za, zb, ai_x.push.at b1, ai_x.push.at a1, ai_x.push.at b1, fun h => absurd (show (4 : Nat) = 0 from h) (by decide), fun h => absurd (show (4 : Nat) = 1 from h) (by decide), fun h => absurd (show (4 : Nat) = 2 from h) (by decide), fun _ => (by show zb < za + 3; omega), fun h => absurd (show (4 : Nat) = 5 from h) (by decide), fun h => absurd (show (100 : Nat) ≤ 4 from h) (by decide)⟩
          · exact g2.mono ai_x.push q hq
      · intro q hq
        rcases List.mem_cons.mp hq with rfl | hq
        · exact ⟨_, h8, z8 _ ai_x.push 2 2 rfl⟩
        · rcases List.mem_cons.mp hq with rfl | hq
          · exact ⟨_, h10, Or.inr (Or.inl ⟨rfl, _, _, ai_last g1.1, rfl, by show zv.toInt = zv.toInt + 0; omega⟩)⟩
          · exact keep ws' _ hf ai_x.push q hq
  · cases hq
end
section
/-! advance is sp_tok: the walk with skip and takeNumber known, each end by hand -/
def sv_su (WR : List (Nat × Nat × Nat)) (mid : Nat) (st : ai_s) : Option (List ai_s) := if Nat.beq mid 35 = true then su_sk WR st else if Nat.beq mid 36 = true then su_tn WR st else none
def hkS (WR : List (Nat × Nat × Nat)) : ai_K := (tb_TY, WR, tb_MT, [], sv_su WR, [])
theorem hkS_su {WR : List (Nat × Nat × Nat)} : ai_SU (hkS WR) := by
  intro mid d cu st xs M h0 hM0 w0 ad p l e R s m args below meth c D tys A b L sx cells slots Q r0 C k
  have h : (if (Nat.beq st.1 0 && Nat.ble (ai_gd mid) d) = true then sv_su WR mid st else none) = some xs := h0
  have hM : tb_MT[mid]? = some M := hM0
  clear h0 hM0
  split at h
  · rename_i hc
    rw [Bool.and_eq_true, ai_beq] at hc
    have hd : ai_gd mid ≤ d := Nat.le_of_ble_eq_true hc.2
    unfold sv_su at h
    split at h
    · rename_i h35
      cases ai_beq.mp h35
      cases Option.some.inj (hM.symm.trans (rfl : tb_MT[35]? = some tb_m35))
      exact su_sk_ok h hc.1 hd C k
    · split at h
      · rename_i h36
        cases ai_beq.mp h36
        cases Option.some.inj (hM.symm.trans (rfl : tb_MT[36]? = some tb_m36))
        exact su_tn_ok h hc.1 hd C k
      · cases h
  · cases h
section HNS
variable {ad : List Nat} {M : ai_m} {d : Nat} {p : Program} {l : Launch} {e : Env} {R : Room} {s : State} {m : MethodId} {args : Array Value} {below : List Frame} {meth : Method} {c : Code} {D : va_G} {tys : ai_ty} {A : Nat → Prop} {b L : Nat} {sx : Nat → Int32} {cells slots : Nat} {Q : State → Prop}
theorem hsegS {WR : List (Nat × Nat × Nat)} {n mid : Nat} {cu : List Nat} {st : ai_s} {xs : List ai_s} (h : ai_ex (hkS WR) n mid M d cu st = some xs) (hM : tb_MT[mid]? = some M) (C : ai_cx M d p R s m args c D tys A b L sx cells slots) {r : List Int} {lv : List (Nat × Value)} {sk : List Value} {ws : va_W} (g : ai_gm tb_TY WR ws ad b L sx tys M.2.2.2.2.1 r st lv sk ws)
    (k : ∀ x ∈ xs, ∀ (r' : List Int) (lv' : List (Nat × Value)) (sk' : List Value) (ws' : va_W), ai_x r r' → ai_gm tb_TY WR ws ad b L sx tys M.2.2.2.2.1 r' x lv' sk' ws' → hG M p l e R s m args below meth c D A cells slots Q x.1 lv' sk' ws') : hG M p l e R s m args below meth c D A cells slots Q st.1 lv sk ws :=
  fun H locs ls hP hD hS hl => (ai_ex_ok (K := hkS WR) hkS_su tv_MT n) mid d cu st xs M h hM C (fun x hx r' lv' sk' ws' H' locs' ls' hx' g' hP' hD' hS' hl' => k x hx r' lv' sk' ws' hx' g' H' locs' ls' hP' hD' hS' hl') r lv sk ws H locs ls ai_x.rf g hP hD hS hl
end HNS
def av_WR : List (Nat × Nat × Nat) := [(26, 7, 11)]
def av_st : ai_s := (0, tn_lo, [], [(0, 0, false, 0, 0), (0, 2555, false, 1, 0), (0, 160, false, 2, 0), (0, 160, false, 3, 0)], [(26, 1, (1, 2, 0, 0)), (26, 7, (1, 3, 0, 0))], [])
/-- a fact (k, a, b, n, o) is among them -/
def av_f (x : ai_s) (k a b : Nat) (n : Option Nat) (o : Int) : Bool := x.2.2.2.2.2.any fun q => Nat.beq q.1 k && (Nat.beq q.2.1 a && (Nat.beq q.2.2.1 b && (decide (q.2.2.2.2 = o) && n.all fun i => Nat.beq q.2.2.2.1 i)))
/-- the byte at f is told, with bounds -/
def av_g (x : ai_s) (f : Nat) (h : ai_e → Bool) : Bool := x.2.2.2.2.2.any fun q => Nat.beq q.1 1027 && (Nat.beq q.2.1 f && (decide (q.2.2.2.2 = 0) && (x.2.2.2.1[q.2.2.2.1]?).any h))
def av_n (x : ai_s) (f : Nat) : Bool := x.2.2.2.2.2.any fun q => Nat.beq q.1 1027 && (Nat.beq q.2.1 f && (decide (q.2.2.2.2 = 0) && av_f x 140 q.2.2.2.1 0 none 59))
def av_out (x : ai_s) (f : Nat) (lo hi : Int) : Bool := av_g x f fun e => decide (e.2.1 < lo) || decide (hi < e.1)
def av_in (x : ai_s) (f : Nat) (lo hi : Int) : Bool := av_g x f fun e => decide (lo ≤ e.1) && decide (e.2.1 ≤ hi)
def av_not (x : ai_s) (f : Nat) : Bool := av_n x f || av_out x f 59 59
def av_ok (x : ai_s) : Bool := x.2.2.1.isEmpty && (Nat.beq x.1 141 && ((ai_lk x.2.2.2.2.1 26 9).any fun vf => decide (vf = (1, vf.2.1, 0, 0)) && (av_f x 320 3 2 (some vf.2.1) 0 &&
  ((decide (ai_lk x.2.2.2.2.1 26 8 = some (1, 0, 0, 0)) && (decide (ai_lk x.2.2.2.2.1 26 7 = some (1, vf.2.1, 0, 0)) && av_f x 5 vf.2.1 2 none 0)) ||
   (av_f x 4 vf.2.1 2 none 0 &&
    ((decide (ai_lk x.2.2.2.2.1 26 8 = some (1, 0, 0, 3)) && (decide (ai_lk x.2.2.2.2.1 26 7 = some (1, vf.2.1, 0, 1)) && av_in x vf.2.1 59 59)) ||
     ((decide (ai_lk x.2.2.2.2.1 26 8 = some (1, 0, 0, 1)) && ((ai_lk x.2.2.2.2.1 26 7).any fun ve => decide (ve = (1, ve.2.1, 0, 0)) && (av_f x 321 vf.2.1 2 (some ve.2.1) 0 && av_in x vf.2.1 97 122))) ||
      ((decide (ai_lk x.2.2.2.2.1 26 8 = some (1, 0, 0, 2)) && ((ai_lk x.2.2.2.2.1 26 7).any fun ve => decide (ve = (1, ve.2.1, 0, 0)) && (av_f x 322 vf.2.1 2 (some ve.2.1) 0 && (av_in x vf.2.1 48 57 && (av_f x 4 ve.2.1 vf.2.1 none 3 && (ai_lk x.2.2.2.2.1 26 10).any fun vn => decide (vn = (1, vn.2.1, 0, 0)) && av_f x 330 vf.2.1 ve.2.1 (some vn.2.1) 0))))) ||
       (decide (ai_lk x.2.2.2.2.1 26 8 = some (1, 0, 0, 4)) &&
        (((ai_lk x.2.2.2.2.1 26 7).any fun ve => decide (ve = (1, ve.2.1, 0, 0)) && (av_f x 322 vf.2.1 2 (some ve.2.1) 0 && (av_in x vf.2.1 48 57 && av_f x 5 ve.2.1 vf.2.1 none 3))) ||
         (decide (ai_lk x.2.2.2.2.1 26 7 = some (1, vf.2.1, 0, 0)) && (av_not x vf.2.1 && (av_out x vf.2.1 97 122 && av_out x vf.2.1 48 57)))))))))))))
noncomputable def av_x : Option (List ai_s) := ai_ex (hkS av_WR) 300 34 tb_m34 4 [] av_st
theorem av_r : (av_x.any fun xs => xs.all av_ok) = true := by decide +kernel
end
section
/-! each end of advance, against sp_tok -/
theorem av_mem {x : ai_s} {k a b : Nat} {n : Option Nat} {o : Int} (h : av_f x k a b n o = true) : ∃ q ∈ x.2.2.2.2.2, q.1 = k ∧ q.2.1 = a ∧ q.2.2.1 = b ∧ q.2.2.2.2 = o ∧ ∀ i, n = some i → q.2.2.2.1 = i := by
  obtain ⟨q, hq, h⟩ := List.any_eq_true.mp h
  rw [Bool.and_eq_true, Bool.and_eq_true, Bool.and_eq_true, Bool.and_eq_true, ai_beq, ai_beq, ai_beq, decide_eq_true_eq] at h
  obtain ⟨h1, h2, h3, h4, h5⟩ := h
  exact ⟨q, hq, h1, h2, h3, h4, fun i hi => by rw [hi] at h5; exact ai_beq.mp h5⟩
theorem av_f4 {w0 : va_W} {r : List Int} {x : ai_s} {a b : Nat} {o za zb : Int} (g2 : ai_sb w0 r x.2.2.2.2.2) (ha : r[a]? = some za) (hb : r[b]? = some zb) (h : av_f x 4 a b none o = true) : za < zb + o := by
  obtain ⟨q, hq, h1, h2, h3, h4, -⟩ := av_mem h
  obtain ⟨ya, yb, yr, e1, e2, -, -, -, -, e4, -⟩ := g2 q hq
  rw [h2, ha] at e1
  rw [h3, hb] at e2
  cases e1
  cases e2
  rw [← h4]
  exact e4 h1
theorem av_f5 {w0 : va_W} {r : List Int} {x : ai_s} {a b : Nat} {o za zb : Int} (g2 : ai_sb w0 r x.2.2.2.2.2) (ha : r[a]? = some za) (hb : r[b]? = some zb) (h : av_f x 5 a b none o = true) : zb + o ≤ za := by
  obtain ⟨q, hq, h1, h2, h3, h4, -⟩ := av_mem h
  obtain ⟨ya, yb, yr, e1, e2, -, -, -, -, -, e5, -⟩ := g2 q hq
  rw [h2, ha] at e1
  rw [h3, hb] at e2
  cases e1
  cases e2
  rw [← h4]
  exact e5 h1
theorem av_sk {w0 : va_W} {r : List Int} {x : ai_s} {g : Nat → Int} {j a n : Nat} {zp zn : Int} (g2 : ai_sb w0 r x.2.2.2.2.2) (hg : fx_tape w0 g) (hj : j < 3) (ha : r[a]? = some zp) (hn : r[2]? = some zn) (h : av_f x (320 + j) a 2 (some n) 0 = true) : ∃ zr : Int, r[n]? = some zr ∧ 0 ≤ zr ∧ zr.toNat = tp_skip g zn.toNat (fx_lo j) (fx_hi j) zp.toNat := by
  obtain ⟨q, hq, h1, h2, h3, h4, h5⟩ := av_mem h
  obtain ⟨ya, yb, yr, -, -, -, -, -, -, -, -, e9⟩ := g2 q hq
  obtain ⟨za, zb, zr, f1, f2, f3, f4, f5, f6⟩ := ((e9 (by omega)).2.2.1 g hg).2.2.1 (by omega) (by omega)
  rw [h2, ha] at f1
  rw [h3, hn] at f2
  cases f1
  cases f2
  rw [h5 n rfl] at f3
  rw [h1, h4, Int.add_zero, Nat.add_sub_cancel_left] at f6
  exact ⟨zr, f3, f5, f6⟩
theorem av_num {w0 : va_W} {r : List Int} {x : ai_s} {g : Nat → Int} {a b n : Nat} {zf ze : Int} (g2 : ai_sb w0 r x.2.2.2.2.2) (hg : fx_tape w0 g) (ha : r[a]? = some zf) (hb : r[b]? = some ze) (h : av_f x 330 a b (some n) 0 = true) : r[n]? = some (tp_num g zf.toNat ze.toNat) := by
  obtain ⟨q, hq, h1, h2, h3, h4, h5⟩ := av_mem h
  obtain ⟨ya, yb, yr, -, -, -, -, -, -, -, -, e9⟩ := g2 q hq
  obtain ⟨yf, ye, yv, f1, f2, f3, f4, f5, f6⟩ := ((e9 (by omega)).2.2.1 g hg).2.2.2.2 h1
  rw [h2, ha] at f1
  rw [h3, hb] at f2
  cases f1
  cases f2
  rw [h5 n rfl] at f3
  rw [f3, f6]
theorem av_gok {w0 : va_W} {r : List Int} {x : ai_s} {g : Nat → Int} {f : Nat} {zf : Int} {h : ai_e → Bool} (g1 : ai_ok r x.2.2.2.1) (g2 : ai_sb w0 r x.2.2.2.2.2) (hg : fx_tape w0 g) (ha : r[f]? = some zf) (hz : zf.toNat < 160) (hh : av_g x f h = true) : ∃ e : ai_e, h e = true ∧ e.1 ≤ g zf.toNat ∧ g zf.toNat ≤ e.2.1 := by
  obtain ⟨q, hq, hh⟩ := List.any_eq_true.mp hh
  rw [Bool.and_eq_true, Bool.and_eq_true, Bool.and_eq_true, ai_beq, ai_beq, decide_eq_true_eq] at hh
  obtain ⟨a1, a2, a3, a4⟩ := hh
  obtain ⟨ya, yb, yr, -, -, -, -, -, -, -, -, e9⟩ := g2 q hq
  obtain ⟨z1, z2, f1, f2, f3, f4⟩ := (e9 (by omega)).1 (by omega)
  rw [a2, ha] at f1
  cases f1
  rw [a1, a3, Int.add_zero, show 1027 - 1000 = 27 from rfl] at f4
  have f5 := f4 _ (hg _ hz)
  subst f5
  obtain ⟨e, b1, b2, b3⟩ := ai_any g1 f2 a4
  exact ⟨e, b1, b2, b3⟩
theorem av_nok {w0 : va_W} {r : List Int} {x : ai_s} {g : Nat → Int} {f : Nat} {zf : Int} (g1 : ai_ok r x.2.2.2.1) (g2 : ai_sb w0 r x.2.2.2.2.2) (hg : fx_tape w0 g) (h0 : r[0]? = some 0) (ha : r[f]? = some zf) (hz : zf.toNat < 160) (hh : av_not x f = true) : g zf.toNat ≠ 59 := by
  unfold av_not at hh
  rw [Bool.or_eq_true] at hh
  rcases hh with hh | hh
  · obtain ⟨q, hq, hh⟩ := List.any_eq_true.mp hh
    rw [Bool.and_eq_true, Bool.and_eq_true, Bool.and_eq_true, ai_beq, ai_beq, decide_eq_true_eq] at hh
    obtain ⟨a1, a2, a3, a4⟩ := hh
    obtain ⟨ya, yb, yr, -, -, -, -, -, -, -, -, e9⟩ := g2 q hq
    obtain ⟨z1, z2, f1, f2, f3, f4⟩ := (e9 (by omega)).1 (by omega)
    rw [a2, ha] at f1
    cases f1
    rw [a1, a3, Int.add_zero, show 1027 - 1000 = 27 from rfl] at f4
    have f5 := f4 _ (hg _ hz)
    subst f5
    obtain ⟨q', hq', h1, h2, h3, h4, -⟩ := av_mem a4
    obtain ⟨ua, ub, ur, -, -, -, -, -, -, -, -, u9⟩ := g2 q' hq'
    obtain ⟨t1, t2, k1, k2, -, -, -, k6, -⟩ := (u9 (by omega)).2.1 (by omega)
    obtain ⟨tb, k7, k8⟩ := k6 h1
    rw [h2, f2] at k1
    cases k1
    rw [h3, h0] at k7
    cases k7
    rw [h4] at k8
    intro hc
    exact k8 (by rw [hc]; rfl)
  · obtain ⟨e, b1, b2, b3⟩ := av_gok g1 g2 hg ha hz hh
    rw [Bool.or_eq_true, decide_eq_true_eq, decide_eq_true_eq] at b1
    omega
theorem av_inok {w0 : va_W} {r : List Int} {x : ai_s} {g : Nat → Int} {f : Nat} {zf lo hi : Int} (g1 : ai_ok r x.2.2.2.1) (g2 : ai_sb w0 r x.2.2.2.2.2) (hg : fx_tape w0 g) (ha : r[f]? = some zf) (hz : zf.toNat < 160) (hh : av_in x f lo hi = true) : lo ≤ g zf.toNat ∧ g zf.toNat ≤ hi := by
  obtain ⟨e, b1, b2, b3⟩ := av_gok g1 g2 hg ha hz hh
  rw [Bool.and_eq_true, decide_eq_true_eq, decide_eq_true_eq] at b1
  omega
theorem av_outok {w0 : va_W} {r : List Int} {x : ai_s} {g : Nat → Int} {f : Nat} {zf lo hi : Int} (g1 : ai_ok r x.2.2.2.1) (g2 : ai_sb w0 r x.2.2.2.2.2) (hg : fx_tape w0 g) (ha : r[f]? = some zf) (hz : zf.toNat < 160) (hh : av_out x f lo hi = true) : g zf.toNat < lo ∨ hi < g zf.toNat := by
  obtain ⟨e, b1, b2, b3⟩ := av_gok g1 g2 hg ha hz hh
  rw [Bool.or_eq_true, decide_eq_true_eq, decide_eq_true_eq] at b1
  omega
section AVA
variable {ad : List Nat} {p : Program} {l : Launch} {e : Env} {R : Room} {s : State} {m : MethodId} {args : Array Value} {below : List Frame} {meth : Method} {c : Code} {D : va_G} {tys : ai_ty} {A : Nat → Prop} {b L : Nat} {sx : Nat → Int32} {cells slots : Nat} {Q : State → Prop}
set_option maxHeartbeats 4000000 in
theorem av_all (C : ai_cx tb_m34 4 p R s m args c D tys A b L sx cells slots) {ws : va_W} {zn zp : Int32} {g : Nat → Int} (hw : ai_wd tb_TY ad tys ws) (hn : ai_sl ws 26 1 (.int zn)) (hp : ai_sl ws 26 7 (.int zp)) (hg : fx_tape ws g) {lv : List (Nat × Value)} (hlv : ai_lo ad b [0] tn_lo lv)
    (k : ∀ (ws' : va_W) (lv' : List (Nat × Value)) (zt zf ze : Int32) (zv : Int), ai_wd tb_TY ad tys ws' → ai_fr av_WR ws ws' → ai_sl ws' 26 8 (.int zt) → ai_sl ws' 26 9 (.int zf) → ai_sl ws' 26 7 (.int ze) → 0 ≤ zt.toInt → 0 ≤ zf.toInt → 0 ≤ ze.toInt → sp_tok g zn.toInt.toNat zp.toInt.toNat = (zt.toInt.toNat, zf.toInt.toNat, ze.toInt.toNat, zv) → (zt.toInt = 2 → ∃ z10 : Int32, ai_sl ws' 26 10 (.int z10) ∧ z10.toInt = zv) → hG tb_m34 p l e R s m args below meth c D A cells slots Q 141 lv' [] ws') : hG tb_m34 p l e R s m args below meth c D A cells slots Q 0 lv [] ws := by
  obtain ⟨n0, n1⟩ := f267 (i := 1) hw hn rfl
  obtain ⟨c0, c1⟩ := f267 (i := 7) hw hp rfl
  have gm : ai_gm tb_TY av_WR ws ad b L sx tys tb_m34.2.2.2.2.1 [0, 0, zn.toInt, zp.toInt] av_st lv [] ws := by
    refine ⟨⟨rfl, fun n z e hz he => ?_⟩, (fun q hq => by cases hq), lo0_ok (r := [0]) rfl rfl rfl hlv, trivial, hw, fun q hq => ?_, fun _ _ _ _ h => h, fun h => by cases h⟩
    · match n, hz, he with
      | 0, hz, he => cases hz; cases he; exact ⟨Int.le_refl _, Int.le_refl _, (fun h => by cases h), 0, rfl, Int.le_refl _⟩
      | 1, hz, he => cases hz; cases he; exact ⟨by decide, by decide, (fun h => by cases h), 0, rfl, Int.le_refl _⟩
      | 2, hz, he => cases hz; cases he; exact ⟨n0, n1, (fun h => by cases h), _, rfl, by show zn.toInt + 0 ≤ zn.toInt; omega⟩
      | 3, hz, he => cases hz; cases he; exact ⟨c0, c1, (fun h => by cases h), _, rfl, by show zp.toInt + 0 ≤ zp.toInt; omega⟩
      | n + 4, hz, he => cases hz
    · have hq : q ∈ [(26, 1, ((1, 2, 0, 0) : ai_v)), (26, 7, (1, 3, 0, 0))] := hq
      rcases List.mem_cons.mp hq with rfl | hq
      · exact kn1 hn (n := 2) (t := zn.toInt) rfl (by omega)
      · rcases List.mem_cons.mp hq with rfl | hq
        · exact kn1 hp (n := 3) (t := zp.toInt) rfl (by omega)
        · cases hq
  obtain ⟨xs, h1, h2⟩ := ai_anyE av_r
  refine hsegS (st := av_st) h1 rfl C gm (fun x hx r' lv' sk' ws' hx' g' => ?_)
  obtain ⟨g1, g2, g3, g4, g5, g6, g7, g8⟩ := g'
  have r0 : r'[0]? = some 0 := hx'.at rfl
  have r2 : r'[2]? = some zn.toInt := hx'.at rfl
  have r3 : r'[3]? = some zp.toInt := hx'.at rfl
  have hox := List.all_eq_true.mp h2 x hx
  unfold av_ok at hox
  rw [Bool.and_eq_true, Bool.and_eq_true, ai_beq] at hox
  obtain ⟨hs, px, hox⟩ := hox
  have hsk : sk' = [] := by
    rw [List.isEmpty_iff.mp hs] at g4
    exact g4.nil
  subst hsk
  obtain ⟨vf, l9, hox⟩ := ai_anyE hox
  rw [Bool.and_eq_true, Bool.and_eq_true, decide_eq_true_eq] at hox
  obtain ⟨ev, hsk0, hox⟩ := hox
  generalize vf.2.1 = F at *
  subst ev
  obtain ⟨ZF, rF, F0, eF⟩ := av_sk (j := 0) g2 hg (by decide) r3 r2 hsk0
  have eF : tp_skip g zn.toInt.toNat 32 32 zp.toInt.toNat = ZF.toNat := eF.symm
  obtain ⟨x9, s9, d9⟩ := ai_lk_ok g6 l9
  obtain ⟨zf, rfl, hzf⟩ := dvn d9 rF
  have tok : ∀ {t : Int}, ai_lk x.2.2.2.2.1 26 8 = some (1, 0, 0, t) → ∃ zt : Int32, ai_sl ws' 26 8 (.int zt) ∧ zt.toInt = t := fun {t} h => by
    obtain ⟨x8, s8, d8⟩ := ai_lk_ok g6 h
    obtain ⟨zt, rfl, hzt⟩ := dvn d8 r0
    exact ⟨zt, s8, by omega⟩
  rw [px]
  rw [Bool.or_eq_true] at hox
  rcases hox with hox | hox
  · rw [Bool.and_eq_true, Bool.and_eq_true, decide_eq_true_eq, decide_eq_true_eq] at hox
    obtain ⟨t0, a0, f5⟩ := hox
    have f5 := av_f5 g2 rF r2 f5
    obtain ⟨zt, s8, ht⟩ := tok t0
    obtain ⟨x7, s7, d7⟩ := ai_lk_ok g6 a0
    obtain ⟨ze, rfl, hze⟩ := dvn d7 rF
    refine k ws' lv' zt zf ze 0 g5 g7 s8 s9 s7 (by omega) (by omega) (by omega) ?_ (fun h => absurd h (by omega))
    unfold sp_tok
    rw [eF, if_pos (by omega), ht, show zf.toInt.toNat = ZF.toNat by omega, show ze.toInt.toNat = ZF.toNat by omega]
    rfl
  · rw [Bool.and_eq_true] at hox
    obtain ⟨f4, hox⟩ := hox
    have f4 := av_f4 g2 rF r2 f4
    have hF : ZF.toNat < 160 := by omega
    rw [Bool.or_eq_true] at hox
    rcases hox with hox | hox
    · rw [Bool.and_eq_true, Bool.and_eq_true, decide_eq_true_eq, decide_eq_true_eq] at hox
      obtain ⟨t0, a0, i0⟩ := hox
      have i0 := av_inok g1 g2 hg rF hF i0
      obtain ⟨zt, s8, ht⟩ := tok t0
      obtain ⟨x7, s7, d7⟩ := ai_lk_ok g6 a0
      obtain ⟨ze, rfl, hze⟩ := dvn d7 rF
      refine k ws' lv' zt zf ze 0 g5 g7 s8 s9 s7 (by omega) (by omega) (by omega) ?_ (fun h => absurd h (by omega))
      unfold sp_tok
      rw [eF, if_neg (by omega), if_pos (by omega), ht, show zf.toInt.toNat = ZF.toNat by omega, show ze.toInt.toNat = ZF.toNat + 1 by omega]
      rfl
    · rw [Bool.or_eq_true] at hox
      rcases hox with hox | hox
      · rw [Bool.and_eq_true, decide_eq_true_eq] at hox
        obtain ⟨t0, hox⟩ := hox
        obtain ⟨ve, l7, hox⟩ := ai_anyE hox
        rw [Bool.and_eq_true, Bool.and_eq_true, decide_eq_true_eq] at hox
        obtain ⟨ee, hs1, i0⟩ := hox
        generalize ve.2.1 = E at *
        subst ee
        have i0 := av_inok g1 g2 hg rF hF i0
        obtain ⟨ZE, rE, E0, eE⟩ := av_sk (j := 1) g2 hg (by decide) rF r2 hs1
        have eE : tp_skip g zn.toInt.toNat 97 122 ZF.toNat = ZE.toNat := eE.symm
        obtain ⟨zt, s8, ht⟩ := tok t0
        obtain ⟨x7, s7, d7⟩ := ai_lk_ok g6 l7
        obtain ⟨ze, rfl, hze⟩ := dvn d7 rE
        refine k ws' lv' zt zf ze 0 g5 g7 s8 s9 s7 (by omega) (by omega) (by omega) ?_ (fun h => absurd h (by omega))
        unfold sp_tok
        rw [eF, if_neg (by omega), if_neg (by omega), if_pos (tp_i_iff.mpr i0), eE, ht, show zf.toInt.toNat = ZF.toNat by omega, show ze.toInt.toNat = ZE.toNat by omega]
        rfl
      · rw [Bool.or_eq_true] at hox
        rcases hox with hox | hox
        · rw [Bool.and_eq_true, decide_eq_true_eq] at hox
          obtain ⟨t0, hox⟩ := hox
          obtain ⟨ve, l7, hox⟩ := ai_anyE hox
          rw [Bool.and_eq_true, Bool.and_eq_true, Bool.and_eq_true, Bool.and_eq_true, decide_eq_true_eq] at hox
          obtain ⟨ee, hs2, i0, h4, hox⟩ := hox
          obtain ⟨vn, l10, hox⟩ := ai_anyE hox
          rw [Bool.and_eq_true, decide_eq_true_eq] at hox
          obtain ⟨en, hnum⟩ := hox
          generalize ve.2.1 = E at *
          subst ee
          generalize vn.2.1 = N at *
          subst en
          have i0 := av_inok g1 g2 hg rF hF i0
          obtain ⟨ZE, rE, E0, eE⟩ := av_sk (j := 2) g2 hg (by decide) rF r2 hs2
          have eE : tp_skip g zn.toInt.toNat 48 57 ZF.toNat = ZE.toNat := eE.symm
          have h4 := av_f4 g2 rE rF h4
          have rN := av_num g2 hg rF rE hnum
          obtain ⟨zt, s8, ht⟩ := tok t0
          obtain ⟨x7, s7, d7⟩ := ai_lk_ok g6 l7
          obtain ⟨ze, rfl, hze⟩ := dvn d7 rE
          obtain ⟨x10, s10, d10⟩ := ai_lk_ok g6 l10
          obtain ⟨z10, rfl, hz10⟩ := dvn d10 rN
          refine k ws' lv' zt zf ze (tp_num g ZF.toNat ZE.toNat) g5 g7 s8 s9 s7 (by omega) (by omega) (by omega) ?_ (fun _ => ⟨z10, s10, by omega⟩)
          unfold sp_tok
          rw [eF, if_neg (by omega), if_neg (by omega), if_neg (fun hc => by have := tp_i_iff.mp hc; omega), if_pos (tp_i_iff.mpr i0), eE, if_neg (by omega), ht, show zf.toInt.toNat = ZF.toNat by omega, show ze.toInt.toNat = ZE.toNat by omega]
          rfl
        · rw [Bool.and_eq_true, decide_eq_true_eq, Bool.or_eq_true] at hox
          obtain ⟨t0, hox⟩ := hox
          obtain ⟨zt, s8, ht⟩ := tok t0
          rcases hox with hox | hox
          · obtain ⟨ve, l7, hox⟩ := ai_anyE hox
            rw [Bool.and_eq_true, Bool.and_eq_true, Bool.and_eq_true, decide_eq_true_eq] at hox
            obtain ⟨ee, hs2, i0, h5⟩ := hox
            generalize ve.2.1 = E at *
            subst ee
            have i0 := av_inok g1 g2 hg rF hF i0
            obtain ⟨ZE, rE, E0, eE⟩ := av_sk (j := 2) g2 hg (by decide) rF r2 hs2
            have eE : tp_skip g zn.toInt.toNat 48 57 ZF.toNat = ZE.toNat := eE.symm
            have h5 := av_f5 g2 rE rF h5
            obtain ⟨x7, s7, d7⟩ := ai_lk_ok g6 l7
            obtain ⟨ze, rfl, hze⟩ := dvn d7 rE
            refine k ws' lv' zt zf ze 0 g5 g7 s8 s9 s7 (by omega) (by omega) (by omega) ?_ (fun h => absurd h (by omega))
            unfold sp_tok
            rw [eF, if_neg (by omega), if_neg (by omega), if_neg (fun hc => by have := tp_i_iff.mp hc; omega), if_pos (tp_i_iff.mpr i0), eE, if_pos (by omega), ht, show zf.toInt.toNat = ZF.toNat by omega, show ze.toInt.toNat = ZE.toNat by omega]
            rfl
          · rw [Bool.and_eq_true, Bool.and_eq_true, Bool.and_eq_true, decide_eq_true_eq] at hox
            obtain ⟨a0, m1, m2, m3⟩ := hox
            have m1 := av_nok g1 g2 hg r0 rF hF m1
            have m2 := av_outok g1 g2 hg rF hF m2
            have m3 := av_outok g1 g2 hg rF hF m3
            obtain ⟨x7, s7, d7⟩ := ai_lk_ok g6 a0
            obtain ⟨ze, rfl, hze⟩ := dvn d7 rF
            refine k ws' lv' zt zf ze 0 g5 g7 s8 s9 s7 (by omega) (by omega) (by omega) ?_ (fun h => absurd h (by omega))
            unfold sp_tok
            rw [eF, if_neg (by omega), if_neg m1, if_neg (fun hc => by have := tp_i_iff.mp hc; omega), if_neg (fun hc => by have := tp_i_iff.mp hc; omega), ht, show zf.toInt.toNat = ZF.toNat by omega, show ze.toInt.toNat = ZF.toNat by omega]
            rfl
end AVA
end
section
/-! advance as a known method: five ends, each with its token -/
theorem tp_num_congr {g g' : Nat → Int} {n f e : Nat} (hn : n ≤ 160) (he : e ≤ n) (h2 : ¬ 2 < e - f) (h : ∀ i, i < 160 → g i = g' i) : tp_num g f e = tp_num g' f e := by
  unfold tp_num
  split
  · rfl
  · split
    · rw [h f (by omega)]
    · rw [h f (by omega), h (f + 1) (by omega)]
theorem sp_tok_congr {g g' : Nat → Int} {n p : Nat} (hn : n ≤ 160) (h : ∀ i, i < 160 → g i = g' i) : sp_tok g n p = sp_tok g' n p := by
  have e : ∀ (lo hi : Int) (q : Nat), tp_skip g n lo hi q = tp_skip g' n lo hi q := fun lo hi q => tp_skip_congr (fun i hi => h i (by omega))
  unfold sp_tok
  simp only [e]
  generalize tp_skip g' n 32 32 p = F
  by_cases hF : n ≤ F
  · rw [if_pos hF, if_pos hF]
  · rw [if_neg hF, if_neg hF, h F (by omega)]
    have hle := (tp_skip_le (g := g') (n := n) (p := F) (lo := 48) (hi := 57)).2 (by omega)
    by_cases h2 : 2 < tp_skip g' n 48 57 F - F
    · rw [if_pos h2, if_pos h2]
    · rw [if_neg h2, if_neg h2, tp_num_congr hn hle h2 h]
theorem sp_tok_ok {g : Nat → Int} {n p t f e : Nat} {v : Int} (h : sp_tok g n p = (t, f, e, v)) : t ≤ 4 ∧ (t ≠ 2 → v = 0) := by
  unfold sp_tok at h
  split at h
  · cases h; exact ⟨by decide, fun _ => rfl⟩
  · split at h
    · cases h; exact ⟨by decide, fun _ => rfl⟩
    · split at h
      · cases h; exact ⟨by decide, fun _ => rfl⟩
      · split at h
        · split at h
          · cases h; exact ⟨by decide, fun _ => rfl⟩
          · cases h; exact ⟨by decide, fun hc => absurd rfl hc⟩
        · cases h; exact ⟨by decide, fun _ => rfl⟩
def av_en (en : List ai_e) : List ai_e := ai_nu (ai_nu (ai_nu en 0 160) 0 160) (-2147483648) 2147483647
def av_end (st : ai_s) (v w : ai_v) (k : Nat) : ai_s := (141, [], [], av_en st.2.2.2.1, (26, 7, (1, st.2.2.2.1.length + 1, 0, 0)) :: (26, 8, (1, 0, 0, (k : Int))) :: (26, 9, (1, st.2.2.2.1.length, 0, 0)) :: ((if Nat.beq k 2 = true then [(26, 10, (1, st.2.2.2.1.length + 2, 0, 0))] else []) ++ ai_dr st.2.2.2.2.1 26 7 10), (300 + k, v.2.1, w.2.1, st.2.2.2.1.length, v.2.2.2) :: st.2.2.2.2.2)
def su_av (WR : List (Nat × Nat × Nat)) (st : ai_s) : Option (List ai_s) :=
  (ai_lk st.2.2.2.2.1 26 7).bind fun v => (ai_lk st.2.2.2.2.1 26 1).bind fun w =>
    if v.1 = 1 ∧ w.1 = 1 ∧ w.2.2.2 = 0 ∧ st.2.1 = tn_lo ∧ st.2.2.1 = [] ∧ (ai_wr WR 26 7 7 = true ∧ ai_wr WR 26 8 8 = true ∧ ai_wr WR 26 9 9 = true ∧ ai_wr WR 26 10 10 = true) ∧ nowr WR 27 = true ∧ ai_z st.2.2.2.1 = true then
      some ((List.range 5).map (av_end st v w)) else none
theorem dr_outR {kn : List ai_k} {c lo hi : Nat} {q : ai_k} (h : q ∈ ai_dr kn c lo hi) : q ∈ kn ∧ ¬ (q.1 = c ∧ lo ≤ q.2.1 ∧ q.2.1 ≤ hi) := by
  unfold ai_dr at h
  obtain ⟨h1, h2⟩ := List.mem_filter.mp h
  refine ⟨h1, fun hc => ?_⟩
  rw [Bool.not_eq_true', Bool.and_eq_false_iff] at h2
  rcases h2 with h2 | h2
  · rw [ai_beq.mpr hc.1] at h2
    cases h2
  · rw [Bool.and_eq_false_iff] at h2
    rcases h2 with h2 | h2
    · rw [Nat.ble_eq_true_of_le hc.2.1] at h2
      cases h2
    · rw [Nat.ble_eq_true_of_le hc.2.2] at h2
      cases h2
theorem wrv {k j : Nat} (h : ¬ (k = 26 ∧ 7 ≤ j ∧ j ≤ 10)) : ai_wr av_WR k j j = false := by
  unfold ai_wr av_WR
  rw [List.any_eq_false]
  intro q hq hx
  rw [List.mem_singleton.mp hq] at hx
  simp only [Bool.and_eq_true, Bool.or_eq_true, decide_eq_true_eq] at hx
  omega
theorem r3_at {r : List Int} {a b c : Int} {n : Nat} (h : r.length = n) : (((r ++ [a]) ++ [b]) ++ [c])[n]? = some a ∧ (((r ++ [a]) ++ [b]) ++ [c])[n + 1]? = some b ∧ (((r ++ [a]) ++ [b]) ++ [c])[n + 2]? = some c := by
  subst h
  refine ⟨?_, ?_, ?_⟩ <;> simp
theorem su_av_ok {WR : List (Nat × Nat × Nat)} {d : Nat} {st : ai_s} {xs : List ai_s} (hq : su_av WR st = some xs) (h0 : st.1 = 0) (hd : 4 ≤ d) {w0 : va_W} {ad : List Nat} {p : Program} {l : Launch} {e : Env} {R : Room} {s : State} {m : MethodId} {args : Array Value} {below : List Frame} {meth : Method} {c : Code} {D : va_G} {tys : ai_ty} {A : Nat → Prop} {b L : Nat} {sx : Nat → Int32} {cells slots : Nat} {Q : State → Prop} {r0 : List Int}
    (C : ai_cx tb_m34 d p R s m args c D tys A b L sx cells slots) (k : ∀ x ∈ xs, ai_G tb_TY WR w0 ad tb_m34 p l e R s m args below meth c D tys A b L sx cells slots Q r0 x) : ai_G tb_TY WR w0 ad tb_m34 p l e R s m args below meth c D tys A b L sx cells slots Q r0 st := by
  unfold su_av at hq
  obtain ⟨v, v1, hq⟩ := Option.bind_eq_some_iff.mp hq
  obtain ⟨w, w1, hq⟩ := Option.bind_eq_some_iff.mp hq
  split at hq
  · rename_i hc
    obtain ⟨c1, c2, c3, c4, c5, ⟨c6, c7, c8, c9⟩, c10, c11⟩ := hc
    injection hq with hq
    subst hq
    intro r lv sk ws H locs ls hx g hP hD hS hl
    obtain ⟨g1, g2, g3, g4, g5, g6, g7, g8⟩ := g
    have hsk : sk = [] := by rw [c5] at g4; exact g4.nil
    subst hsk
    rw [h0]
    obtain ⟨x1, s1, d1⟩ := ai_lk_ok g6 v1
    obtain ⟨x2, s2, d2⟩ := ai_lk_ok g6 w1
    obtain ⟨zp, rfl⟩ : ∃ i : Int32, x1 = .int i := by
      rcases d1 with ⟨q, -⟩ | ⟨-, z, i, -, q2, -⟩ | ⟨q, -⟩ | ⟨q, -⟩ | ⟨q, -⟩
      · omega
      · exact ⟨i, q2⟩
      all_goals omega
    obtain ⟨zn, rfl⟩ : ∃ i : Int32, x2 = .int i := by
      rcases d2 with ⟨q, -⟩ | ⟨-, z, i, -, q2, -⟩ | ⟨q, -⟩ | ⟨q, -⟩ | ⟨q, -⟩
      · omega
      · exact ⟨i, q2⟩
      all_goals omega
    obtain ⟨za, a1, a2⟩ := ai_dv1 d1 c1
    obtain ⟨zb, b1, b2⟩ := ai_dv1 d2 c2
    rw [c3] at b2
    obtain ⟨p0, p1⟩ := f267 (i := 7) g5 s1 rfl
    obtain ⟨n0, n1⟩ := f267 (i := 1) g5 s2 rfl
    have r00 : r[0]? = some 0 := ai_z_ok g1 c11
    refine av_all (g := fx_at ws 27) (mm_cx hd C) g5 s2 s1 (fx_g g5) (lo0_ok r00 rfl rfl (by rw [← c4]; exact g3)) (fun ws' lv' zt zf ze zv hw' hf h8 h9 h7 t0 f0 e0 htok hnum => ?_) H locs ls hP hD hS hl
    intro H' locs' ls' hP' hD' hS' hl'
    obtain ⟨t4, tv⟩ := sp_tok_ok htok
    obtain ⟨-, f1⟩ := f267 (i := 9) hw' h9 rfl
    obtain ⟨-, e1⟩ := f267 (i := 7) hw' h7 rfl
    have zvr : -2147483648 ≤ zv ∧ zv ≤ 2147483647 := by
      by_cases ht2 : zt.toInt = 2
      · obtain ⟨z10, -, h10⟩ := hnum ht2
        rw [← h10]
        exact ⟨Int32.le_toInt _, Int32.toInt_le _⟩
      · rw [tv (by omega)]
        omega
    have hr1 : r.length = st.2.2.2.1.length := g1.1
    have hx3 : ai_x r (((r ++ [zf.toInt]) ++ [ze.toInt]) ++ [zv]) := (ai_x.push.tr ai_x.push).tr ai_x.push
    obtain ⟨q1, q2, q3⟩ := r3_at (a := zf.toInt) (b := ze.toInt) (c := zv) hr1
    refine k _ (List.mem_map.mpr ⟨zt.toInt.toNat, List.mem_range.mpr (by omega), rfl⟩) (((r ++ [zf.toInt]) ++ [ze.toInt]) ++ [zv]) [] [] ws' H' locs' ls' (hx.tr hx3) ⟨((g1.nu f0 f1).nu e0 e1).nu zvr.1 zvr.2, ?_, trivial, trivial, hw', ?_, ?_, fun h => by cases h⟩ hP' hD' hS' ⟨hl'.1, hl'.2.1, fun q hq => by cases hq⟩
    · intro q hq
      rcases List.mem_cons.mp hq with rfl | hq
      · refine ⟨za, zb, zf.toInt, hx3.at a1, hx3.at b1, q1, fun h => absurd (show 300 + zt.toInt.toNat = 0 from h) (by omega), fun h => absurd (show 300 + zt.toInt.toNat = 1 from h) (by omega), fun h => absurd (show 300 + zt.toInt.toNat = 2 from h) (by omega), fun h => absurd (show 300 + zt.toInt.toNat = 4 from h) (by omega), fun h => absurd (show 300 + zt.toInt.toNat = 5 from h) (by omega), fun _ => ⟨fun h => absurd (show 1000 ≤ 300 + zt.toInt.toNat from h) (by omega), fun h => absurd (show 300 + zt.toInt.toNat < 300 ∨ (500 ≤ 300 + zt.toInt.toNat ∧ 300 + zt.toInt.toNat < 1000) from h) (by omega), fun g hg => ⟨fun _ _ => ⟨za, zb, zf.toInt, ze.toInt, zv, hx3.at a1, hx3.at b1, q1, q2, q3, by show 0 ≤ za + v.2.2.2; omega, f0, e0, ?_⟩, fun h => absurd (show 310 ≤ 300 + zt.toInt.toNat from h) (by omega), fun h => absurd (show 320 ≤ 300 + zt.toInt.toNat from h) (by omega), fun h => absurd (show 400 ≤ 300 + zt.toInt.toNat from h) (by omega), fun h => absurd (show 300 + zt.toInt.toNat = 330 from h) (by omega)⟩, fun h => absurd (show 300 + zt.toInt.toNat = 350 from h) (by omega)⟩⟩
        show sp_tok g zb.toNat (za + v.2.2.2).toNat = (300 + zt.toInt.toNat - 300, zf.toInt.toNat, ze.toInt.toNat, zv)
        rw [Nat.add_sub_cancel_left, ← htok, ← a2, show zb = zn.toInt by omega]
        exact (sp_tok_congr (by omega) (tape_now g5 g7 c10 hg)).symm
      · exact g2.mono hx3 q hq
    · intro q hq
      rcases List.mem_cons.mp hq with rfl | hq
      · exact kn1 h7 (n := st.2.2.2.1.length + 1) q2 (by omega)
      · rcases List.mem_cons.mp hq with rfl | hq
        · exact kn1 h8 (n := 0) (hx3.at r00) (by omega)
        · rcases List.mem_cons.mp hq with rfl | hq
          · exact kn1 h9 (n := st.2.2.2.1.length) q1 (by omega)
          · rcases List.mem_append.mp hq with hq | hq
            · split at hq
              · rename_i hk2
                have ht2 := ai_beq.mp hk2
                obtain ⟨z10, s10, h10⟩ := hnum (by omega)
                rw [List.mem_singleton.mp hq]
                exact kn1 s10 (n := st.2.2.2.1.length + 2) q3 (by omega)
              · cases hq
            · obtain ⟨k1, k2⟩ := dr_outR hq
              obtain ⟨x, k3, k4⟩ := g6 q k1
              exact ⟨x, hf _ _ _ (wrv k2) k3, k4.mono hx3⟩
    · intro cc i x hwr hsl
      refine hf cc i x (wrv (fun h => ?_)) (g7 cc i x hwr hsl)
      obtain ⟨i1, i2, i3⟩ := h
      have i4 : i = 7 ∨ i = 8 ∨ i = 9 ∨ i = 10 := by omega
      rw [i1] at hwr
      rcases i4 with rfl | rfl | rfl | rfl
      · rw [c6] at hwr; cases hwr
      · rw [c7] at hwr; cases hwr
      · rw [c8] at hwr; cases hwr
      · rw [c9] at hwr; cases hwr
  · cases hq
end
section
/-! the reference's step: its first two loops (blanks, letters) -/
def ms_lo : List (Nat × ai_v) := [(0, (0, 49, 0, 0))]
def ms_pc (j : Nat) : Nat := if j = 0 then 8 else 84
def ms_go (j : Nat) : Nat := if j = 0 then 31 else 115
def ms_ex (j : Nat) : Nat := if j = 0 then 34 else 118
def ms_WR : List (Nat × Nat × Nat) := [(49, 11, 12)]
def ms_st (j : Nat) : ai_s := (ms_pc j, ms_lo, [], [(0, 0, false, 0, 0), (0, 2555, false, 1, 0), (0, 160, false, 2, 0), (0, 160, false, 3, 0)], [(49, 7, (1, 2, 0, 0)), (49, 11, (1, 3, 0, 0))], [])
def ms_g (x : ai_s) (h : Nat → ai_e → Bool) : Bool := x.2.2.2.2.2.any fun q => Nat.beq q.1 1052 && (Nat.beq q.2.1 3 && (decide (q.2.2.2.2 = 0) && (x.2.2.2.1[q.2.2.2.1]?).any (h q.2.2.2.1)))
def ms_ok (j : Nat) (x : ai_s) : Bool := x.2.2.1.isEmpty &&
  ((Nat.beq x.1 (ms_ex j) && (decide (ai_lk x.2.2.2.2.1 49 11 = some (1, 3, 0, 0)) && (decide (x.2.1 = ms_lo) && (av_f x 5 3 2 none 0 || (av_f x 4 3 2 none 0 && ms_g x fun v e => decide (e.2.1 < fx_lo j) || decide (fx_hi j < e.1) || (decide (fx_lo j = fx_hi j) && av_f x 140 v 0 none (fx_lo j))))))) ||
   (Nat.beq x.1 (ms_go j) && (decide (ai_lk x.2.2.2.2.1 49 11 = some (1, 3, 0, 1)) && (decide (x.2.1 = ms_lo) && (av_f x 4 3 2 none 0 && ms_g x fun _ e => decide (fx_lo j ≤ e.1) && decide (e.2.1 ≤ fx_hi j))))))
theorem ms_r0 : ((ai_ex (hk ms_WR) 200 104 tb_m104 5 [31, 34] (ms_st 0)).any fun xs => xs.all (ms_ok 0)) = true := by decide +kernel
theorem ms_r1 : ((ai_ex (hk ms_WR) 200 104 tb_m104 5 [115, 118] (ms_st 1)).any fun xs => xs.all (ms_ok 1)) = true := by decide +kernel
theorem ms_run (j : Nat) (hj : j < 2) : ((ai_ex (hk ms_WR) 200 104 tb_m104 5 [ms_go j, ms_ex j] (ms_st j)).any fun xs => xs.all (ms_ok j)) = true := by
  match j, hj with
  | 0, _ => exact ms_r0
  | 1, _ => exact ms_r1
  | j + 2, hj => exact absurd hj (by omega)
theorem ms_gok {w0 : va_W} {r : List Int} {x : ai_s} {zc t : Int} {h : Nat → ai_e → Bool} (g1 : ai_ok r x.2.2.2.1) (g2 : ai_sb w0 r x.2.2.2.2.2) (h3 : r[3]? = some zc) (ht : fx_o w0 52 zc.toNat = some t) (hh : ms_g x h = true) : ∃ (v : Nat) (e : ai_e), h v e = true ∧ r[v]? = some t ∧ e.1 ≤ t ∧ t ≤ e.2.1 := by
  obtain ⟨q, hq, hh⟩ := List.any_eq_true.mp hh
  rw [Bool.and_eq_true, Bool.and_eq_true, Bool.and_eq_true, ai_beq, ai_beq, decide_eq_true_eq] at hh
  obtain ⟨a1, a2, a3, a4⟩ := hh
  obtain ⟨ya, yb, yr, -, -, -, -, -, -, -, -, e9⟩ := g2 q hq
  obtain ⟨z1, z2, f1, f2, f3, f4⟩ := (e9 (by omega)).1 (by omega)
  rw [a2, h3] at f1
  cases f1
  rw [a1, a3, Int.add_zero, show 1052 - 1000 = 52 from rfl] at f4
  have f5 := f4 t ht
  subst f5
  obtain ⟨e, b1, b2, b3⟩ := ai_any g1 f2 a4
  exact ⟨_, e, b1, f2, b2, b3⟩
theorem av_ne {w0 : va_W} {r : List Int} {x : ai_s} {a : Nat} {o za : Int} (g2 : ai_sb w0 r x.2.2.2.2.2) (h0 : r[0]? = some 0) (ha : r[a]? = some za) (h : av_f x 140 a 0 none o = true) : za ≠ o := by
  obtain ⟨q, hq, h1, h2, h3, h4, -⟩ := av_mem h
  obtain ⟨ua, ub, ur, -, -, -, -, -, -, -, -, u9⟩ := g2 q hq
  obtain ⟨t1, t2, k1, k2, -, -, -, k6, -⟩ := (u9 (by omega)).2.1 (by omega)
  obtain ⟨tb, k7, k8⟩ := k6 h1
  rw [h2, ha] at k1
  cases k1
  rw [h3, h0] at k7
  cases k7
  rw [h4, Int.zero_add] at k8
  exact k8
/-- a field of the reference, within its kind's bounds -/
theorem f49 {ad : List Nat} {tys : ai_ty} {ws : va_W} {i : Nat} {z : Int32} {lo hi : Int} (h : ai_wd tb_TY ad tys ws) (hs : ai_sl ws 49 i (.int z)) (hF : (tb_TY[49]?).bind (fun t => t.2.2[i]?) = some (1, 0, lo, hi)) : lo ≤ z.toInt ∧ z.toInt ≤ hi := by
  obtain ⟨y, h1, h2, h3⟩ := pl_f (k := 49) (ci := 6) (lo := lo) (hi := hi) (i := i) h rfl hF
  have := hs.fun h1
  cases this
  exact ⟨h2, h3⟩
section MST
variable {ad : List Nat} {p : Program} {l : Launch} {e : Env} {R : Room} {s : State} {m : MethodId} {args : Array Value} {below : List Frame} {meth : Method} {c : Code} {D : va_G} {tys : ai_ty} {A : Nat → Prop} {b L : Nat} {sx : Nat → Int32} {cells slots : Nat} {Q : State → Prop}
theorem ms_step {j : Nat} (hj : j < 2) (C : ai_cx tb_m104 5 p R s m args c D tys A b L sx cells slots) {ws : va_W} {zn zc : Int32} {g : Nat → Int} (hw : ai_wd tb_TY ad tys ws) (hn : ai_sl ws 49 7 (.int zn)) (hc : ai_sl ws 49 11 (.int zc)) (hg : ∀ i, i < 160 → fx_o ws 52 i = some (g i)) {lv : List (Nat × Value)} (hlv : ai_lo ad b [0] ms_lo lv)
    (k1 : ∀ (ws' : va_W) (lv' : List (Nat × Value)), ai_wd tb_TY ad tys ws' → ai_fr ms_WR ws ws' → ai_sl ws' 49 11 (.int zc) → ai_lo ad b [0] ms_lo lv' → (zn.toInt.toNat ≤ zc.toInt.toNat ∨ g zc.toInt.toNat < fx_lo j ∨ fx_hi j < g zc.toInt.toNat) → hG tb_m104 p l e R s m args below meth c D A cells slots Q (ms_ex j) lv' [] ws')
    (k2 : ∀ (ws' : va_W) (lv' : List (Nat × Value)) (zc' : Int32), ai_wd tb_TY ad tys ws' → ai_fr ms_WR ws ws' → ai_sl ws' 49 11 (.int zc') → zc'.toInt = zc.toInt + 1 → zc.toInt < zn.toInt → fx_lo j ≤ g zc.toInt.toNat → g zc.toInt.toNat ≤ fx_hi j → ai_lo ad b [0] ms_lo lv' → hG tb_m104 p l e R s m args below meth c D A cells slots Q (ms_go j) lv' [] ws') : hG tb_m104 p l e R s m args below meth c D A cells slots Q (ms_pc j) lv [] ws := by
  obtain ⟨n0, n1⟩ := f49 (i := 7) hw hn rfl
  obtain ⟨c0, c1⟩ := f49 (i := 11) hw hc rfl
  obtain ⟨xs, h1, h2⟩ := ai_anyE (ms_run j hj)
  have gm : ai_gm tb_TY ms_WR ws ad b L sx tys tb_m104.2.2.2.2.1 [0, 0, zn.toInt, zc.toInt] (ms_st j) lv [] ws := by
    refine ⟨⟨rfl, fun k z e hz he => ?_⟩, (fun q hq => by cases hq), lo0_ok (r := [0]) rfl rfl rfl hlv, trivial, hw, fun q hq => ?_, fun _ _ _ _ h => h, fun h => by cases h⟩
    · match k, hz, he with
      | 0, hz, he => cases hz; cases he; exact ⟨Int.le_refl _, Int.le_refl _, (fun h => by cases h), 0, rfl, Int.le_refl _⟩
      | 1, hz, he => cases hz; cases he; exact ⟨by decide, by decide, (fun h => by cases h), 0, rfl, Int.le_refl _⟩
      | 2, hz, he => cases hz; cases he; exact ⟨n0, n1, (fun h => by cases h), _, rfl, by show zn.toInt + 0 ≤ zn.toInt; omega⟩
      | 3, hz, he => cases hz; cases he; exact ⟨c0, c1, (fun h => by cases h), _, rfl, by show zc.toInt + 0 ≤ zc.toInt; omega⟩
      | k + 4, hz, he => cases hz
    · have hq : q ∈ [(49, 7, ((1, 2, 0, 0) : ai_v)), (49, 11, (1, 3, 0, 0))] := hq
      rcases List.mem_cons.mp hq with rfl | hq
      · exact kn1 hn (n := 2) (t := zn.toInt) rfl (by omega)
      · rcases List.mem_cons.mp hq with rfl | hq
        · exact kn1 hc (n := 3) (t := zc.toInt) rfl (by omega)
        · cases hq
  refine hseg (st := ms_st j) h1 rfl C gm (fun x hx r' lv' sk' ws' hx' g' => ?_)
  obtain ⟨g1, g2, g3, g4, g5, g6, g7, g8⟩ := g'
  have r0 : r'[0]? = some 0 := hx'.at rfl
  have r2 : r'[2]? = some zn.toInt := hx'.at rfl
  have r3 : r'[3]? = some zc.toInt := hx'.at rfl
  have hox := List.all_eq_true.mp h2 x hx
  unfold ms_ok at hox
  rw [Bool.and_eq_true, Bool.or_eq_true] at hox
  obtain ⟨hs, hox⟩ := hox
  have hsk : sk' = [] := by
    rw [List.isEmpty_iff.mp hs] at g4
    exact g4.nil
  subst hsk
  rcases hox with hox | hox
  · rw [Bool.and_eq_true, Bool.and_eq_true, Bool.and_eq_true, ai_beq, decide_eq_true_eq, decide_eq_true_eq, Bool.or_eq_true] at hox
    obtain ⟨p1, p2, p0, p3⟩ := hox
    obtain ⟨x1, s1, d1⟩ := ai_lk_ok g6 p2
    obtain ⟨i, rfl, hi⟩ := dvn d1 r3
    have hii : i = zc := Int32.toInt_inj.mp (by rw [hi]; omega)
    subst hii
    rw [p1]
    refine k1 ws' lv' g5 g7 s1 (lo0_ok r0 rfl rfl (by rw [← p0]; exact g3)) ?_
    rcases p3 with p3 | p3
    · have := av_f5 g2 r3 r2 p3
      exact Or.inl (by omega)
    · rw [Bool.and_eq_true] at p3
      have h4 := av_f4 g2 r3 r2 p3.1
      obtain ⟨v, e0, b1, b2, b3, b4⟩ := ms_gok g1 g2 r3 (hg _ (by omega)) p3.2
      rw [Bool.or_eq_true, Bool.or_eq_true, Bool.and_eq_true, decide_eq_true_eq, decide_eq_true_eq, decide_eq_true_eq] at b1
      rcases b1 with (b1 | b1) | b1
      · exact Or.inr (Or.inl (by omega))
      · exact Or.inr (Or.inr (by omega))
      · have := av_ne g2 r0 b2 b1.2
        exact Or.inr (by omega)
  · rw [Bool.and_eq_true, Bool.and_eq_true, Bool.and_eq_true, Bool.and_eq_true, ai_beq, decide_eq_true_eq, decide_eq_true_eq] at hox
    obtain ⟨p1, p2, p3, p4, p5⟩ := hox
    obtain ⟨x1, s1, d1⟩ := ai_lk_ok g6 p2
    obtain ⟨i, rfl, hi⟩ := dvn d1 r3
    have h4 := av_f4 g2 r3 r2 p4
    obtain ⟨v, e0, b1, b2, b3, b4⟩ := ms_gok g1 g2 r3 (hg _ (by omega)) p5
    rw [Bool.and_eq_true, decide_eq_true_eq, decide_eq_true_eq] at b1
    rw [p1]
    exact k2 ws' lv' i g5 g7 s1 hi (by omega) (by omega) (by omega) (lo0_ok r0 rfl rfl (by rw [← p3]; exact g3))
end MST
end
section
/-! .. until they end -/
section MSL
variable {ad : List Nat} {p : Program} {l : Launch} {e : Env} {R : Room} {s : State} {m : MethodId} {args : Array Value} {below : List Frame} {meth : Method} {c : Code} {D : va_G} {tys : ai_ty} {A : Nat → Prop} {b L : Nat} {sx : Nat → Int32} {cells slots : Nat} {Q : State → Prop}
theorem ms_back {j : Nat} (hj : j < 2) (C : ai_cx tb_m104 5 p R s m args c D tys A b L sx cells slots) {ws : va_W} {lv : List (Nat × Value)} (k : hG tb_m104 p l e R s m args below meth c D A cells slots Q (ms_pc j) lv [] ws) : hG tb_m104 p l e R s m args below meth c D A cells slots Q (ms_go j) lv [] ws := by
  intro H locs ls hP hD hS hl
  have kk := k H locs ls hP hD hS hl
  match j, hj with
  | 0, _ => exact lv_goto (tgt := 8) C.1 C.2.1 (tv_m104.1.1.1 (31, .goto (-23), 3) (List.mem_of_getElem? (i := 16) rfl)) (by decide) kk
  | 1, _ => exact lv_goto (tgt := 84) C.1 C.2.1 (tv_m104.1.1.1 (115, .goto (-31), 3) (List.mem_of_getElem? (i := 57) rfl)) (by decide) kk
  | j + 2, hj => exact absurd hj (by omega)
theorem ms_loop {j : Nat} (hj : j < 2) (C : ai_cx tb_m104 5 p R s m args c D tys A b L sx cells slots) {zn : Int32} {g : Nat → Int} :
    ∀ (N : Nat) (ws : va_W) (zc : Int32) (lv : List (Nat × Value)), (160 - zc.toInt).toNat < N → ai_wd tb_TY ad tys ws → ai_sl ws 49 7 (.int zn) → ai_sl ws 49 11 (.int zc) → (∀ i, i < 160 → fx_o ws 52 i = some (g i)) → ai_lo ad b [0] ms_lo lv →
    (∀ (ws' : va_W) (lv' : List (Nat × Value)) (ze : Int32), ai_wd tb_TY ad tys ws' → ai_fr ms_WR ws ws' → ai_sl ws' 49 11 (.int ze) → ai_lo ad b [0] ms_lo lv' → ze.toInt.toNat = tp_skip g zn.toInt.toNat (fx_lo j) (fx_hi j) zc.toInt.toNat → hG tb_m104 p l e R s m args below meth c D A cells slots Q (ms_ex j) lv' [] ws') → hG tb_m104 p l e R s m args below meth c D A cells slots Q (ms_pc j) lv [] ws := by
  intro N
  induction N with
  | zero => exact fun ws zc lv h => absurd h (Nat.not_lt_zero _)
  | succ N ih =>
    intro ws zc lv hN hw hn hc hg hlv k
    obtain ⟨n0, n1⟩ := f49 (i := 7) hw hn rfl
    obtain ⟨c0, c1⟩ := f49 (i := 11) hw hc rfl
    refine ms_step hj C hw hn hc hg hlv (fun ws' lv' hw' hf hc' hlo ho => ?_) (fun ws' lv' zc' hw' hf hc' e1 hlt a1 a2 hlv' => ?_)
    · refine k ws' lv' zc hw' hf hc' hlo ?_
      rw [tp_skip_out]
      omega
    · refine ms_back hj C (ih ws' zc' lv' (by omega) hw' (hf 49 7 _ (by decide) hn) hc' (fun i hi => fr_fx hw' (k := 52) rfl hf (by unfold ai_wr ms_WR; simp) (hg i hi)) hlv' (fun ws2 lv2 ze hw2 hf2 h7 hlo e3 => ?_))
      refine k ws2 lv2 ze hw2 (hf.tr hf2) h7 hlo ?_
      rw [e3, tp_skip_in (p := zc.toInt.toNat) (by omega) a1 a2, show zc'.toInt.toNat = zc.toInt.toNat + 1 by omega]
end MSL
end
