theorem lr_driftA : lw_A 1033 1049 3 = true := by decide +kernel
theorem lr_driftB : lw_B 1049 1068 3 true = true := by decide +kernel
theorem lr_driftC : lw_C 1068 true = true := by decide +kernel
/-! drift, compared -/
def dr_g (g : Int32) : Int32 := g * 1103515245 + 12345
def dr_x (z : Int32) : Int32 := (z >>> ((16 : Int32) &&& 31)) &&& 32767
def dr_t (z m : Int32) : Int32 := dr_x z - dr_x z / m * m
theorem dr_bit : ∀ i, i < 32 → (32767#32).getLsbD i = decide (i < 15) := by decide
theorem dr_eq (z : Int32) : (z.toUInt32 >>> ((16 : Int32).toUInt32 &&& Int32.toUInt32 31)).toInt32 &&& 32767 = dr_x z := by
  apply Int32.toBitVec_inj.mp
  have h1 : ((z.toUInt32 >>> ((16 : Int32).toUInt32 &&& Int32.toUInt32 31)).toInt32 &&& 32767).toBitVec = (z.toBitVec >>> 16) &&& 32767#32 := rfl
  have h2 : (dr_x z).toBitVec = (z.toBitVec.sshiftRight 16) &&& 32767#32 := rfl
  rw [h1, h2]
  apply BitVec.eq_of_getLsbD_eq
  intro i hi
  rw [BitVec.getLsbD_and, BitVec.getLsbD_and, dr_bit i hi]
  by_cases h : i < 15
  · rw [BitVec.getLsbD_ushiftRight, BitVec.getLsbD_sshiftRight, if_pos (by omega), decide_eq_false (show ¬ 32 ≤ i by omega)]
    rfl
  · rw [decide_eq_false h, Bool.and_false, Bool.and_false]
theorem dr_xb (z : Int32) : 0 ≤ (dr_x z).toInt := (ai_andI (z >>> ((16 : Int32) &&& 31)) 32767 (by decide)).1
theorem dr_tb (z m : Int32) (h : 0 < m.toInt) : 0 ≤ (dr_t z m).toInt ∧ (dr_t z m).toInt < m.toInt := ai_remI (dr_x z) m (dr_xb z) h
/-- an evening behind the act that a seed draws -/
def drS (E : Nat → Int) (t : Nat) : Nat → Int := if 1 ≤ E 16 ∧ E (8 + t) < E (4 + t) then evA E (t : Int) else evA E 4
def drE (m : Int32) : Nat → Int32 → (Nat → Int) → (Nat → Int)
  | 0, _, E => E
  | f + 1, g, E => drE m f (dr_g g) (drS E (dr_t (dr_g g) m).toInt.toNat)
def drR (n : Nat) (E0 E : Nat → Int) (w : Int) : Int := if w = 0 then ((wonF E n 5 0 0 : Nat) : Int) else E 17 - E0 17
theorem drS_g {n t : Nat} {E : Nat → Int} (hn : n ≤ 4) (hg : good n E) (ht : t < n) : good n (drS E t) := by
  unfold drS
  split
  · exact good_A hn hg (Or.inr ⟨by omega, by omega⟩)
  · exact good_A hn hg (Or.inl rfl)
theorem dr_off {j : Nat} (hj : j < 81) : ai_wr tb_WR7 50 j j = false := wr_no fun q hq => by
  unfold tb_WR7 at hq
  simp only [List.mem_cons, List.not_mem_nil, or_false] at hq
  rcases hq with rfl | rfl | rfl | rfl | rfl | rfl | rfl | rfl | rfl | rfl <;> dsimp only <;> omega
theorem dr_pev {ad : List Nat} {tys : ai_ty} {ws ws' : va_W} {n : Nat} {E : Nat → Int} (hn : n ≤ 4) (h : cs_P ad tys 0 108 ws ws') (hc : pev ws 0 n E) : pev ws' 108 n E := by
  have cp : ∀ {j : Nat} {z : Int}, j < 27 → vi ws 50 (j + 0) z → vi ws' 50 (j + 108) z := fun {j z} hj hz => by
    have h1 := h.2.2 j z hj (by rw [Nat.add_comm]; exact hz)
    rw [Nat.add_comm] at h1
    exact h1
  refine ⟨fun i hi => ?_, cp (by decide) hc.2.1, cp (by decide) hc.2.2⟩
  obtain ⟨x1, x2, x3, x4⟩ := hc.1 i hi
  exact ⟨cp (by omega) x1, cp (by omega) x2, cp (by omega) x3, cp (by omega) x4⟩
section HDR
variable {ad : List Nat} {M : ai_m} {d : Nat} {p : Program} {l : Launch} {e : Env} {R : Room} {s : State} {m : MethodId} {args : Array Value} {below : List Frame} {meth : Method} {c : Code} {D : va_G} {tys : ai_ty} {A : Nat → Prop} {b L : Nat} {sx : Nat → Int32} {cells slots : Nat} {Q : State → Prop}
theorem hdmul {pc : Nat} {x y : Int32} {ws : va_W} {sk : List Value} {lv : List (Nat × Value)} (C : ai_cx M d p R s m args c D tys A b L sx cells slots) (hd : decode M.2.1 pc = .ok (.imul, 1)) (k : hG M p l e R s m args below meth c D A cells slots Q (pc + 1) lv (.int (x * y) :: sk) ws) : hG M p l e R s m args below meth c D A cells slots Q pc lv (.int y :: .int x :: sk) ws := by
  intro H locs ls hP hD hS hl
  exact lv_imul C.1 C.2.1 hd (k H locs ls hP hD hS hl)
theorem hdadd {pc : Nat} {x y : Int32} {ws : va_W} {sk : List Value} {lv : List (Nat × Value)} (C : ai_cx M d p R s m args c D tys A b L sx cells slots) (hd : decode M.2.1 pc = .ok (.iadd, 1)) (k : hG M p l e R s m args below meth c D A cells slots Q (pc + 1) lv (.int (x + y) :: sk) ws) : hG M p l e R s m args below meth c D A cells slots Q pc lv (.int y :: .int x :: sk) ws := by
  intro H locs ls hP hD hS hl
  exact lv_iadd C.1 C.2.1 hd (k H locs ls hP hD hS hl)
theorem hdand {pc : Nat} {x y : Int32} {ws : va_W} {sk : List Value} {lv : List (Nat × Value)} (C : ai_cx M d p R s m args c D tys A b L sx cells slots) (hd : decode M.2.1 pc = .ok (.iand, 1)) (k : hG M p l e R s m args below meth c D A cells slots Q (pc + 1) lv (.int (x &&& y) :: sk) ws) : hG M p l e R s m args below meth c D A cells slots Q pc lv (.int y :: .int x :: sk) ws := by
  intro H locs ls hP hD hS hl
  exact lv_iand C.1 C.2.1 hd (k H locs ls hP hD hS hl)
theorem hdshr {pc : Nat} {x y : Int32} {ws : va_W} {sk : List Value} {lv : List (Nat × Value)} (C : ai_cx M d p R s m args c D tys A b L sx cells slots) (hd : decode M.2.1 pc = .ok (.ishr, 1)) (k : hG M p l e R s m args below meth c D A cells slots Q (pc + 1) lv (.int (x >>> (y &&& 31)) :: sk) ws) : hG M p l e R s m args below meth c D A cells slots Q pc lv (.int y :: .int x :: sk) ws := by
  intro H locs ls hP hD hS hl
  exact lv_ishr C.1 C.2.1 hd (k H locs ls hP hD hS hl)
theorem hdush {pc : Nat} {x y : Int32} {ws : va_W} {sk : List Value} {lv : List (Nat × Value)} (C : ai_cx M d p R s m args c D tys A b L sx cells slots) (hd : decode M.2.1 pc = .ok (.iushr, 1)) (k : hG M p l e R s m args below meth c D A cells slots Q (pc + 1) lv (.int (x.toUInt32 >>> (y.toUInt32 &&& Int32.toUInt32 31)).toInt32 :: sk) ws) : hG M p l e R s m args below meth c D A cells slots Q pc lv (.int y :: .int x :: sk) ws := by
  intro H locs ls hP hD hS hl
  exact lv_iushr C.1 C.2.1 hd rfl (k H locs ls hP hD hS hl)
theorem hdrem {pc : Nat} {x y : Int32} {ws : va_W} {sk : List Value} {lv : List (Nat × Value)} (C : ai_cx M d p R s m args c D tys A b L sx cells slots) (hd : decode M.2.1 pc = .ok (.irem, 1)) (hy : ¬ y = 0) (k : hG M p l e R s m args below meth c D A cells slots Q (pc + 1) lv (.int (x - x / y * y) :: sk) ws) : hG M p l e R s m args below meth c D A cells slots Q pc lv (.int y :: .int x :: sk) ws := by
  intro H locs ls hP hD hS hl
  exact lv_irem C.1 C.2.1 hd hy (k H locs ls hP hD hS hl)
end HDR
def dr_cX : List sm_t := [(149, [], [(1, 8, 0, 0)], [], [(0, 0, false, 0, 0), (0, 2555, false, 1, 0), (1, 60, false, 2, 0), (1, 1, false, 3, 0), (-2147483648, 2147483647, false, 4, 0), (1, 60, false, 5, 0), (0, 999, false, 6, 0), (0, 999, false, 7, 0), (-999, 999, false, 8, 0)], [(0, 6, 7, 8, 0), (140, 3, 0, 3, 0), (5, 5, 2, 5, 0), (5, 5, 2, 5, 0)]), (128, [], [(0, 7, 0, 0)], [], [(0, 0, false, 0, 0), (0, 2555, false, 1, 0), (1, 60, false, 2, 0), (0, 0, false, 3, 0), (-2147483648, 2147483647, false, 4, 0), (1, 60, false, 5, 0), (0, 999, false, 6, 0), (0, 999, false, 7, 0)], [(5, 5, 2, 5, 0), (5, 5, 2, 5, 0)])]
theorem dr_cx : ((ai_ex (hk []) 300 85 tb_m85 10 [128] (54, [(0, (0, 0, 0, 0)), (2, (1, 2, 0, 0)), (3, (1, 3, 0, 0)), (4, (1, 4, 0, 0)), (5, (1, 5, 0, 0))], [(1, 5, 0, 0)], [(0, 0, false, 0, 0), (0, 2555, false, 1, 0), (1, 60, false, 2, 0), (0, 1, false, 3, 0), (-2147483648, 2147483647, false, 4, 0), (0, 60, false, 5, 0), (0, 999, false, 6, 0), (0, 999, false, 7, 0)], [(7, 2, (1, 6, 0, 0)), (1, 2, (1, 7, 0, 0))], [(5, 5, 2, 5, 0)])).any fun xs => xs.all fun x => (dr_cX : List sm_t).any fun y => sm_is [] x y) = true := by decide +kernel
theorem dr_ce : ((ai_ex (hk []) 300 85 tb_m85 10 [] (131, [], [(1, 2, 0, 0)], [(0, 0, false, 0, 0), (0, 2555, false, 1, 0), (-2147483648, 2147483647, false, 2, 0)], [], [])).any fun xs => xs.all fun x => ([(149, [], [(1, 2, 0, 0)], [], [(0, 0, false, 0, 0), (0, 2555, false, 1, 0), (-2147483648, 2147483647, false, 2, 0)], [])] : List sm_t).any fun y => sm_is [] x y) = true := by decide +kernel
theorem dr_c1 : ((ai_ex (hk []) 300 85 tb_m85 10 [62] (54, [(0, (0, 0, 0, 0)), (2, (1, 2, 0, 0)), (3, (1, 3, 0, 0)), (4, (1, 4, 0, 0)), (5, (1, 5, 0, 0))], [(1, 5, 0, 0)], [(0, 0, false, 0, 0), (0, 2555, false, 1, 0), (1, 60, false, 2, 0), (0, 1, false, 3, 0), (-2147483648, 2147483647, false, 4, 0), (0, 59, false, 5, 0)], [], [(4, 5, 2, 5, 0)])).any fun xs => xs.all fun x => ([(62, [(0, (0, 0, 0, 0)), (2, (1, 2, 0, 0)), (3, (1, 3, 0, 0)), (4, (1, 4, 0, 0)), (5, (1, 5, 0, 0))], [(1, 0, 0, 1103515245), (1, 4, 0, 0)], [], [(0, 0, false, 0, 0), (0, 2555, false, 1, 0), (1, 60, false, 2, 0), (0, 1, false, 3, 0), (-2147483648, 2147483647, false, 4, 0), (0, 59, false, 5, 0)], [(4, 5, 2, 5, 0), (4, 5, 2, 5, 0)])] : List sm_t).any fun y => sm_is [] x y) = true := by decide +kernel
theorem dr_c2 : ((ai_ex (hk []) 300 85 tb_m85 10 [66] (63, [(0, (0, 0, 0, 0)), (2, (1, 2, 0, 0)), (3, (1, 3, 0, 0)), (4, (1, 4, 0, 0)), (5, (1, 5, 0, 0))], [(1, 6, 0, 0)], [(0, 0, false, 0, 0), (0, 2555, false, 1, 0), (1, 60, false, 2, 0), (0, 1, false, 3, 0), (-2147483648, 2147483647, false, 4, 0), (0, 60, false, 5, 0), (-2147483648, 2147483647, false, 6, 0)], [], [])).any fun xs => xs.all fun x => ([(66, [(0, (0, 0, 0, 0)), (2, (1, 2, 0, 0)), (3, (1, 3, 0, 0)), (4, (1, 4, 0, 0)), (5, (1, 5, 0, 0))], [(1, 0, 0, 12345), (1, 6, 0, 0)], [], [(0, 0, false, 0, 0), (0, 2555, false, 1, 0), (1, 60, false, 2, 0), (0, 1, false, 3, 0), (-2147483648, 2147483647, false, 4, 0), (0, 60, false, 5, 0), (-2147483648, 2147483647, false, 6, 0)], [])] : List sm_t).any fun y => sm_is [] x y) = true := by decide +kernel
theorem dr_c3 : ((ai_ex (hk []) 300 85 tb_m85 10 [73] (67, [(0, (0, 0, 0, 0)), (2, (1, 2, 0, 0)), (3, (1, 3, 0, 0)), (4, (1, 4, 0, 0)), (5, (1, 5, 0, 0))], [(1, 6, 0, 0)], [(0, 0, false, 0, 0), (0, 2555, false, 1, 0), (1, 60, false, 2, 0), (0, 1, false, 3, 0), (-2147483648, 2147483647, false, 4, 0), (0, 60, false, 5, 0), (-2147483648, 2147483647, false, 6, 0)], [], [])).any fun xs => xs.all fun x => ([(73, [(0, (0, 0, 0, 0)), (2, (1, 2, 0, 0)), (3, (1, 3, 0, 0)), (4, (1, 6, 0, 0)), (5, (1, 5, 0, 0))], [(1, 0, 0, 16), (1, 6, 0, 0)], [], [(0, 0, false, 0, 0), (0, 2555, false, 1, 0), (1, 60, false, 2, 0), (0, 1, false, 3, 0), (-2147483648, 2147483647, false, 4, 0), (0, 60, false, 5, 0), (-2147483648, 2147483647, false, 6, 0)], [])] : List sm_t).any fun y => sm_is [] x y) = true := by decide +kernel
theorem dr_c4 : ((ai_ex (hk []) 300 85 tb_m85 10 [77] (74, [(0, (0, 0, 0, 0)), (2, (1, 2, 0, 0)), (3, (1, 3, 0, 0)), (4, (1, 4, 0, 0)), (5, (1, 5, 0, 0))], [(1, 6, 0, 0)], [(0, 0, false, 0, 0), (0, 2555, false, 1, 0), (1, 60, false, 2, 0), (0, 1, false, 3, 0), (-2147483648, 2147483647, false, 4, 0), (0, 60, false, 5, 0), (-2147483648, 2147483647, false, 6, 0)], [], [])).any fun xs => xs.all fun x => ([(77, [(0, (0, 0, 0, 0)), (2, (1, 2, 0, 0)), (3, (1, 3, 0, 0)), (4, (1, 4, 0, 0)), (5, (1, 5, 0, 0))], [(1, 0, 0, 32767), (1, 6, 0, 0)], [], [(0, 0, false, 0, 0), (0, 2555, false, 1, 0), (1, 60, false, 2, 0), (0, 1, false, 3, 0), (-2147483648, 2147483647, false, 4, 0), (0, 60, false, 5, 0), (-2147483648, 2147483647, false, 6, 0)], [])] : List sm_t).any fun y => sm_is [] x y) = true := by decide +kernel
theorem dr_c5 : ((ai_ex (hk []) 300 85 tb_m85 10 [85] (78, [(0, (0, 0, 0, 0)), (2, (1, 2, 0, 0)), (3, (1, 3, 0, 0)), (4, (1, 4, 0, 0)), (5, (1, 5, 0, 0))], [(1, 6, 0, 0)], [(0, 0, false, 0, 0), (0, 2555, false, 1, 0), (1, 60, false, 2, 0), (0, 1, false, 3, 0), (-2147483648, 2147483647, false, 4, 0), (0, 60, false, 5, 0), (-2147483648, 2147483647, false, 6, 0), (1, 4, false, 7, 0)], [(1, 0, (1, 7, 0, 0))], [])).any fun xs => xs.all fun x => ([(85, [(0, (0, 0, 0, 0)), (2, (1, 2, 0, 0)), (3, (1, 3, 0, 0)), (4, (1, 4, 0, 0)), (5, (1, 5, 0, 0))], [(1, 7, 0, 0), (1, 6, 0, 0)], [], [(0, 0, false, 0, 0), (0, 2555, false, 1, 0), (1, 60, false, 2, 0), (0, 1, false, 3, 0), (-2147483648, 2147483647, false, 4, 0), (0, 60, false, 5, 0), (-2147483648, 2147483647, false, 6, 0), (1, 4, false, 7, 0)], [])] : List sm_t).any fun y => sm_is [] x y) = true := by decide +kernel
def dr_cT (t : Nat) : List sm_t := [(110, [(0, (0, 0, 0, 0)), (2, (1, 2, 0, 0)), (3, (1, 3, 0, 0)), (4, (1, 4, 0, 0)), (5, (1, 5, 0, 0))], [(1, 0, 0, 4), (0, 7, 0, 0)], [], [(0, 0, false, 0, 0), (0, 2555, false, 1, 0), (1, 60, false, 2, 0), (0, 1, false, 3, 0), (-2147483648, 2147483647, false, 4, 0), (0, 60, false, 5, 0), (1, 99, false, 6, 0), (0, 99, false, 7, 0), (0, 0, false, 8, 0), ((t : Int) + 1, 4, false, 9, 0)], [(5, 6, 7, 6, 0)]), (110, [(0, (0, 0, 0, 0)), (2, (1, 2, 0, 0)), (3, (1, 3, 0, 0)), (4, (1, 4, 0, 0)), (5, (1, 5, 0, 0))], [(1, 0, 0, (t : Int)), (0, 7, 0, 0)], [], [(0, 0, false, 0, 0), (0, 2555, false, 1, 0), (1, 60, false, 2, 0), (0, 1, false, 3, 0), (-2147483648, 2147483647, false, 4, 0), (0, 60, false, 5, 0), (1, 99, false, 6, 0), (0, 98, false, 7, 0), (1, 20, false, 8, 0), ((t : Int) + 1, 4, false, 9, 0)], [(4, 7, 6, 7, 0), (5, 6, 7, 6, 0)]), (110, [(0, (0, 0, 0, 0)), (2, (1, 2, 0, 0)), (3, (1, 3, 0, 0)), (4, (1, 4, 0, 0)), (5, (1, 5, 0, 0))], [(1, 0, 0, 4), (0, 7, 0, 0)], [], [(0, 0, false, 0, 0), (0, 2555, false, 1, 0), (1, 60, false, 2, 0), (0, 1, false, 3, 0), (-2147483648, 2147483647, false, 4, 0), (0, 60, false, 5, 0), (1, 99, false, 6, 0), (1, 99, false, 7, 0), (1, 20, false, 8, 0), ((t : Int) + 1, 4, false, 9, 0)], [(5, 7, 6, 7, 0), (5, 6, 7, 6, 0)])]
theorem dr_ct : ((List.range 4).all fun t => (ai_ex (hk []) 300 85 tb_m85 10 [110] (86, [(0, (0, 0, 0, 0)), (2, (1, 2, 0, 0)), (3, (1, 3, 0, 0)), (4, (1, 4, 0, 0)), (5, (1, 5, 0, 0))], [(1, 0, 0, (t : Int))], [(0, 0, false, 0, 0), (0, 2555, false, 1, 0), (1, 60, false, 2, 0), (0, 1, false, 3, 0), (-2147483648, 2147483647, false, 4, 0), (0, 60, false, 5, 0), (1, 99, false, 6, 0), (0, 99, false, 7, 0), (0, 20, false, 8, 0), ((t : Int) + 1, 4, false, 9, 0)], [(9, t, (1, 6, 0, 0)), (10, t, (1, 7, 0, 0)), (7, 1, (1, 8, 0, 0)), (7, 0, (1, 9, 0, 0))], [(5, 6, 7, 6, 0)])).any fun xs => xs.all fun x => (dr_cT t : List sm_t).any fun y => sm_is [] x y) = true := by decide +kernel
theorem dr_c7 : ((ai_ex (hk []) 300 85 tb_m85 10 [52] (113, [(0, (0, 0, 0, 0)), (2, (1, 2, 0, 0)), (3, (1, 3, 0, 0)), (4, (1, 4, 0, 0)), (5, (1, 5, 0, 0))], [(1, 6, 0, 0)], [(0, 0, false, 0, 0), (0, 2555, false, 1, 0), (1, 60, false, 2, 0), (0, 1, false, 3, 0), (-2147483648, 2147483647, false, 4, 0), (0, 59, false, 5, 0), (0, 1, false, 6, 0)], [], [])).any fun xs => xs.all fun x => ([(52, [(0, (0, 0, 0, 0)), (2, (1, 2, 0, 0)), (3, (1, 3, 0, 0)), (4, (1, 4, 0, 0)), (5, (1, 5, 0, 1))], [], [], [(0, 0, false, 0, 0), (0, 2555, false, 1, 0), (1, 60, false, 2, 0), (0, 1, false, 3, 0), (-2147483648, 2147483647, false, 4, 0), (0, 59, false, 5, 0), (0, 1, false, 6, 0)], [])] : List sm_t).any fun y => sm_is [] x y) = true := by decide +kernel
theorem dr_c0 : ((ai_ex (hk []) 300 85 tb_m85 10 [43] (0, [(0, (0, 0, 0, 0)), (1, (1, 4, 0, 0)), (2, (1, 2, 0, 0)), (3, (1, 3, 0, 0))], [], [(0, 0, false, 0, 0), (0, 2555, false, 1, 0), (1, 60, false, 2, 0), (0, 1, false, 3, 0), (-2147483648, 2147483647, false, 4, 0), (1, 4, false, 5, 0)], [(1, 0, (1, 5, 0, 0))], [])).any fun xs => xs.all fun x => ([(43, [(0, (0, 0, 0, 0)), (1, (1, 4, 0, 0)), (2, (1, 2, 0, 0)), (3, (1, 3, 0, 0))], [(0, 1, 0, 0), (0, 7, 0, 0)], [], [(0, 0, false, 0, 0), (0, 2555, false, 1, 0), (1, 60, false, 2, 0), (0, 1, false, 3, 0), (-2147483648, 2147483647, false, 4, 0), (1, 4, false, 5, 0)], [])] : List sm_t).any fun y => sm_is [] x y) = true := by decide +kernel
theorem dr_c9 : ((ai_ex (hk []) 300 85 tb_m85 10 [52] (46, [(0, (0, 0, 0, 0)), (1, (1, 4, 0, 0)), (2, (1, 2, 0, 0)), (3, (1, 3, 0, 0))], [], [(0, 0, false, 0, 0), (0, 2555, false, 1, 0), (1, 60, false, 2, 0), (0, 1, false, 3, 0), (-2147483648, 2147483647, false, 4, 0)], [], [])).any fun xs => xs.all fun x => ([(52, [(0, (0, 0, 0, 0)), (2, (1, 2, 0, 0)), (3, (1, 3, 0, 0)), (4, (1, 4, 0, 0)), (5, (1, 0, 0, 0))], [], [], [(0, 0, false, 0, 0), (0, 2555, false, 1, 0), (1, 60, false, 2, 0), (0, 1, false, 3, 0), (-2147483648, 2147483647, false, 4, 0)], [])] : List sm_t).any fun y => sm_is [] x y) = true := by decide +kernel
def dr_mX : List sm_t := [(116, [], [(1, 8, 0, 0)], [], [(0, 0, false, 0, 0), (0, 2555, false, 1, 0), (1, 60, false, 2, 0), (1, 1, false, 3, 0), (-2147483648, 2147483647, false, 4, 0), (1, 60, false, 5, 0), (0, 999, false, 6, 0), (0, 999, false, 7, 0), (-999, 999, false, 8, 0)], [(0, 6, 7, 8, 0), (140, 3, 0, 3, 0), (5, 5, 2, 5, 0), (5, 5, 2, 5, 0)]), (106, [], [(1, 0, 0, 108), (0, 49, 0, 0)], [], [(0, 0, false, 0, 0), (0, 2555, false, 1, 0), (1, 60, false, 2, 0), (0, 0, false, 3, 0), (-2147483648, 2147483647, false, 4, 0), (1, 60, false, 5, 0), (0, 999, false, 6, 0), (0, 999, false, 7, 0)], [(5, 5, 2, 5, 0), (5, 5, 2, 5, 0)])]
theorem dr_mx : ((ai_ex (hk []) 300 161 tb_m161 10 [106] (49, [(0, (0, 49, 0, 0)), (2, (1, 2, 0, 0)), (3, (1, 3, 0, 0)), (4, (1, 4, 0, 0)), (5, (1, 5, 0, 0))], [(1, 5, 0, 0)], [(0, 0, false, 0, 0), (0, 2555, false, 1, 0), (1, 60, false, 2, 0), (0, 1, false, 3, 0), (-2147483648, 2147483647, false, 4, 0), (0, 60, false, 5, 0), (0, 999, false, 6, 0), (0, 999, false, 7, 0)], [(50, 125, (1, 6, 0, 0)), (50, 17, (1, 7, 0, 0))], [(5, 5, 2, 5, 0)])).any fun xs => xs.all fun x => (dr_mX : List sm_t).any fun y => sm_is [] x y) = true := by decide +kernel
theorem dr_me : ((ai_ex (hk []) 300 161 tb_m161 10 [] (109, [], [(1, 2, 0, 0)], [(0, 0, false, 0, 0), (0, 2555, false, 1, 0), (-2147483648, 2147483647, false, 2, 0)], [], [])).any fun xs => xs.all fun x => ([(116, [], [(1, 2, 0, 0)], [], [(0, 0, false, 0, 0), (0, 2555, false, 1, 0), (-2147483648, 2147483647, false, 2, 0)], [])] : List sm_t).any fun y => sm_is [] x y) = true := by decide +kernel
theorem dr_m1 : ((ai_ex (hk []) 300 161 tb_m161 10 [57] (49, [(0, (0, 49, 0, 0)), (2, (1, 2, 0, 0)), (3, (1, 3, 0, 0)), (4, (1, 4, 0, 0)), (5, (1, 5, 0, 0))], [(1, 5, 0, 0)], [(0, 0, false, 0, 0), (0, 2555, false, 1, 0), (1, 60, false, 2, 0), (0, 1, false, 3, 0), (-2147483648, 2147483647, false, 4, 0), (0, 59, false, 5, 0)], [], [(4, 5, 2, 5, 0)])).any fun xs => xs.all fun x => ([(57, [(0, (0, 49, 0, 0)), (2, (1, 2, 0, 0)), (3, (1, 3, 0, 0)), (4, (1, 4, 0, 0)), (5, (1, 5, 0, 0))], [(1, 0, 0, 1103515245), (1, 4, 0, 0)], [], [(0, 0, false, 0, 0), (0, 2555, false, 1, 0), (1, 60, false, 2, 0), (0, 1, false, 3, 0), (-2147483648, 2147483647, false, 4, 0), (0, 59, false, 5, 0)], [(4, 5, 2, 5, 0), (4, 5, 2, 5, 0)])] : List sm_t).any fun y => sm_is [] x y) = true := by decide +kernel
theorem dr_m2 : ((ai_ex (hk []) 300 161 tb_m161 10 [61] (58, [(0, (0, 49, 0, 0)), (2, (1, 2, 0, 0)), (3, (1, 3, 0, 0)), (4, (1, 4, 0, 0)), (5, (1, 5, 0, 0))], [(1, 6, 0, 0)], [(0, 0, false, 0, 0), (0, 2555, false, 1, 0), (1, 60, false, 2, 0), (0, 1, false, 3, 0), (-2147483648, 2147483647, false, 4, 0), (0, 60, false, 5, 0), (-2147483648, 2147483647, false, 6, 0)], [], [])).any fun xs => xs.all fun x => ([(61, [(0, (0, 49, 0, 0)), (2, (1, 2, 0, 0)), (3, (1, 3, 0, 0)), (4, (1, 4, 0, 0)), (5, (1, 5, 0, 0))], [(1, 0, 0, 12345), (1, 6, 0, 0)], [], [(0, 0, false, 0, 0), (0, 2555, false, 1, 0), (1, 60, false, 2, 0), (0, 1, false, 3, 0), (-2147483648, 2147483647, false, 4, 0), (0, 60, false, 5, 0), (-2147483648, 2147483647, false, 6, 0)], [])] : List sm_t).any fun y => sm_is [] x y) = true := by decide +kernel
theorem dr_m3 : ((ai_ex (hk []) 300 161 tb_m161 10 [71] (62, [(0, (0, 49, 0, 0)), (2, (1, 2, 0, 0)), (3, (1, 3, 0, 0)), (4, (1, 4, 0, 0)), (5, (1, 5, 0, 0))], [(1, 6, 0, 0)], [(0, 0, false, 0, 0), (0, 2555, false, 1, 0), (1, 60, false, 2, 0), (0, 1, false, 3, 0), (-2147483648, 2147483647, false, 4, 0), (0, 60, false, 5, 0), (-2147483648, 2147483647, false, 6, 0)], [], [])).any fun xs => xs.all fun x => ([(71, [(0, (0, 49, 0, 0)), (2, (1, 2, 0, 0)), (3, (1, 3, 0, 0)), (4, (1, 6, 0, 0)), (5, (1, 5, 0, 0))], [(1, 0, 0, 16), (1, 6, 0, 0), (1, 0, 0, 108), (0, 49, 0, 0)], [], [(0, 0, false, 0, 0), (0, 2555, false, 1, 0), (1, 60, false, 2, 0), (0, 1, false, 3, 0), (-2147483648, 2147483647, false, 4, 0), (0, 60, false, 5, 0), (-2147483648, 2147483647, false, 6, 0)], [])] : List sm_t).any fun y => sm_is [] x y) = true := by decide +kernel
theorem dr_m4 : ((ai_ex (hk []) 300 161 tb_m161 10 [75] (72, [(0, (0, 49, 0, 0)), (2, (1, 2, 0, 0)), (3, (1, 3, 0, 0)), (4, (1, 4, 0, 0)), (5, (1, 5, 0, 0))], [(1, 6, 0, 0), (1, 0, 0, 108), (0, 49, 0, 0)], [(0, 0, false, 0, 0), (0, 2555, false, 1, 0), (1, 60, false, 2, 0), (0, 1, false, 3, 0), (-2147483648, 2147483647, false, 4, 0), (0, 60, false, 5, 0), (-2147483648, 2147483647, false, 6, 0)], [], [])).any fun xs => xs.all fun x => ([(75, [(0, (0, 49, 0, 0)), (2, (1, 2, 0, 0)), (3, (1, 3, 0, 0)), (4, (1, 4, 0, 0)), (5, (1, 5, 0, 0))], [(1, 0, 0, 32767), (1, 6, 0, 0), (1, 0, 0, 108), (0, 49, 0, 0)], [], [(0, 0, false, 0, 0), (0, 2555, false, 1, 0), (1, 60, false, 2, 0), (0, 1, false, 3, 0), (-2147483648, 2147483647, false, 4, 0), (0, 60, false, 5, 0), (-2147483648, 2147483647, false, 6, 0)], [])] : List sm_t).any fun y => sm_is [] x y) = true := by decide +kernel
theorem dr_m5 : ((ai_ex (hk []) 300 161 tb_m161 10 [80] (76, [(0, (0, 49, 0, 0)), (2, (1, 2, 0, 0)), (3, (1, 3, 0, 0)), (4, (1, 4, 0, 0)), (5, (1, 5, 0, 0))], [(1, 6, 0, 0), (1, 0, 0, 108), (0, 49, 0, 0)], [(0, 0, false, 0, 0), (0, 2555, false, 1, 0), (1, 60, false, 2, 0), (0, 1, false, 3, 0), (-2147483648, 2147483647, false, 4, 0), (0, 60, false, 5, 0), (-2147483648, 2147483647, false, 6, 0), (1, 4, false, 7, 0)], [(49, 1, (1, 7, 0, 0))], [])).any fun xs => xs.all fun x => ([(80, [(0, (0, 49, 0, 0)), (2, (1, 2, 0, 0)), (3, (1, 3, 0, 0)), (4, (1, 4, 0, 0)), (5, (1, 5, 0, 0))], [(1, 7, 0, 0), (1, 6, 0, 0), (1, 0, 0, 108), (0, 49, 0, 0)], [], [(0, 0, false, 0, 0), (0, 2555, false, 1, 0), (1, 60, false, 2, 0), (0, 1, false, 3, 0), (-2147483648, 2147483647, false, 4, 0), (0, 60, false, 5, 0), (-2147483648, 2147483647, false, 6, 0), (1, 4, false, 7, 0)], [])] : List sm_t).any fun y => sm_is [] x y) = true := by decide +kernel
theorem dr_m7 : ((ai_ex (hk []) 300 161 tb_m161 10 [47] (84, [(0, (0, 49, 0, 0)), (2, (1, 2, 0, 0)), (3, (1, 3, 0, 0)), (4, (1, 4, 0, 0)), (5, (1, 5, 0, 0))], [(1, 0, 0, 1)], [(0, 0, false, 0, 0), (0, 2555, false, 1, 0), (1, 60, false, 2, 0), (0, 1, false, 3, 0), (-2147483648, 2147483647, false, 4, 0), (0, 59, false, 5, 0)], [], [])).any fun xs => xs.all fun x => ([(47, [(0, (0, 49, 0, 0)), (2, (1, 2, 0, 0)), (3, (1, 3, 0, 0)), (4, (1, 4, 0, 0)), (5, (1, 5, 0, 1))], [], [], [(0, 0, false, 0, 0), (0, 2555, false, 1, 0), (1, 60, false, 2, 0), (0, 1, false, 3, 0), (-2147483648, 2147483647, false, 4, 0), (0, 59, false, 5, 0)], [])] : List sm_t).any fun y => sm_is [] x y) = true := by decide +kernel
theorem dr_m8 : ((ai_ex (hk [(50, 124, 125)]) 300 161 tb_m161 10 [47] (84, [(0, (0, 49, 0, 0)), (2, (1, 2, 0, 0)), (3, (1, 3, 0, 0)), (4, (1, 4, 0, 0)), (5, (1, 5, 0, 0))], [(1, 0, 0, 0)], [(0, 0, false, 0, 0), (0, 2555, false, 1, 0), (1, 60, false, 2, 0), (0, 1, false, 3, 0), (-2147483648, 2147483647, false, 4, 0), (0, 59, false, 5, 0), (0, 20, false, 6, 0)], [(50, 124, (1, 6, 0, -10))], [])).any fun xs => xs.all fun x => ([(47, [(0, (0, 49, 0, 0)), (2, (1, 2, 0, 0)), (3, (1, 3, 0, 0)), (4, (1, 4, 0, 0)), (5, (1, 5, 0, 1))], [], [(1, 6, 0, -8)], [(0, 0, false, 0, 0), (0, 2555, false, 1, 0), (1, 60, false, 2, 0), (0, 1, false, 3, 0), (-2147483648, 2147483647, false, 4, 0), (0, 59, false, 5, 0), (0, 18, false, 6, 0)], []), (47, [(0, (0, 49, 0, 0)), (2, (1, 2, 0, 0)), (3, (1, 3, 0, 0)), (4, (1, 4, 0, 0)), (5, (1, 5, 0, 1))], [], [(1, 0, 0, 10)], [(0, 0, false, 0, 0), (0, 2555, false, 1, 0), (1, 60, false, 2, 0), (0, 1, false, 3, 0), (-2147483648, 2147483647, false, 4, 0), (0, 59, false, 5, 0), (19, 20, false, 6, 0)], [])] : List sm_t).any fun y => sm_is [(50, 124)] x y) = true := by decide +kernel
theorem dr_m0 : ((ai_ex (hk []) 300 161 tb_m161 10 [38] (0, [(0, (0, 49, 0, 0)), (1, (1, 4, 0, 0)), (2, (1, 2, 0, 0)), (3, (1, 3, 0, 0))], [], [(0, 0, false, 0, 0), (0, 2555, false, 1, 0), (1, 60, false, 2, 0), (0, 1, false, 3, 0), (-2147483648, 2147483647, false, 4, 0), (1, 4, false, 5, 0)], [(49, 1, (1, 5, 0, 0))], [])).any fun xs => xs.all fun x => ([(38, [(0, (0, 49, 0, 0)), (1, (1, 4, 0, 0)), (2, (1, 2, 0, 0)), (3, (1, 3, 0, 0))], [(1, 0, 0, 108), (1, 0, 0, 0), (0, 49, 0, 0)], [], [(0, 0, false, 0, 0), (0, 2555, false, 1, 0), (1, 60, false, 2, 0), (0, 1, false, 3, 0), (-2147483648, 2147483647, false, 4, 0), (1, 4, true, 5, 0)], [(140, 5, 0, 5, 0)])] : List sm_t).any fun y => sm_is [] x y) = true := by decide +kernel
theorem dr_m9 : ((ai_ex (hk []) 300 161 tb_m161 10 [47] (41, [(0, (0, 49, 0, 0)), (1, (1, 4, 0, 0)), (2, (1, 2, 0, 0)), (3, (1, 3, 0, 0))], [], [(0, 0, false, 0, 0), (0, 2555, false, 1, 0), (1, 60, false, 2, 0), (0, 1, false, 3, 0), (-2147483648, 2147483647, false, 4, 0)], [], [])).any fun xs => xs.all fun x => ([(47, [(0, (0, 49, 0, 0)), (2, (1, 2, 0, 0)), (3, (1, 3, 0, 0)), (4, (1, 4, 0, 0)), (5, (1, 0, 0, 0))], [], [], [(0, 0, false, 0, 0), (0, 2555, false, 1, 0), (1, 60, false, 2, 0), (0, 1, false, 3, 0), (-2147483648, 2147483647, false, 4, 0)], [])] : List sm_t).any fun y => sm_is [] x y) = true := by decide +kernel
section XD1
variable {ad : List Nat} {M : ai_m} {d : Nat} {p : Program} {l : Launch} {e : Env} {R : Room} {s : State} {m0 : MethodId} {args : Array Value} {below : List Frame} {meth : Method} {c : Code} {D : va_G} {tys : ai_ty} {A : Nat → Prop} {b L : Nat} {sx : Nat → Int32} {cells slots : Nat} {Q : State → Prop}
theorem dr_cl {a0 a1 a7 n : Nat} {E0 : Nat → Int} {R0 : Nat → Int} {zN zw m : Int32} {ws0 : va_W} (C : ai_cx tb_m85 10 p R s m0 args c D tys A b L sx cells slots) (ha0 : ad[0]? = some a0) (ha1 : ad[1]? = some a1) (ha7 : ad[7]? = some a7) (hn : n ≤ 4) (hn1 : 1 ≤ n) (hg : good n E0) (em : m.toInt = n) (hN : 1 ≤ zN.toInt ∧ zN.toInt ≤ 60) (hzw : 0 ≤ zw.toInt ∧ zw.toInt ≤ 1) (hv0 : vi ws0 1 0 n) (hc0 : cev ws0 1 n E0)
    (kk : ∀ (pcr : Nat) (ws' : va_W) (z : Int32) (lv' : List (Nat × Value)), pcr ∈ [149] → ai_wd tb_TY ad tys ws' → ai_fr tb_WR7 ws0 ws' → z.toInt = drR n E0 R0 zw.toInt → hG tb_m85 p l e R s m0 args below meth c D A cells slots Q pcr lv' [.int z] ws') :
    ∀ (f : Nat) (E : Nat → Int) (zg zi : Int32) (ws : va_W), zi.toInt + f = zN.toInt → 0 ≤ zi.toInt → good n E → drE m f zg E = R0 → ai_wd tb_TY ad tys ws → ai_fr tb_WR7 ws0 ws → vi ws 7 0 n → cev ws 7 n E → hG tb_m85 p l e R s m0 args below meth c D A cells slots Q 52 [(0, .ref a0), (2, .int zN), (3, .int zw), (4, .int zg), (5, .int zi)] [] ws := by
  have bE0 := hg.2.2
  have hm : 0 < m.toInt := by omega
  intro f
  induction f with
  | zero =>
    intro E zg zi ws hf hi hgE hR hw hfr hv7 hc
    have bE := hgE.2.2
    have bg := ai_irg zg
    have hR' : E = R0 := hR
    refine hildw (j := 5) (x := zi) C (tv_m85.1.1.1 (52, .iload 5, 2) (List.mem_of_getElem? (i := 28) rfl)) (List.mem_of_getElem? (i := 4) rfl) ?_
    have sbx : ai_sb ws [0, 0, zN.toInt, zw.toInt, zg.toInt, zi.toInt, E 17, E0 17] [(5, 5, 2, 5, 0)] := fun q hq => by
      rw [List.mem_singleton.mp hq]
      refine ⟨zi.toInt, zN.toInt, zi.toInt, rfl, rfl, rfl, fun h0 => ?_, fun h0 => ?_, fun h0 => ?_, fun h0 => ?_, fun h0 => ?_, fun h0 => ?_⟩
      all_goals dsimp only at h0 ⊢
      all_goals omega
    refine hsum (st := (54, [(0, (0, 0, 0, 0)), (2, (1, 2, 0, 0)), (3, (1, 3, 0, 0)), (4, (1, 4, 0, 0)), (5, (1, 5, 0, 0))], [(1, 5, 0, 0)], [(0, 0, false, 0, 0), (0, 2555, false, 1, 0), (1, 60, false, 2, 0), (0, 1, false, 3, 0), (-2147483648, 2147483647, false, 4, 0), (0, 60, false, 5, 0), (0, 999, false, 6, 0), (0, 999, false, 7, 0)], [(7, 2, (1, 6, 0, 0)), (1, 2, (1, 7, 0, 0))], [(5, 5, 2, 5, 0)])) dr_cx rfl C (r := [0, 0, zN.toInt, zw.toInt, zg.toInt, zi.toInt, E 17, E0 17]) ⟨en_mk (by simp only [en_b, and_true]; omega) rfl, sbx, ⟨rfl, Or.inl ⟨rfl, a0, ha0, rfl⟩, rfl, int_dv (z := zN.toInt) rfl (by omega), rfl, int_dv (z := zw.toInt) rfl (by omega), rfl, int_dv (z := zg.toInt) rfl (by omega), rfl, int_dv (z := zi.toInt) rfl (by omega), trivial⟩, ⟨int_dv (z := zi.toInt) rfl (by omega), trivial⟩, hw, kc (hc.2.2.kn (n := 6) (t := E 17) rfl (by omega)) (kc ((hc0.2.2.fr hfr rfl).kn (n := 7) (t := E0 17) rfl (by omega)) (k0)), fun _ _ _ _ h => h, fun h => by cases h⟩ (fun x hx r1 lv1 st1 ws1 hx1 hb1 hl1 hs1 hlo1 hsk1 hw1 hV1 hf1 _ => ?_)
    have m3 := nm_x hx1 (k := 3) rfl
    have m6 := nm_x hx1 (k := 6) rfl
    have m7 := nm_x hx1 (k := 7) rfl
    unfold dr_cX at hx
    rcases List.mem_cons.mp hx with rfl | hx
    · skip
      dsimp only at hsk1 ⊢
      simp (config := { decide := true }) only [bnd_b, lin_b, lin_q, Nat.reduceAdd, Nat.zero_add, Nat.reduceEqDiff, reduceIte, and_true, Int.add_zero] at hb1 hl1
      obtain ⟨z, rfl, hz9⟩ := sk1 rfl hsk1
      unfold vn at hz9
      dsimp only at hz9
      refine kk 149 ws1 z lv1 (by decide) hw1 (hfr.tr (wsub_ok (V := []) (by rfl) hf1)) ?_
      rw [← hR']
      unfold drR
      rw [if_neg (by omega)]
      omega
    have hx0 := List.mem_singleton.mp hx
    subst hx0
    dsimp only at hsk1 ⊢
    simp (config := { decide := true }) only [bnd_b, lin_b, lin_q, Nat.reduceAdd, Nat.zero_add, Nat.reduceEqDiff, reduceIte, and_true, Int.add_zero] at hb1 hl1
    obtain ⟨x10, s10, rfl, c10, g10⟩ := hsk1.cons
    cases g10.nil
    have f10 := ref_of ha7 c10
    subst f10
    refine hcallI (q := (106, 0, 5, 0, 0)) (M' := tb_m5) (cl := 7) (a := a7) (As := []) (rest := []) (rets := [33]) (P := fun w z => ai_wd tb_TY ad tys w ∧ ai_fr [] ws1 w ∧ z.toInt = ((wonF E n 5 0 0 : Nat) : Int)) C (by decide) (tv_m85.1.1.1 (128, .invokevirtual 106, 3) (List.mem_of_getElem? (i := 65) rfl)) (tv_m85.2 _ (List.mem_of_getElem? (i := 4) rfl)) rfl rfl rfl rfl (by decide) (Nat.le_of_ble_eq_true rfl) rfl rfl rfl rfl hw1 ha7 (Nat.le_of_ble_eq_true rfl) ?_ ?_ ?_
    · intro pcr hp
      simp only [List.mem_cons, List.not_mem_nil, or_false] at hp
      rcases hp with rfl
      · exact tv_m5.1.1.1 (33, .ireturn, 1) (List.mem_of_getElem? (i := 21) rfl)
    · intro p2 e2 R2 s2 m2 args2 below2 meth2 c2 Q2 C2 kk2
      exact wb_all (mm_cx (by decide) C2) (Or.inr rfl) ha7 hn hgE hw1 ⟨hv7.fr hf1 rfl, hc.fr hf1 rfl⟩ (fun w z lv2 h1 h2 h3 => kk2 33 w z lv2 (by decide) ⟨h1, h2, h3⟩)
    · intro ws2 z2 hP2
      have bz2 := ai_irg z2
      refine hG_sub (lv2 := []) (fun q hq => by cases hq) ?_
      refine hsum (st := (131, [], [(1, 2, 0, 0)], [(0, 0, false, 0, 0), (0, 2555, false, 1, 0), (-2147483648, 2147483647, false, 2, 0)], [], [])) dr_ce rfl C (r := [0, 0, z2.toInt]) ⟨en_mk (by simp only [en_b, and_true]; omega) rfl, sb0, trivial, ⟨int_dv (z := z2.toInt) rfl (by omega), trivial⟩, hP2.1, k0, fun _ _ _ _ h => h, fun h => by cases h⟩ (fun x hx r3 lv3 st3 ws3 hx3 hb3 hl3 hs3 hlo3 hsk3 hw3 hv3 hf3 _ => ?_)
      have hx9 := List.mem_singleton.mp hx
      subst hx9
      obtain ⟨z, rfl, hz9⟩ := sk1 rfl hsk3
      rw [vn_at hx3 (n := 2) (z := z2.toInt) rfl] at hz9
      refine kk 149 ws3 z lv3 (by decide) hw3 (((hfr.tr (wsub_ok (V := []) (by rfl) hf1)).tr (wsub_ok (V := []) (by rfl) hP2.2.1)).tr (wsub_ok (V := []) (by rfl) hf3)) ?_
      rw [← hR']
      unfold drR
      rw [if_pos (by omega), ← hP2.2.2]
      omega
  | succ f ih =>
    intro E zg zi ws hf hi hgE hR hw hfr hv7 hc
    have bg := ai_irg zg
    obtain ⟨b5, b6⟩ := hgE.2
    refine hildw (j := 5) (x := zi) C (tv_m85.1.1.1 (52, .iload 5, 2) (List.mem_of_getElem? (i := 28) rfl)) (List.mem_of_getElem? (i := 4) rfl) ?_
    have sbx : ai_sb ws [0, 0, zN.toInt, zw.toInt, zg.toInt, zi.toInt] [(4, 5, 2, 5, 0)] := fun q hq => by
      rw [List.mem_singleton.mp hq]
      refine ⟨zi.toInt, zN.toInt, zi.toInt, rfl, rfl, rfl, fun h0 => ?_, fun h0 => ?_, fun h0 => ?_, fun h0 => ?_, fun h0 => ?_, fun h0 => ?_⟩
      all_goals dsimp only at h0 ⊢
      all_goals omega
    refine hsum (st := (54, [(0, (0, 0, 0, 0)), (2, (1, 2, 0, 0)), (3, (1, 3, 0, 0)), (4, (1, 4, 0, 0)), (5, (1, 5, 0, 0))], [(1, 5, 0, 0)], [(0, 0, false, 0, 0), (0, 2555, false, 1, 0), (1, 60, false, 2, 0), (0, 1, false, 3, 0), (-2147483648, 2147483647, false, 4, 0), (0, 59, false, 5, 0)], [], [(4, 5, 2, 5, 0)])) dr_c1 rfl C (r := [0, 0, zN.toInt, zw.toInt, zg.toInt, zi.toInt]) ⟨en_mk (by simp only [en_b, and_true]; omega) rfl, sbx, ⟨rfl, Or.inl ⟨rfl, a0, ha0, rfl⟩, rfl, int_dv (z := zN.toInt) rfl (by omega), rfl, int_dv (z := zw.toInt) rfl (by omega), rfl, int_dv (z := zg.toInt) rfl (by omega), rfl, int_dv (z := zi.toInt) rfl (by omega), trivial⟩, ⟨int_dv (z := zi.toInt) rfl (by omega), trivial⟩, hw, k0, fun _ _ _ _ h => h, fun h => by cases h⟩ (fun x hx r1 lv1 st1 ws1 hx1 hb1 hl1 hs1 hlo1 hsk1 hw1 hV1 hf1 _ => ?_)
    have hx9 := List.mem_singleton.mp hx
    subst hx9
    dsimp only at hlo1 hsk1 ⊢
    obtain ⟨l10, rfl, p10⟩ := lo_ref ha0 hlo1
    obtain ⟨y11, l11, rfl, d11, p11⟩ := lo_int rfl p10
    obtain ⟨y12, l12, rfl, d12, p12⟩ := lo_int rfl p11
    obtain ⟨y13, l13, rfl, d13, p13⟩ := lo_int rfl p12
    obtain ⟨y14, l14, rfl, d14, p14⟩ := lo_int rfl p13
    cases lo_nil p14
    rw [vn_at hx1 (n := 2) (z := zN.toInt) rfl] at d11
    have e11 : zN = y11 := Int32.toInt_inj.mp (by omega)
    subst e11
    rw [vn_at hx1 (n := 3) (z := zw.toInt) rfl] at d12
    have e12 : zw = y12 := Int32.toInt_inj.mp (by omega)
    subst e12
    rw [vn_at hx1 (n := 4) (z := zg.toInt) rfl] at d13
    have e13 : zg = y13 := Int32.toInt_inj.mp (by omega)
    subst e13
    rw [vn_at hx1 (n := 5) (z := zi.toInt) rfl] at d14
    have e14 : zi = y14 := Int32.toInt_inj.mp (by omega)
    subst e14
    obtain ⟨x10, s10, rfl, c10, g10⟩ := hsk1.cons
    obtain ⟨x11, s11, rfl, c11, g11⟩ := g10.cons
    cases g11.nil
    obtain ⟨u10, rfl, w10⟩ := dvn c10 (hx1.at (k := 0) rfl)
    obtain ⟨u11, rfl, w11⟩ := dvn c11 (hx1.at (k := 4) rfl)
    have k1 : u10 = 1103515245 := Int32.toInt_inj.mp (by rw [show u10.toInt = 1103515245 by omega]; decide)
    have k2 : u11 = zg := Int32.toInt_inj.mp (by omega)
    rw [k1, k2]
    refine hdmul C (tv_m85.1.1.1 (62, .imul, 1) (List.mem_of_getElem? (i := 33) rfl)) ?_
    have by1 := ai_irg (zg * 1103515245)
    generalize hzy : zg * 1103515245 = zy at by1 ⊢
    refine hsum (st := (63, [(0, (0, 0, 0, 0)), (2, (1, 2, 0, 0)), (3, (1, 3, 0, 0)), (4, (1, 4, 0, 0)), (5, (1, 5, 0, 0))], [(1, 6, 0, 0)], [(0, 0, false, 0, 0), (0, 2555, false, 1, 0), (1, 60, false, 2, 0), (0, 1, false, 3, 0), (-2147483648, 2147483647, false, 4, 0), (0, 60, false, 5, 0), (-2147483648, 2147483647, false, 6, 0)], [], [])) dr_c2 rfl C (r := [0, 0, zN.toInt, zw.toInt, zg.toInt, zi.toInt, zy.toInt]) ⟨en_mk (by simp only [en_b, and_true]; omega) rfl, sb0, ⟨rfl, Or.inl ⟨rfl, a0, ha0, rfl⟩, rfl, int_dv (z := zN.toInt) rfl (by omega), rfl, int_dv (z := zw.toInt) rfl (by omega), rfl, int_dv (z := zg.toInt) rfl (by omega), rfl, int_dv (z := zi.toInt) rfl (by omega), trivial⟩, ⟨int_dv (z := zy.toInt) rfl (by omega), trivial⟩, hw1, k0, fun _ _ _ _ h => h, fun h => by cases h⟩ (fun x hx r2 lv2 st2 ws2 hx2 hb2 hl2 hs2 hlo2 hsk2 hw2 hV2 hf2 _ => ?_)
    have hx9 := List.mem_singleton.mp hx
    subst hx9
    dsimp only at hlo2 hsk2 ⊢
    obtain ⟨l20, rfl, p20⟩ := lo_ref ha0 hlo2
    obtain ⟨y21, l21, rfl, d21, p21⟩ := lo_int rfl p20
    obtain ⟨y22, l22, rfl, d22, p22⟩ := lo_int rfl p21
    obtain ⟨y23, l23, rfl, d23, p23⟩ := lo_int rfl p22
    obtain ⟨y24, l24, rfl, d24, p24⟩ := lo_int rfl p23
    cases lo_nil p24
    rw [vn_at hx2 (n := 2) (z := zN.toInt) rfl] at d21
    have e21 : zN = y21 := Int32.toInt_inj.mp (by omega)
    subst e21
    rw [vn_at hx2 (n := 3) (z := zw.toInt) rfl] at d22
    have e22 : zw = y22 := Int32.toInt_inj.mp (by omega)
    subst e22
    rw [vn_at hx2 (n := 4) (z := zg.toInt) rfl] at d23
    have e23 : zg = y23 := Int32.toInt_inj.mp (by omega)
    subst e23
    rw [vn_at hx2 (n := 5) (z := zi.toInt) rfl] at d24
    have e24 : zi = y24 := Int32.toInt_inj.mp (by omega)
    subst e24
    obtain ⟨x20, s20, rfl, c20, g20⟩ := hsk2.cons
    obtain ⟨x21, s21, rfl, c21, g21⟩ := g20.cons
    cases g21.nil
    obtain ⟨u20, rfl, w20⟩ := dvn c20 (hx2.at (k := 0) rfl)
    obtain ⟨u21, rfl, w21⟩ := dvn c21 (hx2.at (k := 6) rfl)
    have k3 : u20 = 12345 := Int32.toInt_inj.mp (by rw [show u20.toInt = 12345 by omega]; decide)
    have k4 : u21 = zy := Int32.toInt_inj.mp (by omega)
    rw [k3, k4]
    refine hdadd C (tv_m85.1.1.1 (66, .iadd, 1) (List.mem_of_getElem? (i := 35) rfl)) ?_
    have bg2 := ai_irg (zy + 12345)
    generalize hgh : zy + 12345 = zh at bg2 ⊢
    have hgg : dr_g zg = zh := by
      rw [← hgh, ← hzy]
      rfl
    refine hsum (st := (67, [(0, (0, 0, 0, 0)), (2, (1, 2, 0, 0)), (3, (1, 3, 0, 0)), (4, (1, 4, 0, 0)), (5, (1, 5, 0, 0))], [(1, 6, 0, 0)], [(0, 0, false, 0, 0), (0, 2555, false, 1, 0), (1, 60, false, 2, 0), (0, 1, false, 3, 0), (-2147483648, 2147483647, false, 4, 0), (0, 60, false, 5, 0), (-2147483648, 2147483647, false, 6, 0)], [], [])) dr_c3 rfl C (r := [0, 0, zN.toInt, zw.toInt, zg.toInt, zi.toInt, zh.toInt]) ⟨en_mk (by simp only [en_b, and_true]; omega) rfl, sb0, ⟨rfl, Or.inl ⟨rfl, a0, ha0, rfl⟩, rfl, int_dv (z := zN.toInt) rfl (by omega), rfl, int_dv (z := zw.toInt) rfl (by omega), rfl, int_dv (z := zg.toInt) rfl (by omega), rfl, int_dv (z := zi.toInt) rfl (by omega), trivial⟩, ⟨int_dv (z := zh.toInt) rfl (by omega), trivial⟩, hw2, k0, fun _ _ _ _ h => h, fun h => by cases h⟩ (fun x hx r3 lv3 st3 ws3 hx3 hb3 hl3 hs3 hlo3 hsk3 hw3 hV3 hf3 _ => ?_)
    have hx9 := List.mem_singleton.mp hx
    subst hx9
    dsimp only at hlo3 hsk3 ⊢
    obtain ⟨l30, rfl, p30⟩ := lo_ref ha0 hlo3
    obtain ⟨y31, l31, rfl, d31, p31⟩ := lo_int rfl p30
    obtain ⟨y32, l32, rfl, d32, p32⟩ := lo_int rfl p31
    obtain ⟨y33, l33, rfl, d33, p33⟩ := lo_int rfl p32
    obtain ⟨y34, l34, rfl, d34, p34⟩ := lo_int rfl p33
    cases lo_nil p34
    rw [vn_at hx3 (n := 2) (z := zN.toInt) rfl] at d31
    have e31 : zN = y31 := Int32.toInt_inj.mp (by omega)
    subst e31
    rw [vn_at hx3 (n := 3) (z := zw.toInt) rfl] at d32
    have e32 : zw = y32 := Int32.toInt_inj.mp (by omega)
    subst e32
    rw [vn_at hx3 (n := 6) (z := zh.toInt) rfl] at d33
    rw [vn_at hx3 (n := 5) (z := zi.toInt) rfl] at d34
    have e34 : zi = y34 := Int32.toInt_inj.mp (by omega)
    subst e34
    obtain ⟨x30, s30, rfl, c30, g30⟩ := hsk3.cons
    obtain ⟨x31, s31, rfl, c31, g31⟩ := g30.cons
    cases g31.nil
    obtain ⟨u30, rfl, w30⟩ := dvn c30 (hx3.at (k := 0) rfl)
    obtain ⟨u31, rfl, w31⟩ := dvn c31 (hx3.at (k := 6) rfl)
    have k5 : u30 = 16 := Int32.toInt_inj.mp (by rw [show u30.toInt = 16 by omega]; decide)
    have k6 : u31 = zh := Int32.toInt_inj.mp (by omega)
    have k7 : y33 = zh := Int32.toInt_inj.mp (by omega)
    rw [k5, k6, k7]
    refine hdush C (tv_m85.1.1.1 (73, .iushr, 1) (List.mem_of_getElem? (i := 39) rfl)) ?_
    have by2 := ai_irg (zh.toUInt32 >>> ((16 : Int32).toUInt32 &&& Int32.toUInt32 31)).toInt32
    generalize hsh : (zh.toUInt32 >>> ((16 : Int32).toUInt32 &&& Int32.toUInt32 31)).toInt32 = zs at by2 ⊢
    refine hsum (st := (74, [(0, (0, 0, 0, 0)), (2, (1, 2, 0, 0)), (3, (1, 3, 0, 0)), (4, (1, 4, 0, 0)), (5, (1, 5, 0, 0))], [(1, 6, 0, 0)], [(0, 0, false, 0, 0), (0, 2555, false, 1, 0), (1, 60, false, 2, 0), (0, 1, false, 3, 0), (-2147483648, 2147483647, false, 4, 0), (0, 60, false, 5, 0), (-2147483648, 2147483647, false, 6, 0)], [], [])) dr_c4 rfl C (r := [0, 0, zN.toInt, zw.toInt, zh.toInt, zi.toInt, zs.toInt]) ⟨en_mk (by simp only [en_b, and_true]; omega) rfl, sb0, ⟨rfl, Or.inl ⟨rfl, a0, ha0, rfl⟩, rfl, int_dv (z := zN.toInt) rfl (by omega), rfl, int_dv (z := zw.toInt) rfl (by omega), rfl, int_dv (z := zh.toInt) rfl (by omega), rfl, int_dv (z := zi.toInt) rfl (by omega), trivial⟩, ⟨int_dv (z := zs.toInt) rfl (by omega), trivial⟩, hw3, k0, fun _ _ _ _ h => h, fun h => by cases h⟩ (fun x hx r4 lv4 st4 ws4 hx4 hb4 hl4 hs4 hlo4 hsk4 hw4 hV4 hf4 _ => ?_)
    have hx9 := List.mem_singleton.mp hx
    subst hx9
    dsimp only at hlo4 hsk4 ⊢
    obtain ⟨l40, rfl, p40⟩ := lo_ref ha0 hlo4
    obtain ⟨y41, l41, rfl, d41, p41⟩ := lo_int rfl p40
    obtain ⟨y42, l42, rfl, d42, p42⟩ := lo_int rfl p41
    obtain ⟨y43, l43, rfl, d43, p43⟩ := lo_int rfl p42
    obtain ⟨y44, l44, rfl, d44, p44⟩ := lo_int rfl p43
    cases lo_nil p44
    rw [vn_at hx4 (n := 2) (z := zN.toInt) rfl] at d41
    have e41 : zN = y41 := Int32.toInt_inj.mp (by omega)
    subst e41
    rw [vn_at hx4 (n := 3) (z := zw.toInt) rfl] at d42
    have e42 : zw = y42 := Int32.toInt_inj.mp (by omega)
    subst e42
    rw [vn_at hx4 (n := 4) (z := zh.toInt) rfl] at d43
    have e43 : zh = y43 := Int32.toInt_inj.mp (by omega)
    subst e43
    rw [vn_at hx4 (n := 5) (z := zi.toInt) rfl] at d44
    have e44 : zi = y44 := Int32.toInt_inj.mp (by omega)
    subst e44
    obtain ⟨x40, s40, rfl, c40, g40⟩ := hsk4.cons
    obtain ⟨x41, s41, rfl, c41, g41⟩ := g40.cons
    cases g41.nil
    obtain ⟨u40, rfl, w40⟩ := dvn c40 (hx4.at (k := 0) rfl)
    obtain ⟨u41, rfl, w41⟩ := dvn c41 (hx4.at (k := 6) rfl)
    have k9 : u40 = 32767 := Int32.toInt_inj.mp (by rw [show u40.toInt = 32767 by omega]; decide)
    have k10 : u41 = zs := Int32.toInt_inj.mp (by omega)
    rw [k9, k10]
    refine hdand C (tv_m85.1.1.1 (77, .iand, 1) (List.mem_of_getElem? (i := 41) rfl)) ?_
    have hdx : zs &&& 32767 = dr_x zh := by
      rw [← hsh]
      exact dr_eq zh
    rw [hdx]
    have by3 := ai_irg (dr_x zh)
    refine hsum (st := (78, [(0, (0, 0, 0, 0)), (2, (1, 2, 0, 0)), (3, (1, 3, 0, 0)), (4, (1, 4, 0, 0)), (5, (1, 5, 0, 0))], [(1, 6, 0, 0)], [(0, 0, false, 0, 0), (0, 2555, false, 1, 0), (1, 60, false, 2, 0), (0, 1, false, 3, 0), (-2147483648, 2147483647, false, 4, 0), (0, 60, false, 5, 0), (-2147483648, 2147483647, false, 6, 0), (1, 4, false, 7, 0)], [(1, 0, (1, 7, 0, 0))], [])) dr_c5 rfl C (r := [0, 0, zN.toInt, zw.toInt, zh.toInt, zi.toInt, (dr_x zh).toInt, (n : Int)]) ⟨en_mk (by simp only [en_b, and_true]; omega) rfl, sb0, ⟨rfl, Or.inl ⟨rfl, a0, ha0, rfl⟩, rfl, int_dv (z := zN.toInt) rfl (by omega), rfl, int_dv (z := zw.toInt) rfl (by omega), rfl, int_dv (z := zh.toInt) rfl (by omega), rfl, int_dv (z := zi.toInt) rfl (by omega), trivial⟩, ⟨int_dv (z := (dr_x zh).toInt) rfl (by omega), trivial⟩, hw4, kc ((((((hv0.fr hfr rfl).fr hf1 rfl).fr hf2 rfl).fr hf3 rfl).fr hf4 rfl).kn (n := 7) (t := (n : Int)) rfl (by omega)) (k0), fun _ _ _ _ h => h, fun h => by cases h⟩ (fun x hx r5 lv5 st5 ws5 hx5 hb5 hl5 hs5 hlo5 hsk5 hw5 hV5 hf5 _ => ?_)
    have hx9 := List.mem_singleton.mp hx
    subst hx9
    dsimp only at hlo5 hsk5 ⊢
    obtain ⟨l50, rfl, p50⟩ := lo_ref ha0 hlo5
    obtain ⟨y51, l51, rfl, d51, p51⟩ := lo_int rfl p50
    obtain ⟨y52, l52, rfl, d52, p52⟩ := lo_int rfl p51
    obtain ⟨y53, l53, rfl, d53, p53⟩ := lo_int rfl p52
    obtain ⟨y54, l54, rfl, d54, p54⟩ := lo_int rfl p53
    cases lo_nil p54
    rw [vn_at hx5 (n := 2) (z := zN.toInt) rfl] at d51
    have e51 : zN = y51 := Int32.toInt_inj.mp (by omega)
    subst e51
    rw [vn_at hx5 (n := 3) (z := zw.toInt) rfl] at d52
    have e52 : zw = y52 := Int32.toInt_inj.mp (by omega)
    subst e52
    rw [vn_at hx5 (n := 4) (z := zh.toInt) rfl] at d53
    have e53 : zh = y53 := Int32.toInt_inj.mp (by omega)
    subst e53
    rw [vn_at hx5 (n := 5) (z := zi.toInt) rfl] at d54
    have e54 : zi = y54 := Int32.toInt_inj.mp (by omega)
    subst e54
    obtain ⟨x50, s50, rfl, c50, g50⟩ := hsk5.cons
    obtain ⟨x51, s51, rfl, c51, g51⟩ := g50.cons
    cases g51.nil
    obtain ⟨u50, rfl, w50⟩ := dvn c50 (hx5.at (k := 7) rfl)
    obtain ⟨u51, rfl, w51⟩ := dvn c51 (hx5.at (k := 6) rfl)
    have k12 : u50 = m := Int32.toInt_inj.mp (by omega)
    have k13 : u51 = dr_x zh := Int32.toInt_inj.mp (by omega)
    rw [k12, k13]
    refine hdrem C (tv_m85.1.1.1 (85, .irem, 1) (List.mem_of_getElem? (i := 45) rfl)) (fun q => by rw [q] at hm; exact absurd hm (by decide)) ?_
    show hG tb_m85 p l e R s m0 args below meth c D A cells slots Q 86 [(0, .ref a0), (2, .int zN), (3, .int zw), (4, .int zh), (5, .int zi)] ([.int (dr_t zh m)]) ws5
    obtain ⟨t1, t2⟩ := dr_tb zh m hm
    obtain ⟨t, ht⟩ : ∃ t : Nat, (dr_t zh m).toInt = (t : Int) := ⟨(dr_t zh m).toInt.toNat, by omega⟩
    have htn : t < n := by omega
    have hR2 : drE m f zh (drS E t) = R0 := by
      rw [← hR]
      show _ = drE m f (dr_g zg) (drS E (dr_t (dr_g zg) m).toInt.toNat)
      rw [hgg, ht]
      rfl
    generalize dr_t zh m = zt at ht t1 t2 ⊢
    have f05 : ai_fr [] ws ws5 := (((hf1.tr hf2).tr hf3).tr hf4).tr hf5
    obtain ⟨b1, b2, b3, b4⟩ := hgE.1 t htn
    have hcx : cev ws5 7 n E := hc.fr f05 rfl
    obtain ⟨x1, x2, x3, x4⟩ := hcx.1 t htn
    have v7x : vi ws5 7 0 n := hv7.fr f05 rfl
    have sbt : ai_sb ws5 [0, 0, zN.toInt, zw.toInt, zh.toInt, zi.toInt, E (4 + t), E (8 + t), E 16, (n : Int)] [(5, 6, 7, 6, 0)] := fun q hq => by
      rw [List.mem_singleton.mp hq]
      refine ⟨E (4 + t), E (8 + t), E (4 + t), rfl, rfl, rfl, fun h0 => ?_, fun h0 => ?_, fun h0 => ?_, fun h0 => ?_, fun h0 => ?_, fun h0 => ?_⟩
      all_goals dsimp only at h0 ⊢
      all_goals omega
    have rest : ∀ (ws6 : va_W) (act : Int) (za : Int32), za.toInt = act → (act = 4 ∨ (0 ≤ act ∧ act < n)) → evA E act = drS E t → ai_wd tb_TY ad tys ws6 → ai_fr [] ws5 ws6 → hG tb_m85 p l e R s m0 args below meth c D A cells slots Q 110 [(0, .ref a0), (2, .int zN), (3, .int zw), (4, .int zh), (5, .int zi)] [.int za, .ref a7] ws6 := by
      intro ws6 act za eza hact hev hw6 hf6
      refine hcallZ (q := (177, 0, 15, 1, 0)) (M' := tb_m15) (cl := 7) (a := a7) (As := [.int za]) (rest := []) (rets := [10, 20, 28]) (P := pf_P ad tys n E act ws6) C (by decide) (tv_m85.1.1.1 (110, .invokevirtual 177, 3) (List.mem_of_getElem? (i := 57) rfl)) (tv_m85.2 _ (List.mem_of_getElem? (i := 20) rfl)) rfl rfl rfl rfl (by decide) (Nat.le_of_ble_eq_true rfl) rfl rfl rfl rfl hw6 ha7 (Nat.le_of_ble_eq_true rfl) ?_ ?_ ?_ ?_
      · intro pcr hp
        simp only [List.mem_cons, List.not_mem_nil, or_false] at hp
        rcases hp with rfl | rfl | rfl
        · exact tv_m15.1.1.1 (10, .ireturn, 1) (List.mem_of_getElem? (i := 6) rfl)
        · exact tv_m15.1.1.1 (20, .ireturn, 1) (List.mem_of_getElem? (i := 12) rfl)
        · exact tv_m15.1.1.1 (28, .ireturn, 1) (List.mem_of_getElem? (i := 18) rfl)
      · intro w z hPz
        have h := hPz.2.2.2
        by_cases hcb : canB E act = true
        · rw [if_pos hcb] at h
          exact Or.inr (i11 h)
        · rw [if_neg hcb] at h
          exact Or.inl (i01 h)
      · intro p2 e2 R2 s2 m2 args2 below2 meth2 c2 Q2 C2 kk2
        exact pf_all (mm_cx (by decide) C2) ha7 hn hgE hact eza hw6 (v7x.fr hf6 rfl) (hcx.fr hf6 rfl) kk2
      · intro ws7 z7 hP7
        obtain ⟨hw7, hf7, hc7, hz7⟩ := hP7
        have bz7 : 0 ≤ z7.toInt ∧ z7.toInt ≤ 1 := by
          split at hz7 <;> omega
        refine hsum (st := (113, [(0, (0, 0, 0, 0)), (2, (1, 2, 0, 0)), (3, (1, 3, 0, 0)), (4, (1, 4, 0, 0)), (5, (1, 5, 0, 0))], [(1, 6, 0, 0)], [(0, 0, false, 0, 0), (0, 2555, false, 1, 0), (1, 60, false, 2, 0), (0, 1, false, 3, 0), (-2147483648, 2147483647, false, 4, 0), (0, 59, false, 5, 0), (0, 1, false, 6, 0)], [], [])) dr_c7 rfl C (r := [0, 0, zN.toInt, zw.toInt, zh.toInt, zi.toInt, z7.toInt]) ⟨en_mk (by simp only [en_b, and_true]; omega) rfl, sb0, ⟨rfl, Or.inl ⟨rfl, a0, ha0, rfl⟩, rfl, int_dv (z := zN.toInt) rfl (by omega), rfl, int_dv (z := zw.toInt) rfl (by omega), rfl, int_dv (z := zh.toInt) rfl (by omega), rfl, int_dv (z := zi.toInt) rfl (by omega), trivial⟩, ⟨int_dv (z := z7.toInt) rfl (by omega), trivial⟩, hw7, k0, fun _ _ _ _ h => h, fun h => by cases h⟩ (fun x hx r8 lv8 st8 ws8 hx8 hb8 hl8 hs8 hlo8 hsk8 hw8 hV8 hf8 _ => ?_)
        have hx9 := List.mem_singleton.mp hx
        subst hx9
        dsimp only at hlo8 hsk8 ⊢
        obtain ⟨l80, rfl, p80⟩ := lo_ref ha0 hlo8
        obtain ⟨y81, l81, rfl, d81, p81⟩ := lo_int rfl p80
        obtain ⟨y82, l82, rfl, d82, p82⟩ := lo_int rfl p81
        obtain ⟨y83, l83, rfl, d83, p83⟩ := lo_int rfl p82
        obtain ⟨y84, l84, rfl, d84, p84⟩ := lo_int rfl p83
        cases lo_nil p84
        rw [vn_at hx8 (n := 2) (z := zN.toInt) rfl] at d81
        have e81 : zN = y81 := Int32.toInt_inj.mp (by omega)
        subst e81
        rw [vn_at hx8 (n := 3) (z := zw.toInt) rfl] at d82
        have e82 : zw = y82 := Int32.toInt_inj.mp (by omega)
        subst e82
        rw [vn_at hx8 (n := 4) (z := zh.toInt) rfl] at d83
        have e83 : zh = y83 := Int32.toInt_inj.mp (by omega)
        subst e83
        rw [vn_at hx8 (n := 5) (z := zi.toInt) rfl] at d84
        cases hsk8.nil
        have hf58 : ai_fr tb_WR7 ws0 ws8 := (((hfr.tr (wsub_ok (V := []) (by rfl) f05)).tr (wsub_ok (V := []) (by rfl) hf6)).tr (wsub_ok (V := pf_W) (by decide) hf7)).tr (wsub_ok (V := []) (by rfl) hf8)
        exact ih (drS E t) zh y84 ws8 (by omega) (by omega) (drS_g hn hgE htn) hR2 hw8 hf58 (((v7x.fr hf6 rfl).fr hf7 rfl).fr hf8 rfl) (by rw [← hev]; exact hc7.fr hf8 rfl)
    refine hsum (st := (86, [(0, (0, 0, 0, 0)), (2, (1, 2, 0, 0)), (3, (1, 3, 0, 0)), (4, (1, 4, 0, 0)), (5, (1, 5, 0, 0))], [(1, 0, 0, (t : Int))], [(0, 0, false, 0, 0), (0, 2555, false, 1, 0), (1, 60, false, 2, 0), (0, 1, false, 3, 0), (-2147483648, 2147483647, false, 4, 0), (0, 60, false, 5, 0), (1, 99, false, 6, 0), (0, 99, false, 7, 0), (0, 20, false, 8, 0), ((t : Int) + 1, 4, false, 9, 0)], [(9, t, (1, 6, 0, 0)), (10, t, (1, 7, 0, 0)), (7, 1, (1, 8, 0, 0)), (7, 0, (1, 9, 0, 0))], [(5, 6, 7, 6, 0)])) (List.all_eq_true.mp dr_ct t (List.mem_range.mpr (by omega))) rfl C (r := [0, 0, zN.toInt, zw.toInt, zh.toInt, zi.toInt, E (4 + t), E (8 + t), E 16, (n : Int)]) ⟨en_mk (by simp only [en_b, and_true]; omega) rfl, sbt, ⟨rfl, Or.inl ⟨rfl, a0, ha0, rfl⟩, rfl, int_dv (z := zN.toInt) rfl (by omega), rfl, int_dv (z := zw.toInt) rfl (by omega), rfl, int_dv (z := zh.toInt) rfl (by omega), rfl, int_dv (z := zi.toInt) rfl (by omega), trivial⟩, ⟨int_dv (z := 0) rfl (by omega), trivial⟩, hw5, kc (x2.kn (n := 6) (t := E (4 + t)) rfl (by omega)) (kc (x3.kn (n := 7) (t := E (8 + t)) rfl (by omega)) (kc (hcx.2.1.kn (n := 8) (t := E 16) rfl (by omega)) (kc (v7x.kn (n := 9) (t := (n : Int)) rfl (by omega)) (k0)))), fun _ _ _ _ h => h, fun h => by cases h⟩ (fun x hx r6 lv6 st6 ws6 hx6 hb6 hl6 hs6 hlo6 hsk6 hw6 hV6 hf6 _ => ?_)
    have m6 := nm_x hx6 (k := 6) rfl
    have m7 := nm_x hx6 (k := 7) rfl
    have m8 := nm_x hx6 (k := 8) rfl
    unfold dr_cT at hx
    rcases List.mem_cons.mp hx with rfl | hx
    · skip
      dsimp only at hlo6 hsk6 ⊢
      simp (config := { decide := true }) only [bnd_b, lin_b, lin_q, Nat.reduceAdd, Nat.zero_add, Nat.reduceEqDiff, reduceIte, and_true, Int.add_zero] at hb6 hl6
      obtain ⟨l60, rfl, p60⟩ := lo_ref ha0 hlo6
      obtain ⟨y61, l61, rfl, d61, p61⟩ := lo_int rfl p60
      obtain ⟨y62, l62, rfl, d62, p62⟩ := lo_int rfl p61
      obtain ⟨y63, l63, rfl, d63, p63⟩ := lo_int rfl p62
      obtain ⟨y64, l64, rfl, d64, p64⟩ := lo_int rfl p63
      cases lo_nil p64
      rw [vn_at hx6 (n := 2) (z := zN.toInt) rfl] at d61
      have e61 : zN = y61 := Int32.toInt_inj.mp (by omega)
      subst e61
      rw [vn_at hx6 (n := 3) (z := zw.toInt) rfl] at d62
      have e62 : zw = y62 := Int32.toInt_inj.mp (by omega)
      subst e62
      rw [vn_at hx6 (n := 4) (z := zh.toInt) rfl] at d63
      have e63 : zh = y63 := Int32.toInt_inj.mp (by omega)
      subst e63
      rw [vn_at hx6 (n := 5) (z := zi.toInt) rfl] at d64
      have e64 : zi = y64 := Int32.toInt_inj.mp (by omega)
      subst e64
      obtain ⟨x60, s60, rfl, c60, g60⟩ := hsk6.cons
      obtain ⟨x61, s61, rfl, c61, g61⟩ := g60.cons
      cases g61.nil
      obtain ⟨u60, rfl, w60⟩ := dvn c60 (hx6.at (k := 0) rfl)
      have f61 := ref_of ha7 c61
      subst f61
      have hcnd : ¬ (1 ≤ E 16 ∧ E (8 + t) < E (4 + t)) := by omega
      exact rest ws6 4 u60 (by omega) (Or.inl rfl) (by unfold drS; rw [if_neg hcnd]) hw6 hf6
    rcases List.mem_cons.mp hx with rfl | hx
    · skip
      dsimp only at hlo6 hsk6 ⊢
      simp (config := { decide := true }) only [bnd_b, lin_b, lin_q, Nat.reduceAdd, Nat.zero_add, Nat.reduceEqDiff, reduceIte, and_true, Int.add_zero] at hb6 hl6
      obtain ⟨l60, rfl, p60⟩ := lo_ref ha0 hlo6
      obtain ⟨y61, l61, rfl, d61, p61⟩ := lo_int rfl p60
      obtain ⟨y62, l62, rfl, d62, p62⟩ := lo_int rfl p61
      obtain ⟨y63, l63, rfl, d63, p63⟩ := lo_int rfl p62
      obtain ⟨y64, l64, rfl, d64, p64⟩ := lo_int rfl p63
      cases lo_nil p64
      rw [vn_at hx6 (n := 2) (z := zN.toInt) rfl] at d61
      have e61 : zN = y61 := Int32.toInt_inj.mp (by omega)
      subst e61
      rw [vn_at hx6 (n := 3) (z := zw.toInt) rfl] at d62
      have e62 : zw = y62 := Int32.toInt_inj.mp (by omega)
      subst e62
      rw [vn_at hx6 (n := 4) (z := zh.toInt) rfl] at d63
      have e63 : zh = y63 := Int32.toInt_inj.mp (by omega)
      subst e63
      rw [vn_at hx6 (n := 5) (z := zi.toInt) rfl] at d64
      have e64 : zi = y64 := Int32.toInt_inj.mp (by omega)
      subst e64
      obtain ⟨x60, s60, rfl, c60, g60⟩ := hsk6.cons
      obtain ⟨x61, s61, rfl, c61, g61⟩ := g60.cons
      cases g61.nil
      obtain ⟨u60, rfl, w60⟩ := dvn c60 (hx6.at (k := 0) rfl)
      have f61 := ref_of ha7 c61
      subst f61
      have hcnd : (1 ≤ E 16 ∧ E (8 + t) < E (4 + t)) := by omega
      exact rest ws6 (t : Int) u60 (by omega) (Or.inr ⟨by omega, by omega⟩) (by unfold drS; rw [if_pos hcnd]) hw6 hf6
    have hx0 := List.mem_singleton.mp hx
    subst hx0
    dsimp only at hlo6 hsk6 ⊢
    simp (config := { decide := true }) only [bnd_b, lin_b, lin_q, Nat.reduceAdd, Nat.zero_add, Nat.reduceEqDiff, reduceIte, and_true, Int.add_zero] at hb6 hl6
    obtain ⟨l60, rfl, p60⟩ := lo_ref ha0 hlo6
    obtain ⟨y61, l61, rfl, d61, p61⟩ := lo_int rfl p60
    obtain ⟨y62, l62, rfl, d62, p62⟩ := lo_int rfl p61
    obtain ⟨y63, l63, rfl, d63, p63⟩ := lo_int rfl p62
    obtain ⟨y64, l64, rfl, d64, p64⟩ := lo_int rfl p63
    cases lo_nil p64
    rw [vn_at hx6 (n := 2) (z := zN.toInt) rfl] at d61
    have e61 : zN = y61 := Int32.toInt_inj.mp (by omega)
    subst e61
    rw [vn_at hx6 (n := 3) (z := zw.toInt) rfl] at d62
    have e62 : zw = y62 := Int32.toInt_inj.mp (by omega)
    subst e62
    rw [vn_at hx6 (n := 4) (z := zh.toInt) rfl] at d63
    have e63 : zh = y63 := Int32.toInt_inj.mp (by omega)
    subst e63
    rw [vn_at hx6 (n := 5) (z := zi.toInt) rfl] at d64
    have e64 : zi = y64 := Int32.toInt_inj.mp (by omega)
    subst e64
    obtain ⟨x60, s60, rfl, c60, g60⟩ := hsk6.cons
    obtain ⟨x61, s61, rfl, c61, g61⟩ := g60.cons
    cases g61.nil
    obtain ⟨u60, rfl, w60⟩ := dvn c60 (hx6.at (k := 0) rfl)
    have f61 := ref_of ha7 c61
    subst f61
    have hcnd : ¬ (1 ≤ E 16 ∧ E (8 + t) < E (4 + t)) := by omega
    exact rest ws6 4 u60 (by omega) (Or.inl rfl) (by unfold drS; rw [if_neg hcnd]) hw6 hf6
theorem dr_cls {a0 a1 a7 n : Nat} {E : Nat → Int} {zg zN zw m : Int32} {ws : va_W} (C : ai_cx tb_m85 10 p R s m0 args c D tys A b L sx cells slots) (ha0 : ad[0]? = some a0) (ha1 : ad[1]? = some a1) (ha7 : ad[7]? = some a7) (hn : n ≤ 4) (hn1 : 1 ≤ n) (hg : good n E) (em : m.toInt = n) (hN : 1 ≤ zN.toInt ∧ zN.toInt ≤ 60) (hzw : 0 ≤ zw.toInt ∧ zw.toInt ≤ 1) (hw : ai_wd tb_TY ad tys ws) (hv0 : vi ws 1 0 n) (hc : cev ws 1 n E)
    (kk : ∀ (pcr : Nat) (ws' : va_W) (z : Int32) (lv' : List (Nat × Value)), pcr ∈ [149] → ai_wd tb_TY ad tys ws' → ai_fr tb_WR7 ws ws' → z.toInt = drR n E (drE m zN.toInt.toNat zg E) zw.toInt → hG tb_m85 p l e R s m0 args below meth c D A cells slots Q pcr lv' [.int z] ws') : hG tb_m85 p l e R s m0 args below meth c D A cells slots Q 0 [(0, .ref a0), (1, .int zg), (2, .int zN), (3, .int zw)] [] ws := by
  have bg := ai_irg zg
  refine hsum (st := (0, [(0, (0, 0, 0, 0)), (1, (1, 4, 0, 0)), (2, (1, 2, 0, 0)), (3, (1, 3, 0, 0))], [], [(0, 0, false, 0, 0), (0, 2555, false, 1, 0), (1, 60, false, 2, 0), (0, 1, false, 3, 0), (-2147483648, 2147483647, false, 4, 0), (1, 4, false, 5, 0)], [(1, 0, (1, 5, 0, 0))], [])) dr_c0 rfl C (r := [0, 0, zN.toInt, zw.toInt, zg.toInt, (n : Int)]) ⟨en_mk (by simp only [en_b, and_true]; omega) rfl, sb0, ⟨rfl, Or.inl ⟨rfl, a0, ha0, rfl⟩, rfl, int_dv (z := zg.toInt) rfl (by omega), rfl, int_dv (z := zN.toInt) rfl (by omega), rfl, int_dv (z := zw.toInt) rfl (by omega), trivial⟩, trivial, hw, kc (hv0.kn (n := 5) (t := (n : Int)) rfl (by omega)) (k0), fun _ _ _ _ h => h, fun h => by cases h⟩ (fun x hx r1 lv1 st1 ws1 hx1 hb1 hl1 hs1 hlo1 hsk1 hw1 hV1 hf1 _ => ?_)
  have hx9 := List.mem_singleton.mp hx
  subst hx9
  dsimp only at hlo1 hsk1 ⊢
  obtain ⟨l10, rfl, p10⟩ := lo_ref ha0 hlo1
  obtain ⟨y11, l11, rfl, d11, p11⟩ := lo_int rfl p10
  obtain ⟨y12, l12, rfl, d12, p12⟩ := lo_int rfl p11
  obtain ⟨y13, l13, rfl, d13, p13⟩ := lo_int rfl p12
  cases lo_nil p13
  rw [vn_at hx1 (n := 4) (z := zg.toInt) rfl] at d11
  have e11 : zg = y11 := Int32.toInt_inj.mp (by omega)
  subst e11
  rw [vn_at hx1 (n := 2) (z := zN.toInt) rfl] at d12
  have e12 : zN = y12 := Int32.toInt_inj.mp (by omega)
  subst e12
  rw [vn_at hx1 (n := 3) (z := zw.toInt) rfl] at d13
  have e13 : zw = y13 := Int32.toInt_inj.mp (by omega)
  subst e13
  obtain ⟨x10, s10, rfl, c10, g10⟩ := hsk1.cons
  obtain ⟨x11, s11, rfl, c11, g11⟩ := g10.cons
  cases g11.nil
  have f10 := ref_of ha1 c10
  subst f10
  have f11 := ref_of ha7 c11
  subst f11
  refine hcallV (q := (84, 0, 1, 1, 0)) (M' := tb_m1) (cl := 7) (a := a7) (As := [.ref a1]) (rest := []) (rets := [103]) (P := bc_P ad tys 1 7 ws1) C (by decide) (tv_m85.1.1.1 (43, .invokevirtual 84, 3) (List.mem_of_getElem? (i := 23) rfl)) (tv_m85.2 _ (List.mem_of_getElem? (i := 3) rfl)) rfl rfl rfl rfl (by decide) (Nat.le_of_ble_eq_true rfl) rfl rfl rfl rfl hw1 ha7 (Nat.le_of_ble_eq_true rfl) ?_ ?_ ?_
  · intro pcr hp
    simp only [List.mem_cons, List.not_mem_nil, or_false] at hp
    rcases hp with rfl
    · exact tv_m1.1.1.1 (103, .return_, 1) (List.mem_of_getElem? (i := 56) rfl)
  · intro p2 e2 R2 s2 m2 args2 below2 meth2 c2 Q2 C2 kk2
    exact bc_all bc_r1 bc_T1 (mm_cx (by decide) C2) hw1 ha7 ha1 (fun pcr w lv2 hp hP => kk2 pcr w lv2 hp hP)
  · intro ws2 hbc
    have f02 : ai_fr tb_WR7 ws ws2 := (wsub_ok (V := []) (by rfl) hf1).tr (wsub_ok (V := bc_W 7) (by decide) hbc.2.1)
    refine hsum (st := (46, [(0, (0, 0, 0, 0)), (1, (1, 4, 0, 0)), (2, (1, 2, 0, 0)), (3, (1, 3, 0, 0))], [], [(0, 0, false, 0, 0), (0, 2555, false, 1, 0), (1, 60, false, 2, 0), (0, 1, false, 3, 0), (-2147483648, 2147483647, false, 4, 0)], [], [])) dr_c9 rfl C (r := [0, 0, zN.toInt, zw.toInt, zg.toInt]) ⟨en_mk (by simp only [en_b, and_true]; omega) rfl, sb0, ⟨rfl, Or.inl ⟨rfl, a0, ha0, rfl⟩, rfl, int_dv (z := zg.toInt) rfl (by omega), rfl, int_dv (z := zN.toInt) rfl (by omega), rfl, int_dv (z := zw.toInt) rfl (by omega), trivial⟩, trivial, hbc.1, k0, fun _ _ _ _ h => h, fun h => by cases h⟩ (fun x hx r3 lv3 st3 ws3 hx3 hb3 hl3 hs3 hlo3 hsk3 hw3 hV3 hf3 _ => ?_)
    have hx9 := List.mem_singleton.mp hx
    subst hx9
    dsimp only at hlo3 hsk3 ⊢
    obtain ⟨l30, rfl, p30⟩ := lo_ref ha0 hlo3
    obtain ⟨y31, l31, rfl, d31, p31⟩ := lo_int rfl p30
    obtain ⟨y32, l32, rfl, d32, p32⟩ := lo_int rfl p31
    obtain ⟨y33, l33, rfl, d33, p33⟩ := lo_int rfl p32
    obtain ⟨y34, l34, rfl, d34, p34⟩ := lo_int rfl p33
    cases lo_nil p34
    rw [vn_at hx3 (n := 2) (z := zN.toInt) rfl] at d31
    have e31 : zN = y31 := Int32.toInt_inj.mp (by omega)
    subst e31
    rw [vn_at hx3 (n := 3) (z := zw.toInt) rfl] at d32
    have e32 : zw = y32 := Int32.toInt_inj.mp (by omega)
    subst e32
    rw [vn_at hx3 (n := 4) (z := zg.toInt) rfl] at d33
    have e33 : zg = y33 := Int32.toInt_inj.mp (by omega)
    subst e33
    rw [vn_at hx3 (n := 0) (z := 0) rfl] at d34
    cases hsk3.nil
    have hc3 : cev ws3 7 n E := (cev_bc hn hbc (hc.fr hf1 rfl)).fr hf3 rfl
    have n3 : vi ws3 7 0 n := (hbc.2.2.1 0 _ (by decide) (hv0.fr hf1 rfl)).fr hf3 rfl
    exact dr_cl (ws0 := ws) C ha0 ha1 ha7 hn hn1 hg em hN hzw hv0 hc kk zN.toInt.toNat E zg y34 ws3 (by omega) (by omega) hg rfl hw3 (f02.tr (wsub_ok (V := []) (by rfl) hf3)) n3 hc3
theorem dr_ml {ar n : Nat} {E0 : Nat → Int} {R0 : Nat → Int} {zN zw m : Int32} {ws0 : va_W} (C : ai_cx tb_m161 10 p R s m0 args c D tys A b L sx cells slots) (ha : ad[49]? = some ar) (hn : n ≤ 4) (hn1 : 1 ≤ n) (hg : good n E0) (em : m.toInt = n) (hN : 1 ≤ zN.toInt ∧ zN.toInt ≤ 60) (hzw : 0 ≤ zw.toInt ∧ zw.toInt ≤ 1) (hv0 : vi ws0 49 1 n) (hc0 : pev ws0 0 n E0)
    (kk : ∀ (pcr : Nat) (ws' : va_W) (z : Int32) (lv' : List (Nat × Value)), pcr ∈ [116] → ai_wd tb_TY ad tys ws' → ai_fr tb_WR7 ws0 ws' → z.toInt = drR n E0 R0 zw.toInt → hG tb_m161 p l e R s m0 args below meth c D A cells slots Q pcr lv' [.int z] ws') :
    ∀ (f : Nat) (E : Nat → Int) (zg zi : Int32) (ws : va_W), zi.toInt + f = zN.toInt → 0 ≤ zi.toInt → good n E → drE m f zg E = R0 → ai_wd tb_TY ad tys ws → ai_fr tb_WR7 ws0 ws → pev ws 108 n E → hG tb_m161 p l e R s m0 args below meth c D A cells slots Q 47 [(0, .ref ar), (2, .int zN), (3, .int zw), (4, .int zg), (5, .int zi)] [] ws := by
  have bE0 := hg.2.2
  have hm : 0 < m.toInt := by omega
  intro f
  induction f with
  | zero =>
    intro E zg zi ws hf hi hgE hR hw hfr hc
    have bE := hgE.2.2
    have bg := ai_irg zg
    have hR' : E = R0 := hR
    refine hildw (j := 5) (x := zi) C (tv_m161.1.1.1 (47, .iload 5, 2) (List.mem_of_getElem? (i := 27) rfl)) (List.mem_of_getElem? (i := 4) rfl) ?_
    have sbx : ai_sb ws [0, 0, zN.toInt, zw.toInt, zg.toInt, zi.toInt, E 17, E0 17] [(5, 5, 2, 5, 0)] := fun q hq => by
      rw [List.mem_singleton.mp hq]
      refine ⟨zi.toInt, zN.toInt, zi.toInt, rfl, rfl, rfl, fun h0 => ?_, fun h0 => ?_, fun h0 => ?_, fun h0 => ?_, fun h0 => ?_, fun h0 => ?_⟩
      all_goals dsimp only at h0 ⊢
      all_goals omega
    refine hsum (st := (49, [(0, (0, 49, 0, 0)), (2, (1, 2, 0, 0)), (3, (1, 3, 0, 0)), (4, (1, 4, 0, 0)), (5, (1, 5, 0, 0))], [(1, 5, 0, 0)], [(0, 0, false, 0, 0), (0, 2555, false, 1, 0), (1, 60, false, 2, 0), (0, 1, false, 3, 0), (-2147483648, 2147483647, false, 4, 0), (0, 60, false, 5, 0), (0, 999, false, 6, 0), (0, 999, false, 7, 0)], [(50, 125, (1, 6, 0, 0)), (50, 17, (1, 7, 0, 0))], [(5, 5, 2, 5, 0)])) dr_mx rfl C (r := [0, 0, zN.toInt, zw.toInt, zg.toInt, zi.toInt, E 17, E0 17]) ⟨en_mk (by simp only [en_b, and_true]; omega) rfl, sbx, ⟨rfl, Or.inl ⟨rfl, ar, ha, rfl⟩, rfl, int_dv (z := zN.toInt) rfl (by omega), rfl, int_dv (z := zw.toInt) rfl (by omega), rfl, int_dv (z := zg.toInt) rfl (by omega), rfl, int_dv (z := zi.toInt) rfl (by omega), trivial⟩, ⟨int_dv (z := zi.toInt) rfl (by omega), trivial⟩, hw, kc (hc.2.2.kn (n := 6) (t := E 17) rfl (by omega)) (kc ((hc0.2.2.fr hfr (dr_off (by decide))).kn (n := 7) (t := E0 17) rfl (by omega)) (k0)), fun _ _ _ _ h => h, fun h => by cases h⟩ (fun x hx r1 lv1 st1 ws1 hx1 hb1 hl1 hs1 hlo1 hsk1 hw1 hV1 hf1 _ => ?_)
    have m3 := nm_x hx1 (k := 3) rfl
    have m6 := nm_x hx1 (k := 6) rfl
    have m7 := nm_x hx1 (k := 7) rfl
    unfold dr_mX at hx
    rcases List.mem_cons.mp hx with rfl | hx
    · skip
      dsimp only at hsk1 ⊢
      simp (config := { decide := true }) only [bnd_b, lin_b, lin_q, Nat.reduceAdd, Nat.zero_add, Nat.reduceEqDiff, reduceIte, and_true, Int.add_zero] at hb1 hl1
      obtain ⟨z, rfl, hz9⟩ := sk1 rfl hsk1
      unfold vn at hz9
      dsimp only at hz9
      refine kk 116 ws1 z lv1 (by decide) hw1 (hfr.tr (wsub_ok (V := []) (by rfl) hf1)) ?_
      rw [← hR']
      unfold drR
      rw [if_neg (by omega)]
      omega
    have hx0 := List.mem_singleton.mp hx
    subst hx0
    dsimp only at hsk1 ⊢
    simp (config := { decide := true }) only [bnd_b, lin_b, lin_q, Nat.reduceAdd, Nat.zero_add, Nat.reduceEqDiff, reduceIte, and_true, Int.add_zero] at hb1 hl1
    obtain ⟨x10, s10, rfl, c10, g10⟩ := hsk1.cons
    obtain ⟨x11, s11, rfl, c11, g11⟩ := g10.cons
    cases g11.nil
    obtain ⟨u10, rfl, w10⟩ := dvn c10 (hx1.at (k := 0) rfl)
    have f11 := ref_of49 ha c11
    subst f11
    refine hcallI (q := (136, 0, 116, 1, 6)) (M' := tb_m116) (cl := 49) (a := ar) (As := [.int u10]) (rest := []) (rets := [38]) (P := fun w z => ai_wd tb_TY ad tys w ∧ ai_fr [] ws1 w ∧ z.toInt = ((wonF E n 5 0 0 : Nat) : Int)) C (by decide) (tv_m161.1.1.1 (106, .invokevirtual 136, 3) (List.mem_of_getElem? (i := 57) rfl)) (tv_m161.2 _ (List.mem_of_getElem? (i := 12) rfl)) rfl rfl rfl rfl (by decide) (Nat.le_of_ble_eq_true rfl) rfl rfl rfl rfl hw1 ha (Nat.le_of_ble_eq_true rfl) ?_ ?_ ?_
    · intro pcr hp
      simp only [List.mem_cons, List.not_mem_nil, or_false] at hp
      rcases hp with rfl
      · exact tv_m116.1.1.1 (38, .ireturn, 1) (List.mem_of_getElem? (i := 24) rfl)
    · intro p2 e2 R2 s2 m2 args2 below2 meth2 c2 Q2 C2 kk2
      exact wo_all (mm_cx (by decide) C2) (Or.inr rfl) ha (by omega) hn hgE hw1 ⟨(hv0.fr hfr rfl).fr hf1 rfl, hc.fr hn hf1 (fun _ _ => rfl)⟩ (fun w z lv2 h1 h2 h3 => kk2 38 w z lv2 (by decide) ⟨h1, h2, h3⟩)
    · intro ws2 z2 hP2
      have bz2 := ai_irg z2
      refine hG_sub (lv2 := []) (fun q hq => by cases hq) ?_
      refine hsum (st := (109, [], [(1, 2, 0, 0)], [(0, 0, false, 0, 0), (0, 2555, false, 1, 0), (-2147483648, 2147483647, false, 2, 0)], [], [])) dr_me rfl C (r := [0, 0, z2.toInt]) ⟨en_mk (by simp only [en_b, and_true]; omega) rfl, sb0, trivial, ⟨int_dv (z := z2.toInt) rfl (by omega), trivial⟩, hP2.1, k0, fun _ _ _ _ h => h, fun h => by cases h⟩ (fun x hx r3 lv3 st3 ws3 hx3 hb3 hl3 hs3 hlo3 hsk3 hw3 hv3 hf3 _ => ?_)
      have hx9 := List.mem_singleton.mp hx
      subst hx9
      obtain ⟨z, rfl, hz9⟩ := sk1 rfl hsk3
      rw [vn_at hx3 (n := 2) (z := z2.toInt) rfl] at hz9
      refine kk 116 ws3 z lv3 (by decide) hw3 (((hfr.tr (wsub_ok (V := []) (by rfl) hf1)).tr (wsub_ok (V := []) (by rfl) hP2.2.1)).tr (wsub_ok (V := []) (by rfl) hf3)) ?_
      rw [← hR']
      unfold drR
      rw [if_pos (by omega), ← hP2.2.2]
      omega
  | succ f ih =>
    intro E zg zi ws hf hi hgE hR hw hfr hc
    have bg := ai_irg zg
    obtain ⟨b5, b6⟩ := hgE.2
    refine hildw (j := 5) (x := zi) C (tv_m161.1.1.1 (47, .iload 5, 2) (List.mem_of_getElem? (i := 27) rfl)) (List.mem_of_getElem? (i := 4) rfl) ?_
    have sbx : ai_sb ws [0, 0, zN.toInt, zw.toInt, zg.toInt, zi.toInt] [(4, 5, 2, 5, 0)] := fun q hq => by
      rw [List.mem_singleton.mp hq]
      refine ⟨zi.toInt, zN.toInt, zi.toInt, rfl, rfl, rfl, fun h0 => ?_, fun h0 => ?_, fun h0 => ?_, fun h0 => ?_, fun h0 => ?_, fun h0 => ?_⟩
      all_goals dsimp only at h0 ⊢
      all_goals omega
    refine hsum (st := (49, [(0, (0, 49, 0, 0)), (2, (1, 2, 0, 0)), (3, (1, 3, 0, 0)), (4, (1, 4, 0, 0)), (5, (1, 5, 0, 0))], [(1, 5, 0, 0)], [(0, 0, false, 0, 0), (0, 2555, false, 1, 0), (1, 60, false, 2, 0), (0, 1, false, 3, 0), (-2147483648, 2147483647, false, 4, 0), (0, 59, false, 5, 0)], [], [(4, 5, 2, 5, 0)])) dr_m1 rfl C (r := [0, 0, zN.toInt, zw.toInt, zg.toInt, zi.toInt]) ⟨en_mk (by simp only [en_b, and_true]; omega) rfl, sbx, ⟨rfl, Or.inl ⟨rfl, ar, ha, rfl⟩, rfl, int_dv (z := zN.toInt) rfl (by omega), rfl, int_dv (z := zw.toInt) rfl (by omega), rfl, int_dv (z := zg.toInt) rfl (by omega), rfl, int_dv (z := zi.toInt) rfl (by omega), trivial⟩, ⟨int_dv (z := zi.toInt) rfl (by omega), trivial⟩, hw, k0, fun _ _ _ _ h => h, fun h => by cases h⟩ (fun x hx r1 lv1 st1 ws1 hx1 hb1 hl1 hs1 hlo1 hsk1 hw1 hV1 hf1 _ => ?_)
    have hx9 := List.mem_singleton.mp hx
    subst hx9
    dsimp only at hlo1 hsk1 ⊢
    obtain ⟨l10, rfl, p10⟩ := lo_ref ha hlo1
    obtain ⟨y11, l11, rfl, d11, p11⟩ := lo_int rfl p10
    obtain ⟨y12, l12, rfl, d12, p12⟩ := lo_int rfl p11
    obtain ⟨y13, l13, rfl, d13, p13⟩ := lo_int rfl p12
    obtain ⟨y14, l14, rfl, d14, p14⟩ := lo_int rfl p13
    cases lo_nil p14
    rw [vn_at hx1 (n := 2) (z := zN.toInt) rfl] at d11
    have e11 : zN = y11 := Int32.toInt_inj.mp (by omega)
    subst e11
    rw [vn_at hx1 (n := 3) (z := zw.toInt) rfl] at d12
    have e12 : zw = y12 := Int32.toInt_inj.mp (by omega)
    subst e12
    rw [vn_at hx1 (n := 4) (z := zg.toInt) rfl] at d13
    have e13 : zg = y13 := Int32.toInt_inj.mp (by omega)
    subst e13
    rw [vn_at hx1 (n := 5) (z := zi.toInt) rfl] at d14
    have e14 : zi = y14 := Int32.toInt_inj.mp (by omega)
    subst e14
    obtain ⟨x10, s10, rfl, c10, g10⟩ := hsk1.cons
    obtain ⟨x11, s11, rfl, c11, g11⟩ := g10.cons
    cases g11.nil
    obtain ⟨u10, rfl, w10⟩ := dvn c10 (hx1.at (k := 0) rfl)
    obtain ⟨u11, rfl, w11⟩ := dvn c11 (hx1.at (k := 4) rfl)
    have k1 : u10 = 1103515245 := Int32.toInt_inj.mp (by rw [show u10.toInt = 1103515245 by omega]; decide)
    have k2 : u11 = zg := Int32.toInt_inj.mp (by omega)
    rw [k1, k2]
    refine hdmul C (tv_m161.1.1.1 (57, .imul, 1) (List.mem_of_getElem? (i := 32) rfl)) ?_
    have by1 := ai_irg (zg * 1103515245)
    generalize hzy : zg * 1103515245 = zy at by1 ⊢
    refine hsum (st := (58, [(0, (0, 49, 0, 0)), (2, (1, 2, 0, 0)), (3, (1, 3, 0, 0)), (4, (1, 4, 0, 0)), (5, (1, 5, 0, 0))], [(1, 6, 0, 0)], [(0, 0, false, 0, 0), (0, 2555, false, 1, 0), (1, 60, false, 2, 0), (0, 1, false, 3, 0), (-2147483648, 2147483647, false, 4, 0), (0, 60, false, 5, 0), (-2147483648, 2147483647, false, 6, 0)], [], [])) dr_m2 rfl C (r := [0, 0, zN.toInt, zw.toInt, zg.toInt, zi.toInt, zy.toInt]) ⟨en_mk (by simp only [en_b, and_true]; omega) rfl, sb0, ⟨rfl, Or.inl ⟨rfl, ar, ha, rfl⟩, rfl, int_dv (z := zN.toInt) rfl (by omega), rfl, int_dv (z := zw.toInt) rfl (by omega), rfl, int_dv (z := zg.toInt) rfl (by omega), rfl, int_dv (z := zi.toInt) rfl (by omega), trivial⟩, ⟨int_dv (z := zy.toInt) rfl (by omega), trivial⟩, hw1, k0, fun _ _ _ _ h => h, fun h => by cases h⟩ (fun x hx r2 lv2 st2 ws2 hx2 hb2 hl2 hs2 hlo2 hsk2 hw2 hV2 hf2 _ => ?_)
    have hx9 := List.mem_singleton.mp hx
    subst hx9
    dsimp only at hlo2 hsk2 ⊢
    obtain ⟨l20, rfl, p20⟩ := lo_ref ha hlo2
    obtain ⟨y21, l21, rfl, d21, p21⟩ := lo_int rfl p20
    obtain ⟨y22, l22, rfl, d22, p22⟩ := lo_int rfl p21
    obtain ⟨y23, l23, rfl, d23, p23⟩ := lo_int rfl p22
    obtain ⟨y24, l24, rfl, d24, p24⟩ := lo_int rfl p23
    cases lo_nil p24
    rw [vn_at hx2 (n := 2) (z := zN.toInt) rfl] at d21
    have e21 : zN = y21 := Int32.toInt_inj.mp (by omega)
    subst e21
    rw [vn_at hx2 (n := 3) (z := zw.toInt) rfl] at d22
    have e22 : zw = y22 := Int32.toInt_inj.mp (by omega)
    subst e22
    rw [vn_at hx2 (n := 4) (z := zg.toInt) rfl] at d23
    have e23 : zg = y23 := Int32.toInt_inj.mp (by omega)
    subst e23
    rw [vn_at hx2 (n := 5) (z := zi.toInt) rfl] at d24
    have e24 : zi = y24 := Int32.toInt_inj.mp (by omega)
    subst e24
    obtain ⟨x20, s20, rfl, c20, g20⟩ := hsk2.cons
    obtain ⟨x21, s21, rfl, c21, g21⟩ := g20.cons
    cases g21.nil
    obtain ⟨u20, rfl, w20⟩ := dvn c20 (hx2.at (k := 0) rfl)
    obtain ⟨u21, rfl, w21⟩ := dvn c21 (hx2.at (k := 6) rfl)
    have k3 : u20 = 12345 := Int32.toInt_inj.mp (by rw [show u20.toInt = 12345 by omega]; decide)
    have k4 : u21 = zy := Int32.toInt_inj.mp (by omega)
    rw [k3, k4]
    refine hdadd C (tv_m161.1.1.1 (61, .iadd, 1) (List.mem_of_getElem? (i := 34) rfl)) ?_
    have bg2 := ai_irg (zy + 12345)
    generalize hgh : zy + 12345 = zh at bg2 ⊢
    have hgg : dr_g zg = zh := by
      rw [← hgh, ← hzy]
      rfl
    refine hsum (st := (62, [(0, (0, 49, 0, 0)), (2, (1, 2, 0, 0)), (3, (1, 3, 0, 0)), (4, (1, 4, 0, 0)), (5, (1, 5, 0, 0))], [(1, 6, 0, 0)], [(0, 0, false, 0, 0), (0, 2555, false, 1, 0), (1, 60, false, 2, 0), (0, 1, false, 3, 0), (-2147483648, 2147483647, false, 4, 0), (0, 60, false, 5, 0), (-2147483648, 2147483647, false, 6, 0)], [], [])) dr_m3 rfl C (r := [0, 0, zN.toInt, zw.toInt, zg.toInt, zi.toInt, zh.toInt]) ⟨en_mk (by simp only [en_b, and_true]; omega) rfl, sb0, ⟨rfl, Or.inl ⟨rfl, ar, ha, rfl⟩, rfl, int_dv (z := zN.toInt) rfl (by omega), rfl, int_dv (z := zw.toInt) rfl (by omega), rfl, int_dv (z := zg.toInt) rfl (by omega), rfl, int_dv (z := zi.toInt) rfl (by omega), trivial⟩, ⟨int_dv (z := zh.toInt) rfl (by omega), trivial⟩, hw2, k0, fun _ _ _ _ h => h, fun h => by cases h⟩ (fun x hx r3 lv3 st3 ws3 hx3 hb3 hl3 hs3 hlo3 hsk3 hw3 hV3 hf3 _ => ?_)
    have hx9 := List.mem_singleton.mp hx
    subst hx9
    dsimp only at hlo3 hsk3 ⊢
    obtain ⟨l30, rfl, p30⟩ := lo_ref ha hlo3
    obtain ⟨y31, l31, rfl, d31, p31⟩ := lo_int rfl p30
    obtain ⟨y32, l32, rfl, d32, p32⟩ := lo_int rfl p31
    obtain ⟨y33, l33, rfl, d33, p33⟩ := lo_int rfl p32
    obtain ⟨y34, l34, rfl, d34, p34⟩ := lo_int rfl p33
    cases lo_nil p34
    rw [vn_at hx3 (n := 2) (z := zN.toInt) rfl] at d31
    have e31 : zN = y31 := Int32.toInt_inj.mp (by omega)
    subst e31
    rw [vn_at hx3 (n := 3) (z := zw.toInt) rfl] at d32
    have e32 : zw = y32 := Int32.toInt_inj.mp (by omega)
    subst e32
    rw [vn_at hx3 (n := 6) (z := zh.toInt) rfl] at d33
    rw [vn_at hx3 (n := 5) (z := zi.toInt) rfl] at d34
    have e34 : zi = y34 := Int32.toInt_inj.mp (by omega)
    subst e34
    obtain ⟨x30, s30, rfl, c30, g30⟩ := hsk3.cons
    obtain ⟨x31, s31, rfl, c31, g31⟩ := g30.cons
    obtain ⟨x32, s32, rfl, c32, g32⟩ := g31.cons
    obtain ⟨x33, s33, rfl, c33, g33⟩ := g32.cons
    cases g33.nil
    obtain ⟨u30, rfl, w30⟩ := dvn c30 (hx3.at (k := 0) rfl)
    obtain ⟨u31, rfl, w31⟩ := dvn c31 (hx3.at (k := 6) rfl)
    obtain ⟨u32, rfl, w32⟩ := dvn c32 (hx3.at (k := 0) rfl)
    have f33 := ref_of49 ha c33
    subst f33
    have k5 : u30 = 16 := Int32.toInt_inj.mp (by rw [show u30.toInt = 16 by omega]; decide)
    have k6 : u31 = zh := Int32.toInt_inj.mp (by omega)
    have k7 : y33 = zh := Int32.toInt_inj.mp (by omega)
    rw [k5, k6, k7]
    refine hdshr C (tv_m161.1.1.1 (71, .ishr, 1) (List.mem_of_getElem? (i := 40) rfl)) ?_
    have by2 := ai_irg (zh >>> ((16 : Int32) &&& 31))
    generalize hsh : zh >>> ((16 : Int32) &&& 31) = zs at by2 ⊢
    have k8 : u32.toInt = 108 := by omega
    refine hsum (st := (72, [(0, (0, 49, 0, 0)), (2, (1, 2, 0, 0)), (3, (1, 3, 0, 0)), (4, (1, 4, 0, 0)), (5, (1, 5, 0, 0))], [(1, 6, 0, 0), (1, 0, 0, 108), (0, 49, 0, 0)], [(0, 0, false, 0, 0), (0, 2555, false, 1, 0), (1, 60, false, 2, 0), (0, 1, false, 3, 0), (-2147483648, 2147483647, false, 4, 0), (0, 60, false, 5, 0), (-2147483648, 2147483647, false, 6, 0)], [], [])) dr_m4 rfl C (r := [0, 0, zN.toInt, zw.toInt, zh.toInt, zi.toInt, zs.toInt]) ⟨en_mk (by simp only [en_b, and_true]; omega) rfl, sb0, ⟨rfl, Or.inl ⟨rfl, ar, ha, rfl⟩, rfl, int_dv (z := zN.toInt) rfl (by omega), rfl, int_dv (z := zw.toInt) rfl (by omega), rfl, int_dv (z := zh.toInt) rfl (by omega), rfl, int_dv (z := zi.toInt) rfl (by omega), trivial⟩, ⟨int_dv (z := zs.toInt) rfl (by omega), int_dv (z := 0) rfl (by omega), Or.inl ⟨rfl, ar, ha, rfl⟩, trivial⟩, hw3, k0, fun _ _ _ _ h => h, fun h => by cases h⟩ (fun x hx r4 lv4 st4 ws4 hx4 hb4 hl4 hs4 hlo4 hsk4 hw4 hV4 hf4 _ => ?_)
    have hx9 := List.mem_singleton.mp hx
    subst hx9
    dsimp only at hlo4 hsk4 ⊢
    obtain ⟨l40, rfl, p40⟩ := lo_ref ha hlo4
    obtain ⟨y41, l41, rfl, d41, p41⟩ := lo_int rfl p40
    obtain ⟨y42, l42, rfl, d42, p42⟩ := lo_int rfl p41
    obtain ⟨y43, l43, rfl, d43, p43⟩ := lo_int rfl p42
    obtain ⟨y44, l44, rfl, d44, p44⟩ := lo_int rfl p43
    cases lo_nil p44
    rw [vn_at hx4 (n := 2) (z := zN.toInt) rfl] at d41
    have e41 : zN = y41 := Int32.toInt_inj.mp (by omega)
    subst e41
    rw [vn_at hx4 (n := 3) (z := zw.toInt) rfl] at d42
    have e42 : zw = y42 := Int32.toInt_inj.mp (by omega)
    subst e42
    rw [vn_at hx4 (n := 4) (z := zh.toInt) rfl] at d43
    have e43 : zh = y43 := Int32.toInt_inj.mp (by omega)
    subst e43
    rw [vn_at hx4 (n := 5) (z := zi.toInt) rfl] at d44
    have e44 : zi = y44 := Int32.toInt_inj.mp (by omega)
    subst e44
    obtain ⟨x40, s40, rfl, c40, g40⟩ := hsk4.cons
    obtain ⟨x41, s41, rfl, c41, g41⟩ := g40.cons
    obtain ⟨x42, s42, rfl, c42, g42⟩ := g41.cons
    obtain ⟨x43, s43, rfl, c43, g43⟩ := g42.cons
    cases g43.nil
    obtain ⟨u40, rfl, w40⟩ := dvn c40 (hx4.at (k := 0) rfl)
    obtain ⟨u41, rfl, w41⟩ := dvn c41 (hx4.at (k := 6) rfl)
    obtain ⟨u42, rfl, w42⟩ := dvn c42 (hx4.at (k := 0) rfl)
    have f43 := ref_of49 ha c43
    subst f43
    have k9 : u40 = 32767 := Int32.toInt_inj.mp (by rw [show u40.toInt = 32767 by omega]; decide)
    have k10 : u41 = zs := Int32.toInt_inj.mp (by omega)
    rw [k9, k10]
    refine hdand C (tv_m161.1.1.1 (75, .iand, 1) (List.mem_of_getElem? (i := 42) rfl)) ?_
    have hdx : zs &&& 32767 = dr_x zh := by
      rw [← hsh]
      exact rfl
    rw [hdx]
    have by3 := ai_irg (dr_x zh)
    have k11 : u42.toInt = 108 := by omega
    refine hsum (st := (76, [(0, (0, 49, 0, 0)), (2, (1, 2, 0, 0)), (3, (1, 3, 0, 0)), (4, (1, 4, 0, 0)), (5, (1, 5, 0, 0))], [(1, 6, 0, 0), (1, 0, 0, 108), (0, 49, 0, 0)], [(0, 0, false, 0, 0), (0, 2555, false, 1, 0), (1, 60, false, 2, 0), (0, 1, false, 3, 0), (-2147483648, 2147483647, false, 4, 0), (0, 60, false, 5, 0), (-2147483648, 2147483647, false, 6, 0), (1, 4, false, 7, 0)], [(49, 1, (1, 7, 0, 0))], [])) dr_m5 rfl C (r := [0, 0, zN.toInt, zw.toInt, zh.toInt, zi.toInt, (dr_x zh).toInt, (n : Int)]) ⟨en_mk (by simp only [en_b, and_true]; omega) rfl, sb0, ⟨rfl, Or.inl ⟨rfl, ar, ha, rfl⟩, rfl, int_dv (z := zN.toInt) rfl (by omega), rfl, int_dv (z := zw.toInt) rfl (by omega), rfl, int_dv (z := zh.toInt) rfl (by omega), rfl, int_dv (z := zi.toInt) rfl (by omega), trivial⟩, ⟨int_dv (z := (dr_x zh).toInt) rfl (by omega), int_dv (z := 0) rfl (by omega), Or.inl ⟨rfl, ar, ha, rfl⟩, trivial⟩, hw4, kc ((((((hv0.fr hfr rfl).fr hf1 rfl).fr hf2 rfl).fr hf3 rfl).fr hf4 rfl).kn (n := 7) (t := (n : Int)) rfl (by omega)) (k0), fun _ _ _ _ h => h, fun h => by cases h⟩ (fun x hx r5 lv5 st5 ws5 hx5 hb5 hl5 hs5 hlo5 hsk5 hw5 hV5 hf5 _ => ?_)
    have hx9 := List.mem_singleton.mp hx
    subst hx9
    dsimp only at hlo5 hsk5 ⊢
    obtain ⟨l50, rfl, p50⟩ := lo_ref ha hlo5
    obtain ⟨y51, l51, rfl, d51, p51⟩ := lo_int rfl p50
    obtain ⟨y52, l52, rfl, d52, p52⟩ := lo_int rfl p51
    obtain ⟨y53, l53, rfl, d53, p53⟩ := lo_int rfl p52
    obtain ⟨y54, l54, rfl, d54, p54⟩ := lo_int rfl p53
    cases lo_nil p54
    rw [vn_at hx5 (n := 2) (z := zN.toInt) rfl] at d51
    have e51 : zN = y51 := Int32.toInt_inj.mp (by omega)
    subst e51
    rw [vn_at hx5 (n := 3) (z := zw.toInt) rfl] at d52
    have e52 : zw = y52 := Int32.toInt_inj.mp (by omega)
    subst e52
    rw [vn_at hx5 (n := 4) (z := zh.toInt) rfl] at d53
    have e53 : zh = y53 := Int32.toInt_inj.mp (by omega)
    subst e53
    rw [vn_at hx5 (n := 5) (z := zi.toInt) rfl] at d54
    have e54 : zi = y54 := Int32.toInt_inj.mp (by omega)
    subst e54
    obtain ⟨x50, s50, rfl, c50, g50⟩ := hsk5.cons
    obtain ⟨x51, s51, rfl, c51, g51⟩ := g50.cons
    obtain ⟨x52, s52, rfl, c52, g52⟩ := g51.cons
    obtain ⟨x53, s53, rfl, c53, g53⟩ := g52.cons
    cases g53.nil
    obtain ⟨u50, rfl, w50⟩ := dvn c50 (hx5.at (k := 7) rfl)
    obtain ⟨u51, rfl, w51⟩ := dvn c51 (hx5.at (k := 6) rfl)
    obtain ⟨u52, rfl, w52⟩ := dvn c52 (hx5.at (k := 0) rfl)
    have f53 := ref_of49 ha c53
    subst f53
    have k12 : u50 = m := Int32.toInt_inj.mp (by omega)
    have k13 : u51 = dr_x zh := Int32.toInt_inj.mp (by omega)
    rw [k12, k13]
    refine hdrem C (tv_m161.1.1.1 (80, .irem, 1) (List.mem_of_getElem? (i := 45) rfl)) (fun q => by rw [q] at hm; exact absurd hm (by decide)) ?_
    show hG tb_m161 p l e R s m0 args below meth c D A cells slots Q 81 [(0, .ref ar), (2, .int zN), (3, .int zw), (4, .int zh), (5, .int zi)] ([.int (dr_t zh m)] ++ [.int u52, .ref ar]) ws5
    obtain ⟨t1, t2⟩ := dr_tb zh m hm
    obtain ⟨t, ht⟩ : ∃ t : Nat, (dr_t zh m).toInt = (t : Int) := ⟨(dr_t zh m).toInt.toNat, by omega⟩
    have htn : t < n := by omega
    have hR2 : drE m f zh (drS E t) = R0 := by
      rw [← hR]
      show _ = drE m f (dr_g zg) (drS E (dr_t (dr_g zg) m).toInt.toNat)
      rw [hgg, ht]
      rfl
    generalize dr_t zh m = zt at ht t1 t2 ⊢
    have f05 : ai_fr [] ws ws5 := (((hf1.tr hf2).tr hf3).tr hf4).tr hf5
    obtain ⟨b1, b2, b3, b4⟩ := hgE.1 t htn
    have hcx : pev ws5 108 n E := hc.fr hn f05 (fun _ _ => rfl)
    have n5 : vi ws5 49 1 n := (hv0.fr hfr rfl).fr f05 rfl
    have k14 : u52.toInt = 108 := by omega
    refine hcallZ (q := (181, 0, 130, 2, 6)) (M' := tb_m130) (cl := 49) (a := ar) (As := [.int u52, .int zt]) (rest := []) (rets := [11, 22, 32]) (P := ma_P ad tys n E (t : Int) ws5) C (by decide) (tv_m161.1.1.1 (81, .invokevirtual 181, 3) (List.mem_of_getElem? (i := 46) rfl)) (tv_m161.2 _ (List.mem_of_getElem? (i := 22) rfl)) rfl rfl rfl rfl (by decide) (Nat.le_of_ble_eq_true rfl) rfl rfl rfl rfl hw5 ha (Nat.le_of_ble_eq_true rfl) ?_ ?_ ?_ ?_
    · intro pcr hp
      simp only [List.mem_cons, List.not_mem_nil, or_false] at hp
      rcases hp with rfl | rfl | rfl
      · exact tv_m130.1.1.1 (11, .ireturn, 1) (List.mem_of_getElem? (i := 7) rfl)
      · exact tv_m130.1.1.1 (22, .ireturn, 1) (List.mem_of_getElem? (i := 14) rfl)
      · exact tv_m130.1.1.1 (32, .ireturn, 1) (List.mem_of_getElem? (i := 22) rfl)
    · intro w z hPz
      have h := hPz.2.2.2
      by_cases hcb : canB E (t : Int) = true
      · rw [if_pos hcb] at h
        exact Or.inr (i11 h)
      · rw [if_neg hcb] at h
        exact Or.inl (i01 h)
    · intro p2 e2 R2 s2 m2 args2 below2 meth2 c2 Q2 C2 kk2
      exact ma_all (mm_cx (by decide) C2) ha hn hgE (Or.inr ⟨by omega, by omega⟩) (by omega) (by omega) hw5 n5 hcx kk2
    · intro ws6 z6 hP6
      obtain ⟨hw6, hf6, hc6, hz6⟩ := hP6
      have hcan : canB E (t : Int) = (decide (1 ≤ E 16) && decide (E (8 + t) < E (4 + t))) := by
        unfold canB
        rw [decide_eq_false (show ¬ (t : Int) = 4 by omega), show ((t : Int)).toNat = t by omega]
        rfl
      have f06 : ai_fr tb_WR7 ws0 ws6 := (hfr.tr (wsub_ok (V := []) (by rfl) f05)).tr (wsub_ok (V := ma_W) (by decide) hf6)
      by_cases hcnd : 1 ≤ E 16 ∧ E (8 + t) < E (4 + t)
      · rw [hcan, decide_eq_true hcnd.1, decide_eq_true hcnd.2] at hz6
        replace hz6 := hz6.trans (if_pos rfl)
        have hev : evA E (t : Int) = drS E t := by
          unfold drS
          rw [if_pos hcnd]
        refine hsum (st := (84, [(0, (0, 49, 0, 0)), (2, (1, 2, 0, 0)), (3, (1, 3, 0, 0)), (4, (1, 4, 0, 0)), (5, (1, 5, 0, 0))], [(1, 0, 0, 1)], [(0, 0, false, 0, 0), (0, 2555, false, 1, 0), (1, 60, false, 2, 0), (0, 1, false, 3, 0), (-2147483648, 2147483647, false, 4, 0), (0, 59, false, 5, 0)], [], [])) dr_m7 rfl C (r := [0, 0, zN.toInt, zw.toInt, zh.toInt, zi.toInt]) ⟨en_mk (by simp only [en_b, and_true]; omega) rfl, sb0, ⟨rfl, Or.inl ⟨rfl, ar, ha, rfl⟩, rfl, int_dv (z := zN.toInt) rfl (by omega), rfl, int_dv (z := zw.toInt) rfl (by omega), rfl, int_dv (z := zh.toInt) rfl (by omega), rfl, int_dv (z := zi.toInt) rfl (by omega), trivial⟩, ⟨int_dv (z := 0) rfl (by omega), trivial⟩, hw6, k0, fun _ _ _ _ h => h, fun h => by cases h⟩ (fun x hx r8 lv8 st8 ws8 hx8 hb8 hl8 hs8 hlo8 hsk8 hw8 hV8 hf8 _ => ?_)
        have hx9 := List.mem_singleton.mp hx
        subst hx9
        dsimp only at hlo8 hsk8 ⊢
        obtain ⟨l80, rfl, p80⟩ := lo_ref ha hlo8
        obtain ⟨y81, l81, rfl, d81, p81⟩ := lo_int rfl p80
        obtain ⟨y82, l82, rfl, d82, p82⟩ := lo_int rfl p81
        obtain ⟨y83, l83, rfl, d83, p83⟩ := lo_int rfl p82
        obtain ⟨y84, l84, rfl, d84, p84⟩ := lo_int rfl p83
        cases lo_nil p84
        rw [vn_at hx8 (n := 2) (z := zN.toInt) rfl] at d81
        have e81 : zN = y81 := Int32.toInt_inj.mp (by omega)
        subst e81
        rw [vn_at hx8 (n := 3) (z := zw.toInt) rfl] at d82
        have e82 : zw = y82 := Int32.toInt_inj.mp (by omega)
        subst e82
        rw [vn_at hx8 (n := 4) (z := zh.toInt) rfl] at d83
        have e83 : zh = y83 := Int32.toInt_inj.mp (by omega)
        subst e83
        rw [vn_at hx8 (n := 5) (z := zi.toInt) rfl] at d84
        cases hsk8.nil
        exact ih (drS E t) zh y84 ws8 (by omega) (by omega) (drS_g hn hgE htn) hR2 hw8 (f06.tr (wsub_ok (V := []) (by rfl) hf8)) (by rw [← hev]; exact hc6.fr hn hf8 (fun _ _ => rfl))
      · have hno : canB E (t : Int) = false := by
          rw [hcan]
          by_cases h1 : 1 ≤ E 16
          · rw [decide_eq_true h1, decide_eq_false (fun h2 => hcnd ⟨h1, h2⟩)]
            rfl
          · rw [decide_eq_false h1]
            rfl
        rw [hno, if_neg (by decide)] at hz6
        have hE : evA E (t : Int) = E := by
          unfold evA
          rw [if_neg (show ¬ (t : Int) = 4 by omega), show ((t : Int)).toNat = t by omega]
          unfold ev_pl
          rw [if_neg hcnd]
        have hev : ev_up E 16 (min 20 (E 16 + 2)) = drS E t := by
          unfold drS
          rw [if_neg hcnd]
          unfold evA
          rw [if_pos rfl]
          rfl
        rw [hE] at hc6
        refine hsum (st := (84, [(0, (0, 49, 0, 0)), (2, (1, 2, 0, 0)), (3, (1, 3, 0, 0)), (4, (1, 4, 0, 0)), (5, (1, 5, 0, 0))], [(1, 0, 0, 0)], [(0, 0, false, 0, 0), (0, 2555, false, 1, 0), (1, 60, false, 2, 0), (0, 1, false, 3, 0), (-2147483648, 2147483647, false, 4, 0), (0, 59, false, 5, 0), (0, 20, false, 6, 0)], [(50, 124, (1, 6, 0, -10))], [])) dr_m8 rfl C (r := [0, 0, zN.toInt, zw.toInt, zh.toInt, zi.toInt, E 16]) ⟨en_mk (by simp only [en_b, and_true]; omega) rfl, sb0, ⟨rfl, Or.inl ⟨rfl, ar, ha, rfl⟩, rfl, int_dv (z := zN.toInt) rfl (by omega), rfl, int_dv (z := zw.toInt) rfl (by omega), rfl, int_dv (z := zh.toInt) rfl (by omega), rfl, int_dv (z := zi.toInt) rfl (by omega), trivial⟩, ⟨int_dv (z := 0) rfl (by omega), trivial⟩, hw6, kc (hc6.2.1.kn (n := 6) (t := E 16) rfl (by omega)) (k0), fun _ _ _ _ h => h, fun h => by cases h⟩ (fun x hx r8 lv8 st8 ws8 hx8 hb8 hl8 hs8 hlo8 hsk8 hw8 hV8 hf8 _ => ?_)
        have m0 := nm_x hx8 (k := 0) rfl
        have m6 := nm_x hx8 (k := 6) rfl
        rcases List.mem_cons.mp hx with rfl | hx
        · skip
          dsimp only at hlo8 hsk8 ⊢
          obtain ⟨q8, -⟩ := hV8
          simp (config := { decide := true }) only [bnd_b, lin_b, lin_q, Nat.reduceAdd, Nat.zero_add, Nat.reduceEqDiff, reduceIte, and_true, Int.add_zero] at hb8 hl8
          obtain ⟨l80, rfl, p80⟩ := lo_ref ha hlo8
          obtain ⟨y81, l81, rfl, d81, p81⟩ := lo_int rfl p80
          obtain ⟨y82, l82, rfl, d82, p82⟩ := lo_int rfl p81
          obtain ⟨y83, l83, rfl, d83, p83⟩ := lo_int rfl p82
          obtain ⟨y84, l84, rfl, d84, p84⟩ := lo_int rfl p83
          cases lo_nil p84
          rw [vn_at hx8 (n := 2) (z := zN.toInt) rfl] at d81
          have e81 : zN = y81 := Int32.toInt_inj.mp (by omega)
          subst e81
          rw [vn_at hx8 (n := 3) (z := zw.toInt) rfl] at d82
          have e82 : zw = y82 := Int32.toInt_inj.mp (by omega)
          subst e82
          rw [vn_at hx8 (n := 4) (z := zh.toInt) rfl] at d83
          have e83 : zh = y83 := Int32.toInt_inj.mp (by omega)
          subst e83
          rw [vn_at hx8 (n := 5) (z := zi.toInt) rfl] at d84
          cases hsk8.nil
          exact ih (drS E t) zh y84 ws8 (by omega) (by omega) (drS_g hn hgE htn) hR2 hw8 (f06.tr (wsub_ok (V := [(50, 124, 125)]) (by decide) hf8)) (by
            rw [← hev]
            exact pev_upg hn hc6 hf8 (fun j h1 h2 => wr_no fun q hq => by
              rw [List.mem_singleton.mp hq]
              dsimp only
              omega) (q8.eq (by dsimp only; omega)))
        have hx0 := List.mem_singleton.mp hx
        subst hx0
        dsimp only at hlo8 hsk8 ⊢
        obtain ⟨q8, -⟩ := hV8
        simp (config := { decide := true }) only [bnd_b, lin_b, lin_q, Nat.reduceAdd, Nat.zero_add, Nat.reduceEqDiff, reduceIte, and_true, Int.add_zero] at hb8 hl8
        obtain ⟨l80, rfl, p80⟩ := lo_ref ha hlo8
        obtain ⟨y81, l81, rfl, d81, p81⟩ := lo_int rfl p80
        obtain ⟨y82, l82, rfl, d82, p82⟩ := lo_int rfl p81
        obtain ⟨y83, l83, rfl, d83, p83⟩ := lo_int rfl p82
        obtain ⟨y84, l84, rfl, d84, p84⟩ := lo_int rfl p83
        cases lo_nil p84
        rw [vn_at hx8 (n := 2) (z := zN.toInt) rfl] at d81
        have e81 : zN = y81 := Int32.toInt_inj.mp (by omega)
        subst e81
        rw [vn_at hx8 (n := 3) (z := zw.toInt) rfl] at d82
        have e82 : zw = y82 := Int32.toInt_inj.mp (by omega)
        subst e82
        rw [vn_at hx8 (n := 4) (z := zh.toInt) rfl] at d83
        have e83 : zh = y83 := Int32.toInt_inj.mp (by omega)
        subst e83
        rw [vn_at hx8 (n := 5) (z := zi.toInt) rfl] at d84
        cases hsk8.nil
        exact ih (drS E t) zh y84 ws8 (by omega) (by omega) (drS_g hn hgE htn) hR2 hw8 (f06.tr (wsub_ok (V := [(50, 124, 125)]) (by decide) hf8)) (by
          rw [← hev]
          exact pev_upg hn hc6 hf8 (fun j h1 h2 => wr_no fun q hq => by
            rw [List.mem_singleton.mp hq]
            dsimp only
            omega) (q8.eq (by dsimp only; omega)))
theorem dr_mdl {ar n : Nat} {E : Nat → Int} {zg zN zw m : Int32} {ws : va_W} (C : ai_cx tb_m161 10 p R s m0 args c D tys A b L sx cells slots) (ha : ad[49]? = some ar) (hn : n ≤ 4) (hn1 : 1 ≤ n) (hg : good n E) (em : m.toInt = n) (hN : 1 ≤ zN.toInt ∧ zN.toInt ≤ 60) (hzw : 0 ≤ zw.toInt ∧ zw.toInt ≤ 1) (hw : ai_wd tb_TY ad tys ws) (hv0 : vi ws 49 1 n) (hc : pev ws 0 n E)
    (kk : ∀ (pcr : Nat) (ws' : va_W) (z : Int32) (lv' : List (Nat × Value)), pcr ∈ [116] → ai_wd tb_TY ad tys ws' → ai_fr tb_WR7 ws ws' → z.toInt = drR n E (drE m zN.toInt.toNat zg E) zw.toInt → hG tb_m161 p l e R s m0 args below meth c D A cells slots Q pcr lv' [.int z] ws') : hG tb_m161 p l e R s m0 args below meth c D A cells slots Q 0 [(0, .ref ar), (1, .int zg), (2, .int zN), (3, .int zw)] [] ws := by
  have bg := ai_irg zg
  refine hsum (st := (0, [(0, (0, 49, 0, 0)), (1, (1, 4, 0, 0)), (2, (1, 2, 0, 0)), (3, (1, 3, 0, 0))], [], [(0, 0, false, 0, 0), (0, 2555, false, 1, 0), (1, 60, false, 2, 0), (0, 1, false, 3, 0), (-2147483648, 2147483647, false, 4, 0), (1, 4, false, 5, 0)], [(49, 1, (1, 5, 0, 0))], [])) dr_m0 rfl C (r := [0, 0, zN.toInt, zw.toInt, zg.toInt, (n : Int)]) ⟨en_mk (by simp only [en_b, and_true]; omega) rfl, sb0, ⟨rfl, Or.inl ⟨rfl, ar, ha, rfl⟩, rfl, int_dv (z := zg.toInt) rfl (by omega), rfl, int_dv (z := zN.toInt) rfl (by omega), rfl, int_dv (z := zw.toInt) rfl (by omega), trivial⟩, trivial, hw, kc (hv0.kn (n := 5) (t := (n : Int)) rfl (by omega)) (k0), fun _ _ _ _ h => h, fun h => by cases h⟩ (fun x hx r1 lv1 st1 ws1 hx1 hb1 hl1 hs1 hlo1 hsk1 hw1 hV1 hf1 _ => ?_)
  have hx9 := List.mem_singleton.mp hx
  subst hx9
  dsimp only at hlo1 hsk1 ⊢
  obtain ⟨l10, rfl, p10⟩ := lo_ref ha hlo1
  obtain ⟨y11, l11, rfl, d11, p11⟩ := lo_int rfl p10
  obtain ⟨y12, l12, rfl, d12, p12⟩ := lo_int rfl p11
  obtain ⟨y13, l13, rfl, d13, p13⟩ := lo_int rfl p12
  cases lo_nil p13
  rw [vn_at hx1 (n := 4) (z := zg.toInt) rfl] at d11
  have e11 : zg = y11 := Int32.toInt_inj.mp (by omega)
  subst e11
  rw [vn_at hx1 (n := 2) (z := zN.toInt) rfl] at d12
  have e12 : zN = y12 := Int32.toInt_inj.mp (by omega)
  subst e12
  rw [vn_at hx1 (n := 3) (z := zw.toInt) rfl] at d13
  have e13 : zw = y13 := Int32.toInt_inj.mp (by omega)
  subst e13
  obtain ⟨x10, s10, rfl, c10, g10⟩ := hsk1.cons
  obtain ⟨x11, s11, rfl, c11, g11⟩ := g10.cons
  obtain ⟨x12, s12, rfl, c12, g12⟩ := g11.cons
  cases g12.nil
  obtain ⟨u10, rfl, w10⟩ := dvn c10 (hx1.at (k := 0) rfl)
  obtain ⟨u11, rfl, w11⟩ := dvn c11 (hx1.at (k := 0) rfl)
  have f12 := ref_of49 ha c12
  subst f12
  refine hcallV (q := (174, 0, 134, 2, 6)) (M' := tb_m134) (cl := 49) (a := ar) (As := [.int u11, .int u10]) (rest := []) (rets := [30]) (P := cs_P ad tys 0 108 ws1) C (by decide) (tv_m161.1.1.1 (38, .invokevirtual 174, 3) (List.mem_of_getElem? (i := 22) rfl)) (tv_m161.2 _ (List.mem_of_getElem? (i := 21) rfl)) rfl rfl rfl rfl (by decide) (Nat.le_of_ble_eq_true rfl) rfl rfl rfl rfl hw1 ha (Nat.le_of_ble_eq_true rfl) ?_ ?_ ?_
  · intro pcr hp
    simp only [List.mem_cons, List.not_mem_nil, or_false] at hp
    rcases hp with rfl
    · exact tv_m134.1.1.1 (30, .return_, 1) (List.mem_of_getElem? (i := 19) rfl)
  · intro p2 e2 R2 s2 m2 args2 below2 meth2 c2 Q2 C2 kk2
    exact cs_all cs_r7 (by decide +kernel) (by decide) (mm_cx (by decide) C2) hw1 ha (by omega) (by omega) (fun pcr w lv2 hp hP => kk2 pcr w lv2 hp hP)
  · intro ws2 hcs
    have hc2 := dr_pev hn hcs (hc.fr hn hf1 (fun _ _ => rfl))
    have f02 : ai_fr tb_WR7 ws ws2 := (wsub_ok (V := []) (by rfl) hf1).tr (wsub_ok (V := [(50, 108, 135)]) (by decide) hcs.2.1)
    refine hsum (st := (41, [(0, (0, 49, 0, 0)), (1, (1, 4, 0, 0)), (2, (1, 2, 0, 0)), (3, (1, 3, 0, 0))], [], [(0, 0, false, 0, 0), (0, 2555, false, 1, 0), (1, 60, false, 2, 0), (0, 1, false, 3, 0), (-2147483648, 2147483647, false, 4, 0)], [], [])) dr_m9 rfl C (r := [0, 0, zN.toInt, zw.toInt, zg.toInt]) ⟨en_mk (by simp only [en_b, and_true]; omega) rfl, sb0, ⟨rfl, Or.inl ⟨rfl, ar, ha, rfl⟩, rfl, int_dv (z := zg.toInt) rfl (by omega), rfl, int_dv (z := zN.toInt) rfl (by omega), rfl, int_dv (z := zw.toInt) rfl (by omega), trivial⟩, trivial, hcs.1, k0, fun _ _ _ _ h => h, fun h => by cases h⟩ (fun x hx r3 lv3 st3 ws3 hx3 hb3 hl3 hs3 hlo3 hsk3 hw3 hV3 hf3 _ => ?_)
    have hx9 := List.mem_singleton.mp hx
    subst hx9
    dsimp only at hlo3 hsk3 ⊢
    obtain ⟨l30, rfl, p30⟩ := lo_ref ha hlo3
    obtain ⟨y31, l31, rfl, d31, p31⟩ := lo_int rfl p30
    obtain ⟨y32, l32, rfl, d32, p32⟩ := lo_int rfl p31
    obtain ⟨y33, l33, rfl, d33, p33⟩ := lo_int rfl p32
    obtain ⟨y34, l34, rfl, d34, p34⟩ := lo_int rfl p33
    cases lo_nil p34
    rw [vn_at hx3 (n := 2) (z := zN.toInt) rfl] at d31
    have e31 : zN = y31 := Int32.toInt_inj.mp (by omega)
    subst e31
    rw [vn_at hx3 (n := 3) (z := zw.toInt) rfl] at d32
    have e32 : zw = y32 := Int32.toInt_inj.mp (by omega)
    subst e32
    rw [vn_at hx3 (n := 4) (z := zg.toInt) rfl] at d33
    have e33 : zg = y33 := Int32.toInt_inj.mp (by omega)
    subst e33
    rw [vn_at hx3 (n := 0) (z := 0) rfl] at d34
    cases hsk3.nil
    exact dr_ml (ws0 := ws) C ha hn hn1 hg em hN hzw hv0 hc kk zN.toInt.toNat E zg y34 ws3 (by omega) (by omega) hg rfl hw3 (f02.tr (wsub_ok (V := []) (by rfl) hf3)) (hc2.fr hn hf3 (fun _ _ => rfl))
end XD1
theorem dr9_n : ((ai_ex (hk []) 300 169 tb_m169 11 [1297] (1033, lw_lo, [], se8_en (-2147483648) 2147483647 (-2147483648) 0 (-2147483648) 2147483647 (-2147483648) 2147483647, se8_n, [])).any fun xs => xs.all lw_un) = true := by decide +kernel
theorem dr9_o : ((ai_ex (hk []) 300 169 tb_m169 11 [1297] (1033, lw_lo, [], se8_en (-2147483648) 2147483647 61 2147483647 (-2147483648) 2147483647 (-2147483648) 2147483647, se8_n, [])).any fun xs => xs.all lw_un) = true := by decide +kernel
theorem dr9_p : ((ai_ex (hk []) 300 169 tb_m169 11 [1297] (1033, lw_lo, [], se8_en (-2147483648) 2147483647 1 60 (-2147483648) (-1) (-2147483648) 2147483647, se8_n, [])).any fun xs => xs.all lw_un) = true := by decide +kernel
theorem dr9_q : ((ai_ex (hk []) 300 169 tb_m169 11 [1297] (1033, lw_lo, [], se8_en (-2147483648) 2147483647 1 60 2 2147483647 (-2147483648) 2147483647, se8_n, [])).any fun xs => xs.all lw_un) = true := by decide +kernel
theorem dr9_z : ((ai_ex (hk []) 300 169 tb_m169 11 [1297] (1033, lw_lo, [], se8_en (-2147483648) 2147483647 1 60 0 1 (-2147483648) 2147483647, [(1, 0, (1, 0, 0, 0)), (49, 1, (1, 0, 0, 0))], [])).any fun xs => xs.all lw_un) = true := by decide +kernel
section XD2
variable {ad : List Nat} {M : ai_m} {d : Nat} {p : Program} {l : Launch} {e : Env} {R : Room} {s : State} {m : MethodId} {args : Array Value} {below : List Frame} {meth : Method} {c : Code} {D : va_G} {tys : ai_ty} {A : Nat → Prop} {b L : Nat} {sx : Nat → Int32} {cells slots : Nat} {Q : State → Prop}
set_option maxRecDepth 20000 in
theorem lw_drift {i q0 q49 : Nat} {ws : va_W} (C : ai_cx tb_m169 11 p R s m args c D tys A b L sx cells slots) (e0 : ad[0]? = some q0) (e49 : ad[49]? = some q49) (hi : i + 5 ≤ L) (hL : L ≤ 2560) (hw : ai_wd tb_TY ad tys ws) (hI : Inv ws)
    (k : ∀ wc, ai_wd tb_TY ad tys wc → Inv wc → hG tb_m169 p l e R s m args below meth c D A cells slots Q 1297 [(0, .ref b), (1, .ref q0), (2, .ref q49), (3, .int (nI i))] [] wc) : hG tb_m169 p l e R s m args below meth c D A cells slots Q 1033 [(0, .ref b), (1, .ref q0), (2, .ref q49), (3, .int (nI i))] [] ws := by
  have b0 := ai_irg (sx i)
  have b1 := ai_irg (sx (i + 1))
  have b2 := ai_irg (sx (i + 2))
  have b3 := ai_irg (sx (i + 3))
  have b4 := ai_irg (sx (i + 4))
  obtain ⟨t, g, u, q, y, n, j0, j1, E, a, P, hb, hp, hi0, hi1, hs⟩ := id hI
  obtain ⟨hn1, hn2, hn4⟩ := hb.2.2.2.2.1
  obtain ⟨hc, he, hg⟩ := hp.1
  obtain ⟨p3, p26, p8⟩ := hp.2.1
  have hP : ∀ j, j < a → P j = 4 ∨ (0 ≤ P j ∧ P j < n) := fun j hj => (hp.2.2 j hj).2.2
  obtain ⟨a1, -, -, e1, -⟩ := hw.get (c := 1) rfl
  obtain ⟨a7, -, -, e7, -⟩ := hw.get (c := 7) rfl
  have kn0 : ai_kn ad b (lw_r sx i ++ [(n : Int)]) ws se8_n := kc (hn1.kn (n := 8) (t := (n : Int)) rfl (by omega)) (kc (hn2.kn (n := 8) (t := (n : Int)) rfl (by omega)) k0)
  have ok : ∀ {t1 t2 s1 s2 p1 p2 y1 y2 : Int}, (t1 ≤ (sx (i + 1)).toInt ∧ (sx (i + 1)).toInt ≤ t2) → (s1 ≤ (sx (i + 2)).toInt ∧ (sx (i + 2)).toInt ≤ s2) → (p1 ≤ (sx (i + 3)).toInt ∧ (sx (i + 3)).toInt ≤ p2) → (y1 ≤ (sx (i + 4)).toInt ∧ (sx (i + 4)).toInt ≤ y2) → ai_ok (lw_r sx i ++ [(n : Int)]) (se8_en t1 t2 s1 s2 p1 p2 y1 y2) := fun h1 h2 h3 h4 => en_mk (by simp only [lw_r, se8_en, List.cons_append, List.nil_append, en_b, and_true]; omega) rfl
  by_cases h1 : (sx (i + 2)).toInt < 1
  · exact lw_no C e0 e49 hi hL hw hI dr9_n (ok (by omega) (by omega) (by omega) (by omega)) sb0 kn0 k
  by_cases h2 : 60 < (sx (i + 2)).toInt
  · exact lw_no C e0 e49 hi hL hw hI dr9_o (ok (by omega) (by omega) (by omega) (by omega)) sb0 kn0 k
  by_cases h3 : (sx (i + 3)).toInt < 0
  · exact lw_no C e0 e49 hi hL hw hI dr9_p (ok (by omega) (by omega) (by omega) (by omega)) sb0 kn0 k
  by_cases h4 : 1 < (sx (i + 3)).toInt
  · exact lw_no C e0 e49 hi hL hw hI dr9_q (ok (by omega) (by omega) (by omega) (by omega)) sb0 kn0 k
  by_cases h5 : n = 0
  · subst h5
    exact lw_no C e0 e49 hi hL hw hI dr9_z (ok (by omega) (by omega) (by omega) (by omega)) sb0 (kc (hn1.kn (n := 0) (t := 0) rfl (by omega)) (kc (hn2.kn (n := 0) (t := 0) rfl (by omega)) k0)) k
  have hN : 1 ≤ (sx (i + 2)).toInt ∧ (sx (i + 2)).toInt ≤ 60 := by omega
  have hzw : 0 ≤ (sx (i + 3)).toInt ∧ (sx (i + 3)).toInt ≤ 1 := by omega
  have em : (nI n).toInt = (n : Int) := nI_toInt (by omega)
  refine law2 (P1 := fun w z1 => ai_wd tb_TY ad tys w ∧ ai_fr tb_WR7 ws w ∧ z1.toInt = drR n E (drE (nI n) (sx (i + 2)).toInt.toNat (sx (i + 1)) E) (sx (i + 3)).toInt) (P2 := fun wa _ w z1 => ai_wd tb_TY ad tys w ∧ ai_fr tb_WR7 wa w ∧ z1.toInt = drR n E (drE (nI n) (sx (i + 2)).toInt.toNat (sx (i + 1)) E) (sx (i + 3)).toInt) (rets1 := [149]) (rets2 := [116]) C e0 e49 hi hL hw (n := 3) (cmp := true) (by decide) lr_driftA lr_driftB lr_driftC (q1 := (135, 0, 85, 3, 5)) (tv_m169.1.1.1 (1049, .invokevirtual 135, 3) (List.mem_of_getElem? (i := 701) rfl)) (tv_m169.2 _ (List.mem_of_getElem? (i := 58) rfl)) rfl rfl rfl rfl (by decide) (Nat.le_of_ble_eq_true rfl) rfl rfl (q2 := (138, 0, 161, 3, 6)) (tv_m169.1.1.1 (1068, .invokevirtual 138, 3) (List.mem_of_getElem? (i := 718) rfl)) (tv_m169.2 _ (List.mem_of_getElem? (i := 59) rfl)) rfl rfl rfl rfl (by decide) (Nat.le_of_ble_eq_true rfl) rfl rfl ?_ ?_ ?_ (fun wa z1 h => h.1) ?_ (fun wa z1 wb z2 h1 h2 => ⟨h2.1, fun _ => Int32.toInt_inj.mp (by rw [h1.2.2, h2.2.2])⟩) (fun wa z1 wb z2 wc h1 h2 hwc hf => k wc hwc (hI.rd hwc ((h1.2.1.tr h2.2.1).tr (wsub_ok (V := []) (by rfl) hf))))
  · intro pcr hpc
    rw [List.mem_singleton.mp hpc]
    exact tv_m85.1.1.1 (149, .ireturn, 1) (List.mem_of_getElem? (i := 74) rfl)
  · intro pcr hpc
    rw [List.mem_singleton.mp hpc]
    exact tv_m161.1.1.1 (116, .ireturn, 1) (List.mem_of_getElem? (i := 61) rfl)
  · intro p e R s m args below meth c Q w hw' hf C2 kk
    exact dr_cls (m := nI n) C2 e0 e1 e7 hn4 (by omega) hg em hN hzw hw' (hn1.fr hf rfl) (hc.fr hf rfl) (fun pcr w' z lv hpr g1 g2 g3 => kk pcr w' z lv hpr ⟨g1, (wsub_ok (V := []) (by rfl) hf).tr g2, g3⟩)
  · intro p e R s m args below meth c Q wa z1 w hP1 hw' hf C2 kk
    have hfa : ai_fr tb_WR7 ws w := hP1.2.1.tr (wsub_ok (V := []) (by rfl) hf)
    exact dr_mdl (m := nI n) C2 e49 hn4 (by omega) hg em hN hzw hw' (hn2.fr hfa rfl) (he.fr hn4 hfa (fun j hj => dr_off (by omega))) (fun pcr w' z lv hpr g1 g2 g3 => kk pcr w' z lv hpr ⟨g1, (wsub_ok (V := []) (by rfl) hf).tr g2, g3⟩)
end XD2
