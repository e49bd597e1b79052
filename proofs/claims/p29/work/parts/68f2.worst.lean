/-! ask, compared -/
def pcF (a : Nat) : Nat := a % 2 + a / 2 % 2 + a / 4 % 2 + a / 8 % 2
theorem pcF_b : ∀ a, a < 16 → pcF a ≤ 4 := by decide +kernel
/-- how many kinds are left at the worst, by the kinds below k -/
def awF (a : Nat) (s p : Int) : Nat → Nat
  | 0 => 0
  | k + 1 => if a.testBit k = true then max (awF a s p k) (pcF (a &&& ktF s p (yl (k : Int) s p) 4)) else awF a s p k
theorem awF_y {a : Nat} {s p : Int} {k : Nat} (h : a.testBit k = true) : awF a s p (k + 1) = max (awF a s p k) (pcF (a &&& ktF s p (yl (k : Int) s p) 4)) := if_pos h
theorem awF_n {a : Nat} {s p : Int} {k : Nat} (h : ¬ a.testBit k = true) : awF a s p (k + 1) = awF a s p k := if_neg h
theorem awF_b {a : Nat} (ha : a < 16) (s p : Int) : ∀ k, awF a s p k ≤ 4
  | 0 => Nat.zero_le _
  | k + 1 => by
    have ih := awF_b ha s p k
    by_cases c : a.testBit k = true
    · rw [awF_y c]
      have := pcF_b _ (and_b a ha _ (ktF_b s p (yl (k : Int) s p) 4 (by decide)))
      omega
    · rw [awF_n c]
      exact ih
def alF (a : Nat) (s p : Int) (k : Nat) : Nat → Nat
  | 0 => 0
  | j + 1 => alF a s p k j + (a.testBit j && decide (yl (j : Int) s p = yl (k : Int) s p)).toNat
theorem alF_b (a : Nat) (s p : Int) (k : Nat) : ∀ j, alF a s p k j ≤ j
  | 0 => Nat.zero_le _
  | j + 1 => by
    have ih := alF_b a s p k j
    show alF a s p k j + (a.testBit j && decide (yl (j : Int) s p = yl (k : Int) s p)).toNat ≤ j + 1
    have : (a.testBit j && decide (yl (j : Int) s p = yl (k : Int) s p)).toNat ≤ 1 := Bool.toNat_le _
    omega
theorem alF_0 {a : Nat} {s p : Int} {k j : Nat} (h : ¬ a.testBit j = true ∨ ¬ yl (j : Int) s p = yl (k : Int) s p) : alF a s p k (j + 1) = alF a s p k j := by
  show alF a s p k j + (a.testBit j && decide (yl (j : Int) s p = yl (k : Int) s p)).toNat = alF a s p k j
  rcases h with h | h
  · rw [Bool.not_eq_true] at h
    rw [h]
    rfl
  · rw [decide_eq_false h, Bool.and_false]
    rfl
theorem alF_1 {a : Nat} {s p : Int} {k j : Nat} (h : a.testBit j = true) (h2 : yl (j : Int) s p = yl (k : Int) s p) : alF a s p k (j + 1) = alF a s p k j + 1 := by
  show alF a s p k j + (a.testBit j && decide (yl (j : Int) s p = yl (k : Int) s p)).toNat = alF a s p k j + 1
  rw [h, decide_eq_true h2]
  rfl
theorem akt_t : ∀ a, a < 16 → a = bt4 (a.testBit 0) (a.testBit 1) (a.testBit 2) (a.testBit 3) := by decide +kernel
theorem pc_bt : ∀ b0 b1 b2 b3 : Bool, 0 + b0.toNat + b1.toNat + b2.toNat + b3.toNat = pcF (bt4 b0 b1 b2 b3) := by decide +kernel
theorem alF_4 {a : Nat} (ha : a < 16) (s p : Int) (k : Nat) : alF a s p k 4 = pcF (a &&& ktF s p (yl (k : Int) s p) 4) := by
  have h : ∀ c0 c1 c2 c3 : Bool, a &&& bt4 c0 c1 c2 c3 = bt4 (a.testBit 0 && c0) (a.testBit 1 && c1) (a.testBit 2 && c2) (a.testBit 3 && c3) := fun c0 c1 c2 c3 => by
    conv => lhs; rw [akt_t a ha]
    exact bt4_and _ _ _ _ _ _ _ _
  rw [ktF_4, h, ← pc_bt]
  rfl
/-- the best strength from s on -/
def akF (K : Int → Int) : Nat → Int → Int → Int → Int × Int
  | 0, _, w, o => (w, o)
  | f + 1, s, w, o => if K s < w then akF K f (s + 1) (K s) s else akF K f (s + 1) w o
theorem akF_y {K : Int → Int} {f : Nat} {s w o : Int} (h : K s < w) : akF K (f + 1) s w o = akF K f (s + 1) (K s) s := if_pos h
theorem akF_n {K : Int → Int} {f : Nat} {s w o : Int} (h : ¬ K s < w) : akF K (f + 1) s w o = akF K f (s + 1) w o := if_neg h
def akW (R : Int × Int) (w : Int) : Int := if R.2 = -4 ∨ w = 0 then R.2 else R.1
def akK (a : Nat) (p : Int) (s : Int) : Int := ((awF a s p 4 : Nat) : Int)
def bcE (x : Int32) : Int32 :=
  let sh := fun (v k : Int32) => (v.toUInt32 >>> (k.toUInt32 &&& Int32.toUInt32 31)).toInt32
  let a := x - (sh x 1 &&& 1431655765)
  let c := (a &&& 858993459) + (sh a 2 &&& 858993459)
  let g := (c + sh c 4) &&& 252645135
  let h := g + sh g 8
  (h + sh h 16) &&& 63
theorem bcE_ok : ∀ a, a < 16 → (bcE (Int32.ofNat a)).toInt = ((pcF a : Nat) : Int) := by decide +kernel
section HBC
variable {ad : List Nat} {M : ai_m} {d : Nat} {p : Program} {l : Launch} {e : Env} {R : Room} {s : State} {m : MethodId} {args : Array Value} {below : List Frame} {meth : Method} {c : Code} {D : va_G} {tys : ai_ty} {A : Nat → Prop} {b L : Nat} {sx : Nat → Int32} {cells slots : Nat} {Q : State → Prop}
theorem hbush {pc : Nat} {x y : Int32} {ws : va_W} {sk : List Value} {lv : List (Nat × Value)} (C : ai_cx M d p R s m args c D tys A b L sx cells slots) (hd : decode M.2.1 pc = .ok (.iushr, 1)) (k : hG M p l e R s m args below meth c D A cells slots Q (pc + 1) lv (.int (x.toUInt32 >>> (y.toUInt32 &&& Int32.toUInt32 31)).toInt32 :: sk) ws) : hG M p l e R s m args below meth c D A cells slots Q pc lv (.int y :: .int x :: sk) ws := by
  intro H locs ls hP hD hS hl
  exact lv_iushr C.1 C.2.1 hd rfl (k H locs ls hP hD hS hl)
theorem hbadd {pc : Nat} {x y : Int32} {ws : va_W} {sk : List Value} {lv : List (Nat × Value)} (C : ai_cx M d p R s m args c D tys A b L sx cells slots) (hd : decode M.2.1 pc = .ok (.iadd, 1)) (k : hG M p l e R s m args below meth c D A cells slots Q (pc + 1) lv (.int (x + y) :: sk) ws) : hG M p l e R s m args below meth c D A cells slots Q pc lv (.int y :: .int x :: sk) ws := by
  intro H locs ls hP hD hS hl
  exact lv_iadd C.1 C.2.1 hd (k H locs ls hP hD hS hl)
theorem hbsub {pc : Nat} {x y : Int32} {ws : va_W} {sk : List Value} {lv : List (Nat × Value)} (C : ai_cx M d p R s m args c D tys A b L sx cells slots) (hd : decode M.2.1 pc = .ok (.isub, 1)) (k : hG M p l e R s m args below meth c D A cells slots Q (pc + 1) lv (.int (x - y) :: sk) ws) : hG M p l e R s m args below meth c D A cells slots Q pc lv (.int y :: .int x :: sk) ws := by
  intro H locs ls hP hD hS hl
  exact lv_isub C.1 C.2.1 hd (k H locs ls hP hD hS hl)
end HBC
theorem aw_int {ad : List Nat} {b : Nat} {r : List Int} {k : Nat} {o : Int} {x : Value} (h : ai_dv ad b r (1, k, 0, o) x) : ∃ i : Int32, x = .int i ∧ i.toInt = vn r (1, k, 0, o) := by
  rcases h with ⟨q, -⟩ | ⟨-, z, i, h3, rfl, h5⟩ | ⟨q, -⟩ | ⟨q, -⟩ | ⟨q, -⟩
  · omega
  · refine ⟨i, rfl, ?_⟩
    unfold vn
    rw [nm_of h3]
    exact h5
  all_goals omega
theorem bc_s3 : ((ai_ex (hk []) 300 170 tb_m170 7 [3] (0, [(0, (1, 2, 0, 0))], [], [(0, 0, false, 0, 0), (0, 2555, false, 1, 0), (-2147483648, 2147483647, false, 2, 0)], [], [])).any fun xs => xs.all fun x => ([(3, [(0, (1, 2, 0, 0))], [(1, 0, 0, 1), (1, 2, 0, 0), (1, 2, 0, 0)], [], [(0, 0, false, 0, 0), (0, 2555, false, 1, 0), (-2147483648, 2147483647, false, 2, 0)], [])] : List sm_t).any fun y => sm_is [] x y) = true := by decide +kernel
theorem bc_s7 : ((ai_ex (hk []) 300 170 tb_m170 7 [7] (4, [(0, (1, 2, 0, 0))], [(1, 3, 0, 0), (1, 2, 0, 0)], [(0, 0, false, 0, 0), (0, 2555, false, 1, 0), (-2147483648, 2147483647, false, 2, 0), (-2147483648, 2147483647, false, 3, 0)], [], [])).any fun xs => xs.all fun x => ([(7, [(0, (1, 2, 0, 0))], [(1, 0, 0, 1431655765), (1, 3, 0, 0), (1, 2, 0, 0)], [], [(0, 0, false, 0, 0), (0, 2555, false, 1, 0), (-2147483648, 2147483647, false, 2, 0), (-2147483648, 2147483647, false, 3, 0)], [])] : List sm_t).any fun y => sm_is [] x y) = true := by decide +kernel
theorem bc_s8 : ((ai_ex (hk []) 300 170 tb_m170 7 [8] (8, [(0, (1, 2, 0, 0))], [(1, 3, 0, 0), (1, 2, 0, 0)], [(0, 0, false, 0, 0), (0, 2555, false, 1, 0), (-2147483648, 2147483647, false, 2, 0), (-2147483648, 2147483647, false, 3, 0)], [], [])).any fun xs => xs.all fun x => ([(8, [(0, (1, 2, 0, 0))], [(1, 3, 0, 0), (1, 2, 0, 0)], [], [(0, 0, false, 0, 0), (0, 2555, false, 1, 0), (-2147483648, 2147483647, false, 2, 0), (-2147483648, 2147483647, false, 3, 0)], [])] : List sm_t).any fun y => sm_is [] x y) = true := by decide +kernel
theorem bc_s14 : ((ai_ex (hk []) 300 170 tb_m170 7 [14] (9, [(0, (1, 2, 0, 0))], [(1, 3, 0, 0)], [(0, 0, false, 0, 0), (0, 2555, false, 1, 0), (-2147483648, 2147483647, false, 2, 0), (-2147483648, 2147483647, false, 3, 0)], [], [])).any fun xs => xs.all fun x => ([(14, [(0, (1, 3, 0, 0))], [(1, 0, 0, 858993459), (1, 3, 0, 0)], [], [(0, 0, false, 0, 0), (0, 2555, false, 1, 0), (-2147483648, 2147483647, false, 2, 0), (-2147483648, 2147483647, false, 3, 0)], [])] : List sm_t).any fun y => sm_is [] x y) = true := by decide +kernel
theorem bc_s17 : ((ai_ex (hk []) 300 170 tb_m170 7 [17] (15, [(0, (1, 2, 0, 0))], [(1, 3, 0, 0)], [(0, 0, false, 0, 0), (0, 2555, false, 1, 0), (-2147483648, 2147483647, false, 2, 0), (-2147483648, 2147483647, false, 3, 0)], [], [])).any fun xs => xs.all fun x => ([(17, [(0, (1, 2, 0, 0))], [(1, 0, 0, 2), (1, 2, 0, 0), (1, 3, 0, 0)], [], [(0, 0, false, 0, 0), (0, 2555, false, 1, 0), (-2147483648, 2147483647, false, 2, 0), (-2147483648, 2147483647, false, 3, 0)], [])] : List sm_t).any fun y => sm_is [] x y) = true := by decide +kernel
theorem bc_s21 : ((ai_ex (hk []) 300 170 tb_m170 7 [21] (18, [(0, (1, 2, 0, 0))], [(1, 3, 0, 0), (1, 4, 0, 0)], [(0, 0, false, 0, 0), (0, 2555, false, 1, 0), (-2147483648, 2147483647, false, 2, 0), (-2147483648, 2147483647, false, 3, 0), (-2147483648, 2147483647, false, 4, 0)], [], [])).any fun xs => xs.all fun x => ([(21, [(0, (1, 2, 0, 0))], [(1, 0, 0, 858993459), (1, 3, 0, 0), (1, 4, 0, 0)], [], [(0, 0, false, 0, 0), (0, 2555, false, 1, 0), (-2147483648, 2147483647, false, 2, 0), (-2147483648, 2147483647, false, 3, 0), (-2147483648, 2147483647, false, 4, 0)], [])] : List sm_t).any fun y => sm_is [] x y) = true := by decide +kernel
theorem bc_s22 : ((ai_ex (hk []) 300 170 tb_m170 7 [22] (22, [(0, (1, 2, 0, 0))], [(1, 3, 0, 0), (1, 4, 0, 0)], [(0, 0, false, 0, 0), (0, 2555, false, 1, 0), (-2147483648, 2147483647, false, 2, 0), (-2147483648, 2147483647, false, 3, 0), (-2147483648, 2147483647, false, 4, 0)], [], [])).any fun xs => xs.all fun x => ([(22, [(0, (1, 2, 0, 0))], [(1, 3, 0, 0), (1, 4, 0, 0)], [], [(0, 0, false, 0, 0), (0, 2555, false, 1, 0), (-2147483648, 2147483647, false, 2, 0), (-2147483648, 2147483647, false, 3, 0), (-2147483648, 2147483647, false, 4, 0)], [])] : List sm_t).any fun y => sm_is [] x y) = true := by decide +kernel
theorem bc_s27 : ((ai_ex (hk []) 300 170 tb_m170 7 [27] (23, [(0, (1, 2, 0, 0))], [(1, 3, 0, 0)], [(0, 0, false, 0, 0), (0, 2555, false, 1, 0), (-2147483648, 2147483647, false, 2, 0), (-2147483648, 2147483647, false, 3, 0)], [], [])).any fun xs => xs.all fun x => ([(27, [(0, (1, 3, 0, 0))], [(1, 0, 0, 4), (1, 3, 0, 0), (1, 3, 0, 0)], [], [(0, 0, false, 0, 0), (0, 2555, false, 1, 0), (-2147483648, 2147483647, false, 2, 0), (-2147483648, 2147483647, false, 3, 0)], [])] : List sm_t).any fun y => sm_is [] x y) = true := by decide +kernel
theorem bc_s28 : ((ai_ex (hk []) 300 170 tb_m170 7 [28] (28, [(0, (1, 2, 0, 0))], [(1, 3, 0, 0), (1, 2, 0, 0)], [(0, 0, false, 0, 0), (0, 2555, false, 1, 0), (-2147483648, 2147483647, false, 2, 0), (-2147483648, 2147483647, false, 3, 0)], [], [])).any fun xs => xs.all fun x => ([(28, [(0, (1, 2, 0, 0))], [(1, 3, 0, 0), (1, 2, 0, 0)], [], [(0, 0, false, 0, 0), (0, 2555, false, 1, 0), (-2147483648, 2147483647, false, 2, 0), (-2147483648, 2147483647, false, 3, 0)], [])] : List sm_t).any fun y => sm_is [] x y) = true := by decide +kernel
theorem bc_s32 : ((ai_ex (hk []) 300 170 tb_m170 7 [32] (29, [(0, (1, 2, 0, 0))], [(1, 3, 0, 0)], [(0, 0, false, 0, 0), (0, 2555, false, 1, 0), (-2147483648, 2147483647, false, 2, 0), (-2147483648, 2147483647, false, 3, 0)], [], [])).any fun xs => xs.all fun x => ([(32, [(0, (1, 2, 0, 0))], [(1, 0, 0, 252645135), (1, 3, 0, 0)], [], [(0, 0, false, 0, 0), (0, 2555, false, 1, 0), (-2147483648, 2147483647, false, 2, 0), (-2147483648, 2147483647, false, 3, 0)], [])] : List sm_t).any fun y => sm_is [] x y) = true := by decide +kernel
theorem bc_s38 : ((ai_ex (hk []) 300 170 tb_m170 7 [38] (33, [(0, (1, 2, 0, 0))], [(1, 3, 0, 0)], [(0, 0, false, 0, 0), (0, 2555, false, 1, 0), (-2147483648, 2147483647, false, 2, 0), (-2147483648, 2147483647, false, 3, 0)], [], [])).any fun xs => xs.all fun x => ([(38, [(0, (1, 3, 0, 0))], [(1, 0, 0, 8), (1, 3, 0, 0), (1, 3, 0, 0)], [], [(0, 0, false, 0, 0), (0, 2555, false, 1, 0), (-2147483648, 2147483647, false, 2, 0), (-2147483648, 2147483647, false, 3, 0)], [])] : List sm_t).any fun y => sm_is [] x y) = true := by decide +kernel
theorem bc_s39 : ((ai_ex (hk []) 300 170 tb_m170 7 [39] (39, [(0, (1, 2, 0, 0))], [(1, 3, 0, 0), (1, 2, 0, 0)], [(0, 0, false, 0, 0), (0, 2555, false, 1, 0), (-2147483648, 2147483647, false, 2, 0), (-2147483648, 2147483647, false, 3, 0)], [], [])).any fun xs => xs.all fun x => ([(39, [(0, (1, 2, 0, 0))], [(1, 3, 0, 0), (1, 2, 0, 0)], [], [(0, 0, false, 0, 0), (0, 2555, false, 1, 0), (-2147483648, 2147483647, false, 2, 0), (-2147483648, 2147483647, false, 3, 0)], [])] : List sm_t).any fun y => sm_is [] x y) = true := by decide +kernel
theorem bc_s45 : ((ai_ex (hk []) 300 170 tb_m170 7 [45] (40, [(0, (1, 2, 0, 0))], [(1, 3, 0, 0)], [(0, 0, false, 0, 0), (0, 2555, false, 1, 0), (-2147483648, 2147483647, false, 2, 0), (-2147483648, 2147483647, false, 3, 0)], [], [])).any fun xs => xs.all fun x => ([(45, [(0, (1, 3, 0, 0))], [(1, 0, 0, 16), (1, 3, 0, 0), (1, 3, 0, 0)], [], [(0, 0, false, 0, 0), (0, 2555, false, 1, 0), (-2147483648, 2147483647, false, 2, 0), (-2147483648, 2147483647, false, 3, 0)], [])] : List sm_t).any fun y => sm_is [] x y) = true := by decide +kernel
theorem bc_s46 : ((ai_ex (hk []) 300 170 tb_m170 7 [46] (46, [(0, (1, 2, 0, 0))], [(1, 3, 0, 0), (1, 2, 0, 0)], [(0, 0, false, 0, 0), (0, 2555, false, 1, 0), (-2147483648, 2147483647, false, 2, 0), (-2147483648, 2147483647, false, 3, 0)], [], [])).any fun xs => xs.all fun x => ([(46, [(0, (1, 2, 0, 0))], [(1, 3, 0, 0), (1, 2, 0, 0)], [], [(0, 0, false, 0, 0), (0, 2555, false, 1, 0), (-2147483648, 2147483647, false, 2, 0), (-2147483648, 2147483647, false, 3, 0)], [])] : List sm_t).any fun y => sm_is [] x y) = true := by decide +kernel
theorem bc_s51 : ((ai_ex (hk []) 300 170 tb_m170 7 [51] (47, [(0, (1, 2, 0, 0))], [(1, 3, 0, 0)], [(0, 0, false, 0, 0), (0, 2555, false, 1, 0), (-2147483648, 2147483647, false, 2, 0), (-2147483648, 2147483647, false, 3, 0)], [], [])).any fun xs => xs.all fun x => ([(51, [(0, (1, 3, 0, 0))], [(1, 0, 0, 63), (1, 3, 0, 0)], [], [(0, 0, false, 0, 0), (0, 2555, false, 1, 0), (-2147483648, 2147483647, false, 2, 0), (-2147483648, 2147483647, false, 3, 0)], [])] : List sm_t).any fun y => sm_is [] x y) = true := by decide +kernel
theorem bc_s52 : ((ai_ex (hk []) 300 170 tb_m170 7 [52] (52, [(0, (1, 2, 0, 0))], [(1, 3, 0, 0)], [(0, 0, false, 0, 0), (0, 2555, false, 1, 0), (-2147483648, 2147483647, false, 2, 0), (-2147483648, 2147483647, false, 3, 0)], [], [])).any fun xs => xs.all fun x => ([(52, [(0, (1, 2, 0, 0))], [(1, 3, 0, 0)], [], [(0, 0, false, 0, 0), (0, 2555, false, 1, 0), (-2147483648, 2147483647, false, 2, 0), (-2147483648, 2147483647, false, 3, 0)], [])] : List sm_t).any fun y => sm_is [] x y) = true := by decide +kernel
section XBC
variable {ad : List Nat} {M : ai_m} {d : Nat} {p : Program} {l : Launch} {e : Env} {R : Room} {s : State} {m : MethodId} {args : Array Value} {below : List Frame} {meth : Method} {c : Code} {D : va_G} {tys : ai_ty} {A : Nat → Prop} {b L : Nat} {sx : Nat → Int32} {cells slots : Nat} {Q : State → Prop}
theorem bc_all7 {aa : Nat} {x0 : Int32} {ws : va_W} (C : ai_cx tb_m170 7 p R s m args c D tys A b L sx cells slots) (haa : aa < 16) (ex : x0.toInt = aa) (hw : ai_wd tb_TY ad tys ws)
    (kk : ∀ (ws' : va_W) (z : Int32) (lv' : List (Nat × Value)), ai_wd tb_TY ad tys ws' → ai_fr [] ws ws' → z.toInt = ((pcF aa : Nat) : Int) → hG tb_m170 p l e R s m args below meth c D A cells slots Q 52 lv' [.int z] ws') : hG tb_m170 p l e R s m args below meth c D A cells slots Q 0 [(0, .int x0)] [] ws := by
  have r0_2 := ai_irg x0
  refine hsum (st := (0, [(0, (1, 2, 0, 0))], [], [(0, 0, false, 0, 0), (0, 2555, false, 1, 0), (-2147483648, 2147483647, false, 2, 0)], [], [])) bc_s3 rfl C (r := [0, 0, x0.toInt]) ⟨en_mk (by simp only [en_b, and_true]; omega) rfl, sb0, ⟨rfl, int_dv (z := x0.toInt) rfl (by omega), trivial⟩, trivial, hw, k0, fun _ _ _ _ h => h, fun h => by cases h⟩ (fun x hx rb3 lvb3 stb3 wsb3 hxb3 hbb3 hlb3 hsb3 hlob3 hskb3 hwb3 hVb3 hfb3 _ => ?_)
  have hx9 := List.mem_singleton.mp hx
  subst hx9
  dsimp only at hlob3 hskb3 ⊢
  obtain ⟨yb30, lb30, rfl, db30, pb30⟩ := lo_int rfl hlob3
  cases lo_nil pb30
  rw [vn_at hxb3 (n := 2) (z := x0.toInt) rfl] at db30
  obtain ⟨xb30, sb30, rfl, cb30, gb30⟩ := hskb3.cons
  obtain ⟨xb31, sb31, rfl, cb31, gb31⟩ := gb30.cons
  obtain ⟨xb32, sb32, rfl, cb32, gb32⟩ := gb31.cons
  cases gb32.nil
  obtain ⟨ub30, rfl, wb30⟩ := dvn cb30 (hxb3.at (k := 0) rfl)
  obtain ⟨ub31, rfl, wb31⟩ := dvn cb31 (hxb3.at (k := 2) rfl)
  obtain ⟨ub32, rfl, wb32⟩ := dvn cb32 (hxb3.at (k := 2) rfl)
  have eb3 : yb30 = x0 := Int32.toInt_inj.mp (by omega)
  rw [eb3]
  have fb3_0 : ub30 = 1 := Int32.toInt_inj.mp (by rw [show ub30.toInt = 1 by omega]; decide)
  rw [fb3_0]
  have fb3_1 : ub31 = x0 := Int32.toInt_inj.mp (by omega)
  rw [fb3_1]
  have fb3_2 : ub32 = x0 := Int32.toInt_inj.mp (by omega)
  rw [fb3_2]
  refine hbush (pc := 3) C (tv_m170.1.1.1 (3, .iushr, 1) (List.mem_of_getElem? (i := 3) rfl)) ?_
  generalize d3 : (x0.toUInt32 >>> ((1 : Int32).toUInt32 &&& Int32.toUInt32 31)).toInt32 = x3
  have r4_2 := ai_irg x0
  have r4_3 := ai_irg x3
  refine hsum (st := (4, [(0, (1, 2, 0, 0))], [(1, 3, 0, 0), (1, 2, 0, 0)], [(0, 0, false, 0, 0), (0, 2555, false, 1, 0), (-2147483648, 2147483647, false, 2, 0), (-2147483648, 2147483647, false, 3, 0)], [], [])) bc_s7 rfl C (r := [0, 0, x0.toInt, x3.toInt]) ⟨en_mk (by simp only [en_b, and_true]; omega) rfl, sb0, ⟨rfl, int_dv (z := x0.toInt) rfl (by omega), trivial⟩, ⟨int_dv (z := x3.toInt) rfl (by omega), int_dv (z := x0.toInt) rfl (by omega), trivial⟩, hwb3, k0, fun _ _ _ _ h => h, fun h => by cases h⟩ (fun x hx rb7 lvb7 stb7 wsb7 hxb7 hbb7 hlb7 hsb7 hlob7 hskb7 hwb7 hVb7 hfb7 _ => ?_)
  have hx9 := List.mem_singleton.mp hx
  subst hx9
  dsimp only at hlob7 hskb7 ⊢
  obtain ⟨yb70, lb70, rfl, db70, pb70⟩ := lo_int rfl hlob7
  cases lo_nil pb70
  rw [vn_at hxb7 (n := 2) (z := x0.toInt) rfl] at db70
  obtain ⟨xb70, sb70, rfl, cb70, gb70⟩ := hskb7.cons
  obtain ⟨xb71, sb71, rfl, cb71, gb71⟩ := gb70.cons
  obtain ⟨xb72, sb72, rfl, cb72, gb72⟩ := gb71.cons
  cases gb72.nil
  obtain ⟨ub70, rfl, wb70⟩ := dvn cb70 (hxb7.at (k := 0) rfl)
  obtain ⟨ub71, rfl, wb71⟩ := dvn cb71 (hxb7.at (k := 3) rfl)
  obtain ⟨ub72, rfl, wb72⟩ := dvn cb72 (hxb7.at (k := 2) rfl)
  have eb7 : yb70 = x0 := Int32.toInt_inj.mp (by omega)
  rw [eb7]
  have fb7_0 : ub70 = 1431655765 := Int32.toInt_inj.mp (by rw [show ub70.toInt = 1431655765 by omega]; decide)
  rw [fb7_0]
  have fb7_1 : ub71 = x3 := Int32.toInt_inj.mp (by omega)
  rw [fb7_1]
  have fb7_2 : ub72 = x0 := Int32.toInt_inj.mp (by omega)
  rw [fb7_2]
  refine hiand (pc := 7) C (tv_m170.1.1.1 (7, .iand, 1) (List.mem_of_getElem? (i := 5) rfl)) ?_
  generalize d7 : (x3 &&& (1431655765 : Int32)) = x7
  have r8_2 := ai_irg x0
  have r8_3 := ai_irg x7
  refine hsum (st := (8, [(0, (1, 2, 0, 0))], [(1, 3, 0, 0), (1, 2, 0, 0)], [(0, 0, false, 0, 0), (0, 2555, false, 1, 0), (-2147483648, 2147483647, false, 2, 0), (-2147483648, 2147483647, false, 3, 0)], [], [])) bc_s8 rfl C (r := [0, 0, x0.toInt, x7.toInt]) ⟨en_mk (by simp only [en_b, and_true]; omega) rfl, sb0, ⟨rfl, int_dv (z := x0.toInt) rfl (by omega), trivial⟩, ⟨int_dv (z := x7.toInt) rfl (by omega), int_dv (z := x0.toInt) rfl (by omega), trivial⟩, hwb7, k0, fun _ _ _ _ h => h, fun h => by cases h⟩ (fun x hx rb8 lvb8 stb8 wsb8 hxb8 hbb8 hlb8 hsb8 hlob8 hskb8 hwb8 hVb8 hfb8 _ => ?_)
  have hx9 := List.mem_singleton.mp hx
  subst hx9
  dsimp only at hlob8 hskb8 ⊢
  obtain ⟨yb80, lb80, rfl, db80, pb80⟩ := lo_int rfl hlob8
  cases lo_nil pb80
  rw [vn_at hxb8 (n := 2) (z := x0.toInt) rfl] at db80
  obtain ⟨xb80, sb80, rfl, cb80, gb80⟩ := hskb8.cons
  obtain ⟨xb81, sb81, rfl, cb81, gb81⟩ := gb80.cons
  cases gb81.nil
  obtain ⟨ub80, rfl, wb80⟩ := dvn cb80 (hxb8.at (k := 3) rfl)
  obtain ⟨ub81, rfl, wb81⟩ := dvn cb81 (hxb8.at (k := 2) rfl)
  have eb8 : yb80 = x0 := Int32.toInt_inj.mp (by omega)
  rw [eb8]
  have fb8_0 : ub80 = x7 := Int32.toInt_inj.mp (by omega)
  rw [fb8_0]
  have fb8_1 : ub81 = x0 := Int32.toInt_inj.mp (by omega)
  rw [fb8_1]
  refine hbsub (pc := 8) C (tv_m170.1.1.1 (8, .isub, 1) (List.mem_of_getElem? (i := 6) rfl)) ?_
  generalize d8 : (x0 - x7) = x8
  have r9_2 := ai_irg x0
  have r9_3 := ai_irg x8
  refine hsum (st := (9, [(0, (1, 2, 0, 0))], [(1, 3, 0, 0)], [(0, 0, false, 0, 0), (0, 2555, false, 1, 0), (-2147483648, 2147483647, false, 2, 0), (-2147483648, 2147483647, false, 3, 0)], [], [])) bc_s14 rfl C (r := [0, 0, x0.toInt, x8.toInt]) ⟨en_mk (by simp only [en_b, and_true]; omega) rfl, sb0, ⟨rfl, int_dv (z := x0.toInt) rfl (by omega), trivial⟩, ⟨int_dv (z := x8.toInt) rfl (by omega), trivial⟩, hwb8, k0, fun _ _ _ _ h => h, fun h => by cases h⟩ (fun x hx rb14 lvb14 stb14 wsb14 hxb14 hbb14 hlb14 hsb14 hlob14 hskb14 hwb14 hVb14 hfb14 _ => ?_)
  have hx9 := List.mem_singleton.mp hx
  subst hx9
  dsimp only at hlob14 hskb14 ⊢
  obtain ⟨yb140, lb140, rfl, db140, pb140⟩ := lo_int rfl hlob14
  cases lo_nil pb140
  rw [vn_at hxb14 (n := 3) (z := x8.toInt) rfl] at db140
  obtain ⟨xb140, sb140, rfl, cb140, gb140⟩ := hskb14.cons
  obtain ⟨xb141, sb141, rfl, cb141, gb141⟩ := gb140.cons
  cases gb141.nil
  obtain ⟨ub140, rfl, wb140⟩ := dvn cb140 (hxb14.at (k := 0) rfl)
  obtain ⟨ub141, rfl, wb141⟩ := dvn cb141 (hxb14.at (k := 3) rfl)
  have eb14 : yb140 = x8 := Int32.toInt_inj.mp (by omega)
  rw [eb14]
  have fb14_0 : ub140 = 858993459 := Int32.toInt_inj.mp (by rw [show ub140.toInt = 858993459 by omega]; decide)
  rw [fb14_0]
  have fb14_1 : ub141 = x8 := Int32.toInt_inj.mp (by omega)
  rw [fb14_1]
  refine hiand (pc := 14) C (tv_m170.1.1.1 (14, .iand, 1) (List.mem_of_getElem? (i := 10) rfl)) ?_
  generalize d14 : (x8 &&& (858993459 : Int32)) = x14
  have r15_2 := ai_irg x8
  have r15_3 := ai_irg x14
  refine hsum (st := (15, [(0, (1, 2, 0, 0))], [(1, 3, 0, 0)], [(0, 0, false, 0, 0), (0, 2555, false, 1, 0), (-2147483648, 2147483647, false, 2, 0), (-2147483648, 2147483647, false, 3, 0)], [], [])) bc_s17 rfl C (r := [0, 0, x8.toInt, x14.toInt]) ⟨en_mk (by simp only [en_b, and_true]; omega) rfl, sb0, ⟨rfl, int_dv (z := x8.toInt) rfl (by omega), trivial⟩, ⟨int_dv (z := x14.toInt) rfl (by omega), trivial⟩, hwb14, k0, fun _ _ _ _ h => h, fun h => by cases h⟩ (fun x hx rb17 lvb17 stb17 wsb17 hxb17 hbb17 hlb17 hsb17 hlob17 hskb17 hwb17 hVb17 hfb17 _ => ?_)
  have hx9 := List.mem_singleton.mp hx
  subst hx9
  dsimp only at hlob17 hskb17 ⊢
  obtain ⟨yb170, lb170, rfl, db170, pb170⟩ := lo_int rfl hlob17
  cases lo_nil pb170
  rw [vn_at hxb17 (n := 2) (z := x8.toInt) rfl] at db170
  obtain ⟨xb170, sb170, rfl, cb170, gb170⟩ := hskb17.cons
  obtain ⟨xb171, sb171, rfl, cb171, gb171⟩ := gb170.cons
  obtain ⟨xb172, sb172, rfl, cb172, gb172⟩ := gb171.cons
  cases gb172.nil
  obtain ⟨ub170, rfl, wb170⟩ := dvn cb170 (hxb17.at (k := 0) rfl)
  obtain ⟨ub171, rfl, wb171⟩ := dvn cb171 (hxb17.at (k := 2) rfl)
  obtain ⟨ub172, rfl, wb172⟩ := dvn cb172 (hxb17.at (k := 3) rfl)
  have eb17 : yb170 = x8 := Int32.toInt_inj.mp (by omega)
  rw [eb17]
  have fb17_0 : ub170 = 2 := Int32.toInt_inj.mp (by rw [show ub170.toInt = 2 by omega]; decide)
  rw [fb17_0]
  have fb17_1 : ub171 = x8 := Int32.toInt_inj.mp (by omega)
  rw [fb17_1]
  have fb17_2 : ub172 = x14 := Int32.toInt_inj.mp (by omega)
  rw [fb17_2]
  refine hbush (pc := 17) C (tv_m170.1.1.1 (17, .iushr, 1) (List.mem_of_getElem? (i := 13) rfl)) ?_
  generalize d17 : (x8.toUInt32 >>> ((2 : Int32).toUInt32 &&& Int32.toUInt32 31)).toInt32 = x17
  have r18_2 := ai_irg x8
  have r18_3 := ai_irg x17
  have r18_4 := ai_irg x14
  refine hsum (st := (18, [(0, (1, 2, 0, 0))], [(1, 3, 0, 0), (1, 4, 0, 0)], [(0, 0, false, 0, 0), (0, 2555, false, 1, 0), (-2147483648, 2147483647, false, 2, 0), (-2147483648, 2147483647, false, 3, 0), (-2147483648, 2147483647, false, 4, 0)], [], [])) bc_s21 rfl C (r := [0, 0, x8.toInt, x17.toInt, x14.toInt]) ⟨en_mk (by simp only [en_b, and_true]; omega) rfl, sb0, ⟨rfl, int_dv (z := x8.toInt) rfl (by omega), trivial⟩, ⟨int_dv (z := x17.toInt) rfl (by omega), int_dv (z := x14.toInt) rfl (by omega), trivial⟩, hwb17, k0, fun _ _ _ _ h => h, fun h => by cases h⟩ (fun x hx rb21 lvb21 stb21 wsb21 hxb21 hbb21 hlb21 hsb21 hlob21 hskb21 hwb21 hVb21 hfb21 _ => ?_)
  have hx9 := List.mem_singleton.mp hx
  subst hx9
  dsimp only at hlob21 hskb21 ⊢
  obtain ⟨yb210, lb210, rfl, db210, pb210⟩ := lo_int rfl hlob21
  cases lo_nil pb210
  rw [vn_at hxb21 (n := 2) (z := x8.toInt) rfl] at db210
  obtain ⟨xb210, sb210, rfl, cb210, gb210⟩ := hskb21.cons
  obtain ⟨xb211, sb211, rfl, cb211, gb211⟩ := gb210.cons
  obtain ⟨xb212, sb212, rfl, cb212, gb212⟩ := gb211.cons
  cases gb212.nil
  obtain ⟨ub210, rfl, wb210⟩ := dvn cb210 (hxb21.at (k := 0) rfl)
  obtain ⟨ub211, rfl, wb211⟩ := dvn cb211 (hxb21.at (k := 3) rfl)
  obtain ⟨ub212, rfl, wb212⟩ := dvn cb212 (hxb21.at (k := 4) rfl)
  have eb21 : yb210 = x8 := Int32.toInt_inj.mp (by omega)
  rw [eb21]
  have fb21_0 : ub210 = 858993459 := Int32.toInt_inj.mp (by rw [show ub210.toInt = 858993459 by omega]; decide)
  rw [fb21_0]
  have fb21_1 : ub211 = x17 := Int32.toInt_inj.mp (by omega)
  rw [fb21_1]
  have fb21_2 : ub212 = x14 := Int32.toInt_inj.mp (by omega)
  rw [fb21_2]
  refine hiand (pc := 21) C (tv_m170.1.1.1 (21, .iand, 1) (List.mem_of_getElem? (i := 15) rfl)) ?_
  generalize d21 : (x17 &&& (858993459 : Int32)) = x21
  have r22_2 := ai_irg x8
  have r22_3 := ai_irg x21
  have r22_4 := ai_irg x14
  refine hsum (st := (22, [(0, (1, 2, 0, 0))], [(1, 3, 0, 0), (1, 4, 0, 0)], [(0, 0, false, 0, 0), (0, 2555, false, 1, 0), (-2147483648, 2147483647, false, 2, 0), (-2147483648, 2147483647, false, 3, 0), (-2147483648, 2147483647, false, 4, 0)], [], [])) bc_s22 rfl C (r := [0, 0, x8.toInt, x21.toInt, x14.toInt]) ⟨en_mk (by simp only [en_b, and_true]; omega) rfl, sb0, ⟨rfl, int_dv (z := x8.toInt) rfl (by omega), trivial⟩, ⟨int_dv (z := x21.toInt) rfl (by omega), int_dv (z := x14.toInt) rfl (by omega), trivial⟩, hwb21, k0, fun _ _ _ _ h => h, fun h => by cases h⟩ (fun x hx rb22 lvb22 stb22 wsb22 hxb22 hbb22 hlb22 hsb22 hlob22 hskb22 hwb22 hVb22 hfb22 _ => ?_)
  have hx9 := List.mem_singleton.mp hx
  subst hx9
  dsimp only at hlob22 hskb22 ⊢
  obtain ⟨yb220, lb220, rfl, db220, pb220⟩ := lo_int rfl hlob22
  cases lo_nil pb220
  rw [vn_at hxb22 (n := 2) (z := x8.toInt) rfl] at db220
  obtain ⟨xb220, sb220, rfl, cb220, gb220⟩ := hskb22.cons
  obtain ⟨xb221, sb221, rfl, cb221, gb221⟩ := gb220.cons
  cases gb221.nil
  obtain ⟨ub220, rfl, wb220⟩ := dvn cb220 (hxb22.at (k := 3) rfl)
  obtain ⟨ub221, rfl, wb221⟩ := dvn cb221 (hxb22.at (k := 4) rfl)
  have eb22 : yb220 = x8 := Int32.toInt_inj.mp (by omega)
  rw [eb22]
  have fb22_0 : ub220 = x21 := Int32.toInt_inj.mp (by omega)
  rw [fb22_0]
  have fb22_1 : ub221 = x14 := Int32.toInt_inj.mp (by omega)
  rw [fb22_1]
  refine hbadd (pc := 22) C (tv_m170.1.1.1 (22, .iadd, 1) (List.mem_of_getElem? (i := 16) rfl)) ?_
  generalize d22 : (x14 + x21) = x22
  have r23_2 := ai_irg x8
  have r23_3 := ai_irg x22
  refine hsum (st := (23, [(0, (1, 2, 0, 0))], [(1, 3, 0, 0)], [(0, 0, false, 0, 0), (0, 2555, false, 1, 0), (-2147483648, 2147483647, false, 2, 0), (-2147483648, 2147483647, false, 3, 0)], [], [])) bc_s27 rfl C (r := [0, 0, x8.toInt, x22.toInt]) ⟨en_mk (by simp only [en_b, and_true]; omega) rfl, sb0, ⟨rfl, int_dv (z := x8.toInt) rfl (by omega), trivial⟩, ⟨int_dv (z := x22.toInt) rfl (by omega), trivial⟩, hwb22, k0, fun _ _ _ _ h => h, fun h => by cases h⟩ (fun x hx rb27 lvb27 stb27 wsb27 hxb27 hbb27 hlb27 hsb27 hlob27 hskb27 hwb27 hVb27 hfb27 _ => ?_)
  have hx9 := List.mem_singleton.mp hx
  subst hx9
  dsimp only at hlob27 hskb27 ⊢
  obtain ⟨yb270, lb270, rfl, db270, pb270⟩ := lo_int rfl hlob27
  cases lo_nil pb270
  rw [vn_at hxb27 (n := 3) (z := x22.toInt) rfl] at db270
  obtain ⟨xb270, sb270, rfl, cb270, gb270⟩ := hskb27.cons
  obtain ⟨xb271, sb271, rfl, cb271, gb271⟩ := gb270.cons
  obtain ⟨xb272, sb272, rfl, cb272, gb272⟩ := gb271.cons
  cases gb272.nil
  obtain ⟨ub270, rfl, wb270⟩ := dvn cb270 (hxb27.at (k := 0) rfl)
  obtain ⟨ub271, rfl, wb271⟩ := dvn cb271 (hxb27.at (k := 3) rfl)
  obtain ⟨ub272, rfl, wb272⟩ := dvn cb272 (hxb27.at (k := 3) rfl)
  have eb27 : yb270 = x22 := Int32.toInt_inj.mp (by omega)
  rw [eb27]
  have fb27_0 : ub270 = 4 := Int32.toInt_inj.mp (by rw [show ub270.toInt = 4 by omega]; decide)
  rw [fb27_0]
  have fb27_1 : ub271 = x22 := Int32.toInt_inj.mp (by omega)
  rw [fb27_1]
  have fb27_2 : ub272 = x22 := Int32.toInt_inj.mp (by omega)
  rw [fb27_2]
  refine hbush (pc := 27) C (tv_m170.1.1.1 (27, .iushr, 1) (List.mem_of_getElem? (i := 21) rfl)) ?_
  generalize d27 : (x22.toUInt32 >>> ((4 : Int32).toUInt32 &&& Int32.toUInt32 31)).toInt32 = x27
  have r28_2 := ai_irg x22
  have r28_3 := ai_irg x27
  refine hsum (st := (28, [(0, (1, 2, 0, 0))], [(1, 3, 0, 0), (1, 2, 0, 0)], [(0, 0, false, 0, 0), (0, 2555, false, 1, 0), (-2147483648, 2147483647, false, 2, 0), (-2147483648, 2147483647, false, 3, 0)], [], [])) bc_s28 rfl C (r := [0, 0, x22.toInt, x27.toInt]) ⟨en_mk (by simp only [en_b, and_true]; omega) rfl, sb0, ⟨rfl, int_dv (z := x22.toInt) rfl (by omega), trivial⟩, ⟨int_dv (z := x27.toInt) rfl (by omega), int_dv (z := x22.toInt) rfl (by omega), trivial⟩, hwb27, k0, fun _ _ _ _ h => h, fun h => by cases h⟩ (fun x hx rb28 lvb28 stb28 wsb28 hxb28 hbb28 hlb28 hsb28 hlob28 hskb28 hwb28 hVb28 hfb28 _ => ?_)
  have hx9 := List.mem_singleton.mp hx
  subst hx9
  dsimp only at hlob28 hskb28 ⊢
  obtain ⟨yb280, lb280, rfl, db280, pb280⟩ := lo_int rfl hlob28
  cases lo_nil pb280
  rw [vn_at hxb28 (n := 2) (z := x22.toInt) rfl] at db280
  obtain ⟨xb280, sb280, rfl, cb280, gb280⟩ := hskb28.cons
  obtain ⟨xb281, sb281, rfl, cb281, gb281⟩ := gb280.cons
  cases gb281.nil
  obtain ⟨ub280, rfl, wb280⟩ := dvn cb280 (hxb28.at (k := 3) rfl)
  obtain ⟨ub281, rfl, wb281⟩ := dvn cb281 (hxb28.at (k := 2) rfl)
  have eb28 : yb280 = x22 := Int32.toInt_inj.mp (by omega)
  rw [eb28]
  have fb28_0 : ub280 = x27 := Int32.toInt_inj.mp (by omega)
  rw [fb28_0]
  have fb28_1 : ub281 = x22 := Int32.toInt_inj.mp (by omega)
  rw [fb28_1]
  refine hbadd (pc := 28) C (tv_m170.1.1.1 (28, .iadd, 1) (List.mem_of_getElem? (i := 22) rfl)) ?_
  generalize d28 : (x22 + x27) = x28
  have r29_2 := ai_irg x22
  have r29_3 := ai_irg x28
  refine hsum (st := (29, [(0, (1, 2, 0, 0))], [(1, 3, 0, 0)], [(0, 0, false, 0, 0), (0, 2555, false, 1, 0), (-2147483648, 2147483647, false, 2, 0), (-2147483648, 2147483647, false, 3, 0)], [], [])) bc_s32 rfl C (r := [0, 0, x22.toInt, x28.toInt]) ⟨en_mk (by simp only [en_b, and_true]; omega) rfl, sb0, ⟨rfl, int_dv (z := x22.toInt) rfl (by omega), trivial⟩, ⟨int_dv (z := x28.toInt) rfl (by omega), trivial⟩, hwb28, k0, fun _ _ _ _ h => h, fun h => by cases h⟩ (fun x hx rb32 lvb32 stb32 wsb32 hxb32 hbb32 hlb32 hsb32 hlob32 hskb32 hwb32 hVb32 hfb32 _ => ?_)
  have hx9 := List.mem_singleton.mp hx
  subst hx9
  dsimp only at hlob32 hskb32 ⊢
  obtain ⟨yb320, lb320, rfl, db320, pb320⟩ := lo_int rfl hlob32
  cases lo_nil pb320
  rw [vn_at hxb32 (n := 2) (z := x22.toInt) rfl] at db320
  obtain ⟨xb320, sb320, rfl, cb320, gb320⟩ := hskb32.cons
  obtain ⟨xb321, sb321, rfl, cb321, gb321⟩ := gb320.cons
  cases gb321.nil
  obtain ⟨ub320, rfl, wb320⟩ := dvn cb320 (hxb32.at (k := 0) rfl)
  obtain ⟨ub321, rfl, wb321⟩ := dvn cb321 (hxb32.at (k := 3) rfl)
  have eb32 : yb320 = x22 := Int32.toInt_inj.mp (by omega)
  rw [eb32]
  have fb32_0 : ub320 = 252645135 := Int32.toInt_inj.mp (by rw [show ub320.toInt = 252645135 by omega]; decide)
  rw [fb32_0]
  have fb32_1 : ub321 = x28 := Int32.toInt_inj.mp (by omega)
  rw [fb32_1]
  refine hiand (pc := 32) C (tv_m170.1.1.1 (32, .iand, 1) (List.mem_of_getElem? (i := 24) rfl)) ?_
  generalize d32 : (x28 &&& (252645135 : Int32)) = x32
  have r33_2 := ai_irg x22
  have r33_3 := ai_irg x32
  refine hsum (st := (33, [(0, (1, 2, 0, 0))], [(1, 3, 0, 0)], [(0, 0, false, 0, 0), (0, 2555, false, 1, 0), (-2147483648, 2147483647, false, 2, 0), (-2147483648, 2147483647, false, 3, 0)], [], [])) bc_s38 rfl C (r := [0, 0, x22.toInt, x32.toInt]) ⟨en_mk (by simp only [en_b, and_true]; omega) rfl, sb0, ⟨rfl, int_dv (z := x22.toInt) rfl (by omega), trivial⟩, ⟨int_dv (z := x32.toInt) rfl (by omega), trivial⟩, hwb32, k0, fun _ _ _ _ h => h, fun h => by cases h⟩ (fun x hx rb38 lvb38 stb38 wsb38 hxb38 hbb38 hlb38 hsb38 hlob38 hskb38 hwb38 hVb38 hfb38 _ => ?_)
  have hx9 := List.mem_singleton.mp hx
  subst hx9
  dsimp only at hlob38 hskb38 ⊢
  obtain ⟨yb380, lb380, rfl, db380, pb380⟩ := lo_int rfl hlob38
  cases lo_nil pb380
  rw [vn_at hxb38 (n := 3) (z := x32.toInt) rfl] at db380
  obtain ⟨xb380, sb380, rfl, cb380, gb380⟩ := hskb38.cons
  obtain ⟨xb381, sb381, rfl, cb381, gb381⟩ := gb380.cons
  obtain ⟨xb382, sb382, rfl, cb382, gb382⟩ := gb381.cons
  cases gb382.nil
  obtain ⟨ub380, rfl, wb380⟩ := dvn cb380 (hxb38.at (k := 0) rfl)
  obtain ⟨ub381, rfl, wb381⟩ := dvn cb381 (hxb38.at (k := 3) rfl)
  obtain ⟨ub382, rfl, wb382⟩ := dvn cb382 (hxb38.at (k := 3) rfl)
  have eb38 : yb380 = x32 := Int32.toInt_inj.mp (by omega)
  rw [eb38]
  have fb38_0 : ub380 = 8 := Int32.toInt_inj.mp (by rw [show ub380.toInt = 8 by omega]; decide)
  rw [fb38_0]
  have fb38_1 : ub381 = x32 := Int32.toInt_inj.mp (by omega)
  rw [fb38_1]
  have fb38_2 : ub382 = x32 := Int32.toInt_inj.mp (by omega)
  rw [fb38_2]
  refine hbush (pc := 38) C (tv_m170.1.1.1 (38, .iushr, 1) (List.mem_of_getElem? (i := 29) rfl)) ?_
  generalize d38 : (x32.toUInt32 >>> ((8 : Int32).toUInt32 &&& Int32.toUInt32 31)).toInt32 = x38
  have r39_2 := ai_irg x32
  have r39_3 := ai_irg x38
  refine hsum (st := (39, [(0, (1, 2, 0, 0))], [(1, 3, 0, 0), (1, 2, 0, 0)], [(0, 0, false, 0, 0), (0, 2555, false, 1, 0), (-2147483648, 2147483647, false, 2, 0), (-2147483648, 2147483647, false, 3, 0)], [], [])) bc_s39 rfl C (r := [0, 0, x32.toInt, x38.toInt]) ⟨en_mk (by simp only [en_b, and_true]; omega) rfl, sb0, ⟨rfl, int_dv (z := x32.toInt) rfl (by omega), trivial⟩, ⟨int_dv (z := x38.toInt) rfl (by omega), int_dv (z := x32.toInt) rfl (by omega), trivial⟩, hwb38, k0, fun _ _ _ _ h => h, fun h => by cases h⟩ (fun x hx rb39 lvb39 stb39 wsb39 hxb39 hbb39 hlb39 hsb39 hlob39 hskb39 hwb39 hVb39 hfb39 _ => ?_)
  have hx9 := List.mem_singleton.mp hx
  subst hx9
  dsimp only at hlob39 hskb39 ⊢
  obtain ⟨yb390, lb390, rfl, db390, pb390⟩ := lo_int rfl hlob39
  cases lo_nil pb390
  rw [vn_at hxb39 (n := 2) (z := x32.toInt) rfl] at db390
  obtain ⟨xb390, sb390, rfl, cb390, gb390⟩ := hskb39.cons
  obtain ⟨xb391, sb391, rfl, cb391, gb391⟩ := gb390.cons
  cases gb391.nil
  obtain ⟨ub390, rfl, wb390⟩ := dvn cb390 (hxb39.at (k := 3) rfl)
  obtain ⟨ub391, rfl, wb391⟩ := dvn cb391 (hxb39.at (k := 2) rfl)
  have eb39 : yb390 = x32 := Int32.toInt_inj.mp (by omega)
  rw [eb39]
  have fb39_0 : ub390 = x38 := Int32.toInt_inj.mp (by omega)
  rw [fb39_0]
  have fb39_1 : ub391 = x32 := Int32.toInt_inj.mp (by omega)
  rw [fb39_1]
  refine hbadd (pc := 39) C (tv_m170.1.1.1 (39, .iadd, 1) (List.mem_of_getElem? (i := 30) rfl)) ?_
  generalize d39 : (x32 + x38) = x39
  have r40_2 := ai_irg x32
  have r40_3 := ai_irg x39
  refine hsum (st := (40, [(0, (1, 2, 0, 0))], [(1, 3, 0, 0)], [(0, 0, false, 0, 0), (0, 2555, false, 1, 0), (-2147483648, 2147483647, false, 2, 0), (-2147483648, 2147483647, false, 3, 0)], [], [])) bc_s45 rfl C (r := [0, 0, x32.toInt, x39.toInt]) ⟨en_mk (by simp only [en_b, and_true]; omega) rfl, sb0, ⟨rfl, int_dv (z := x32.toInt) rfl (by omega), trivial⟩, ⟨int_dv (z := x39.toInt) rfl (by omega), trivial⟩, hwb39, k0, fun _ _ _ _ h => h, fun h => by cases h⟩ (fun x hx rb45 lvb45 stb45 wsb45 hxb45 hbb45 hlb45 hsb45 hlob45 hskb45 hwb45 hVb45 hfb45 _ => ?_)
  have hx9 := List.mem_singleton.mp hx
  subst hx9
  dsimp only at hlob45 hskb45 ⊢
  obtain ⟨yb450, lb450, rfl, db450, pb450⟩ := lo_int rfl hlob45
  cases lo_nil pb450
  rw [vn_at hxb45 (n := 3) (z := x39.toInt) rfl] at db450
  obtain ⟨xb450, sb450, rfl, cb450, gb450⟩ := hskb45.cons
  obtain ⟨xb451, sb451, rfl, cb451, gb451⟩ := gb450.cons
  obtain ⟨xb452, sb452, rfl, cb452, gb452⟩ := gb451.cons
  cases gb452.nil
  obtain ⟨ub450, rfl, wb450⟩ := dvn cb450 (hxb45.at (k := 0) rfl)
  obtain ⟨ub451, rfl, wb451⟩ := dvn cb451 (hxb45.at (k := 3) rfl)
  obtain ⟨ub452, rfl, wb452⟩ := dvn cb452 (hxb45.at (k := 3) rfl)
  have eb45 : yb450 = x39 := Int32.toInt_inj.mp (by omega)
  rw [eb45]
  have fb45_0 : ub450 = 16 := Int32.toInt_inj.mp (by rw [show ub450.toInt = 16 by omega]; decide)
  rw [fb45_0]
  have fb45_1 : ub451 = x39 := Int32.toInt_inj.mp (by omega)
  rw [fb45_1]
  have fb45_2 : ub452 = x39 := Int32.toInt_inj.mp (by omega)
  rw [fb45_2]
  refine hbush (pc := 45) C (tv_m170.1.1.1 (45, .iushr, 1) (List.mem_of_getElem? (i := 35) rfl)) ?_
  generalize d45 : (x39.toUInt32 >>> ((16 : Int32).toUInt32 &&& Int32.toUInt32 31)).toInt32 = x45
  have r46_2 := ai_irg x39
  have r46_3 := ai_irg x45
  refine hsum (st := (46, [(0, (1, 2, 0, 0))], [(1, 3, 0, 0), (1, 2, 0, 0)], [(0, 0, false, 0, 0), (0, 2555, false, 1, 0), (-2147483648, 2147483647, false, 2, 0), (-2147483648, 2147483647, false, 3, 0)], [], [])) bc_s46 rfl C (r := [0, 0, x39.toInt, x45.toInt]) ⟨en_mk (by simp only [en_b, and_true]; omega) rfl, sb0, ⟨rfl, int_dv (z := x39.toInt) rfl (by omega), trivial⟩, ⟨int_dv (z := x45.toInt) rfl (by omega), int_dv (z := x39.toInt) rfl (by omega), trivial⟩, hwb45, k0, fun _ _ _ _ h => h, fun h => by cases h⟩ (fun x hx rb46 lvb46 stb46 wsb46 hxb46 hbb46 hlb46 hsb46 hlob46 hskb46 hwb46 hVb46 hfb46 _ => ?_)
  have hx9 := List.mem_singleton.mp hx
  subst hx9
  dsimp only at hlob46 hskb46 ⊢
  obtain ⟨yb460, lb460, rfl, db460, pb460⟩ := lo_int rfl hlob46
  cases lo_nil pb460
  rw [vn_at hxb46 (n := 2) (z := x39.toInt) rfl] at db460
  obtain ⟨xb460, sb460, rfl, cb460, gb460⟩ := hskb46.cons
  obtain ⟨xb461, sb461, rfl, cb461, gb461⟩ := gb460.cons
  cases gb461.nil
  obtain ⟨ub460, rfl, wb460⟩ := dvn cb460 (hxb46.at (k := 3) rfl)
  obtain ⟨ub461, rfl, wb461⟩ := dvn cb461 (hxb46.at (k := 2) rfl)
  have eb46 : yb460 = x39 := Int32.toInt_inj.mp (by omega)
  rw [eb46]
  have fb46_0 : ub460 = x45 := Int32.toInt_inj.mp (by omega)
  rw [fb46_0]
  have fb46_1 : ub461 = x39 := Int32.toInt_inj.mp (by omega)
  rw [fb46_1]
  refine hbadd (pc := 46) C (tv_m170.1.1.1 (46, .iadd, 1) (List.mem_of_getElem? (i := 36) rfl)) ?_
  generalize d46 : (x39 + x45) = x46
  have r47_2 := ai_irg x39
  have r47_3 := ai_irg x46
  refine hsum (st := (47, [(0, (1, 2, 0, 0))], [(1, 3, 0, 0)], [(0, 0, false, 0, 0), (0, 2555, false, 1, 0), (-2147483648, 2147483647, false, 2, 0), (-2147483648, 2147483647, false, 3, 0)], [], [])) bc_s51 rfl C (r := [0, 0, x39.toInt, x46.toInt]) ⟨en_mk (by simp only [en_b, and_true]; omega) rfl, sb0, ⟨rfl, int_dv (z := x39.toInt) rfl (by omega), trivial⟩, ⟨int_dv (z := x46.toInt) rfl (by omega), trivial⟩, hwb46, k0, fun _ _ _ _ h => h, fun h => by cases h⟩ (fun x hx rb51 lvb51 stb51 wsb51 hxb51 hbb51 hlb51 hsb51 hlob51 hskb51 hwb51 hVb51 hfb51 _ => ?_)
  have hx9 := List.mem_singleton.mp hx
  subst hx9
  dsimp only at hlob51 hskb51 ⊢
  obtain ⟨yb510, lb510, rfl, db510, pb510⟩ := lo_int rfl hlob51
  cases lo_nil pb510
  rw [vn_at hxb51 (n := 3) (z := x46.toInt) rfl] at db510
  obtain ⟨xb510, sb510, rfl, cb510, gb510⟩ := hskb51.cons
  obtain ⟨xb511, sb511, rfl, cb511, gb511⟩ := gb510.cons
  cases gb511.nil
  obtain ⟨ub510, rfl, wb510⟩ := dvn cb510 (hxb51.at (k := 0) rfl)
  obtain ⟨ub511, rfl, wb511⟩ := dvn cb511 (hxb51.at (k := 3) rfl)
  have eb51 : yb510 = x46 := Int32.toInt_inj.mp (by omega)
  rw [eb51]
  have fb51_0 : ub510 = 63 := Int32.toInt_inj.mp (by rw [show ub510.toInt = 63 by omega]; decide)
  rw [fb51_0]
  have fb51_1 : ub511 = x46 := Int32.toInt_inj.mp (by omega)
  rw [fb51_1]
  refine hiand (pc := 51) C (tv_m170.1.1.1 (51, .iand, 1) (List.mem_of_getElem? (i := 40) rfl)) ?_
  generalize d51 : (x46 &&& (63 : Int32)) = x51
  have r52_2 := ai_irg x46
  have r52_3 := ai_irg x51
  refine hsum (st := (52, [(0, (1, 2, 0, 0))], [(1, 3, 0, 0)], [(0, 0, false, 0, 0), (0, 2555, false, 1, 0), (-2147483648, 2147483647, false, 2, 0), (-2147483648, 2147483647, false, 3, 0)], [], [])) bc_s52 rfl C (r := [0, 0, x46.toInt, x51.toInt]) ⟨en_mk (by simp only [en_b, and_true]; omega) rfl, sb0, ⟨rfl, int_dv (z := x46.toInt) rfl (by omega), trivial⟩, ⟨int_dv (z := x51.toInt) rfl (by omega), trivial⟩, hwb51, k0, fun _ _ _ _ h => h, fun h => by cases h⟩ (fun x hx rb52 lvb52 stb52 wsb52 hxb52 hbb52 hlb52 hsb52 hlob52 hskb52 hwb52 hVb52 hfb52 _ => ?_)
  have hx9 := List.mem_singleton.mp hx
  subst hx9
  dsimp only at hlob52 hskb52 ⊢
  obtain ⟨yb520, lb520, rfl, db520, pb520⟩ := lo_int rfl hlob52
  cases lo_nil pb520
  rw [vn_at hxb52 (n := 2) (z := x46.toInt) rfl] at db520
  obtain ⟨xb520, sb520, rfl, cb520, gb520⟩ := hskb52.cons
  cases gb520.nil
  obtain ⟨ub520, rfl, wb520⟩ := dvn cb520 (hxb52.at (k := 3) rfl)
  have eb52 : yb520 = x46 := Int32.toInt_inj.mp (by omega)
  rw [eb52]
  have fb52_0 : ub520 = x51 := Int32.toInt_inj.mp (by omega)
  refine kk wsb52 _ _ hwb52 (((((((((((((((hfb3.tr hfb7).tr hfb8).tr hfb14).tr hfb17).tr hfb21).tr hfb22).tr hfb27).tr hfb28).tr hfb32).tr hfb38).tr hfb39).tr hfb45).tr hfb46).tr hfb51).tr hfb52) ?_
  rw [fb52_0, ← bcE_ok aa haa, ← i32_of (by omega) ex]
  subst d51 d46 d45 d39 d38 d32 d28 d27 d22 d21 d17 d14 d8 d7 d3
  rfl
end XBC
