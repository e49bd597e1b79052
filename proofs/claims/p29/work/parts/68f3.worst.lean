def aw_x_S : List sm_t := [
  (53, [], [(1, 4, 0, 0)], [], [(0, 0, false, 0, 0), (0, 2555, false, 1, 0), (1, 20, false, 2, 0), (0, 99, false, 3, 0), (0, 4, false, 4, 0)], [])]
theorem aw_x : ((ai_ex (hk []) 300 83 tb_m83 9 [] (7, [(1, (1, 2, 0, 0)), (3, (1, 4, 0, 0)), (4, (1, 0, 0, 4))], [(1, 0, 0, 4)], [(0, 0, false, 0, 0), (0, 2555, false, 1, 0), (1, 20, false, 2, 0), (0, 99, false, 3, 0), (0, 4, false, 4, 0)], [], [])).any fun xs => xs.all fun x => (aw_x_S : List sm_t).any fun y => sm_is [] x y) = true := by decide +kernel
theorem aw_b0 : ∀ a, a < 16 → (a.testBit 0 = true → a ∈ ([1, 3, 5, 7, 9, 11, 13, 15] : List Nat)) ∧ (¬ a.testBit 0 = true → a ∈ ([0, 2, 4, 6, 8, 10, 12, 14] : List Nat)) := by decide +kernel
def aw_01_S (aa : Nat) : List sm_t := [
  (35, [(0, (1, 0, 0, (aa : Int))), (1, (1, 2, 0, 0)), (2, (1, 3, 0, 0)), (3, (1, 4, 0, 0)), (4, (1, 0, 0, 0))], [(1, 3, 0, 0), (1, 2, 0, 0), (1, 2, 0, 0), (1, 0, 0, (aa : Int)), (1, 4, 0, 0)], [], [(0, 0, false, 0, 0), (0, 2555, false, 1, 0), (1, 20, false, 2, 0), (0, 99, false, 3, 0), (0, 4, false, 4, 0)], [])]
theorem aw_01 : (([1, 3, 5, 7, 9, 11, 13, 15] : List Nat).all fun aa => (ai_ex (hk []) 300 83 tb_m83 9 [5, 35] (7, [(0, (1, 0, 0, (aa : Int))), (1, (1, 2, 0, 0)), (2, (1, 3, 0, 0)), (3, (1, 4, 0, 0)), (4, (1, 0, 0, 0))], [(1, 0, 0, 0)], [(0, 0, false, 0, 0), (0, 2555, false, 1, 0), (1, 20, false, 2, 0), (0, 99, false, 3, 0), (0, 4, false, 4, 0)], [], [])).any fun xs => xs.all fun x => (aw_01_S aa : List sm_t).any fun y => sm_is [] x y) = true := by decide +kernel
def aw_m0_S (aa : Nat) : List sm_t := [
  (5, [(0, (1, 0, 0, (aa : Int))), (1, (1, 2, 0, 0)), (2, (1, 3, 0, 0)), (3, (1, 6, 0, 0)), (4, (1, 0, 0, 1))], [], [], [(0, 0, false, 0, 0), (0, 2555, false, 1, 0), (1, 20, false, 2, 0), (0, 99, false, 3, 0), (0, 4, false, 4, 0), (0, 4, false, 5, 0), (0, 4, false, 6, 0)], [(142, 4, 5, 6, 0)])]
theorem aw_m0 : ((List.range 16).all fun aa => (ai_ex (hk []) 300 83 tb_m83 9 [5] (42, [(0, (1, 0, 0, (aa : Int))), (1, (1, 2, 0, 0)), (2, (1, 3, 0, 0)), (3, (1, 4, 0, 0)), (4, (1, 0, 0, 0))], [(1, 5, 0, 0), (1, 4, 0, 0)], [(0, 0, false, 0, 0), (0, 2555, false, 1, 0), (1, 20, false, 2, 0), (0, 99, false, 3, 0), (0, 4, false, 4, 0), (0, 4, false, 5, 0)], [], [])).any fun xs => xs.all fun x => (aw_m0_S aa : List sm_t).any fun y => sm_is [] x y) = true := by decide +kernel
def aw_00_S (aa : Nat) : List sm_t := [
  (5, [(0, (1, 0, 0, (aa : Int))), (1, (1, 2, 0, 0)), (2, (1, 3, 0, 0)), (3, (1, 4, 0, 0)), (4, (1, 0, 0, 1))], [], [], [(0, 0, false, 0, 0), (0, 2555, false, 1, 0), (1, 20, false, 2, 0), (0, 99, false, 3, 0), (0, 4, false, 4, 0)], [])]
theorem aw_00 : (([0, 2, 4, 6, 8, 10, 12, 14] : List Nat).all fun aa => (ai_ex (hk []) 300 83 tb_m83 9 [5, 35] (7, [(0, (1, 0, 0, (aa : Int))), (1, (1, 2, 0, 0)), (2, (1, 3, 0, 0)), (3, (1, 4, 0, 0)), (4, (1, 0, 0, 0))], [(1, 0, 0, 0)], [(0, 0, false, 0, 0), (0, 2555, false, 1, 0), (1, 20, false, 2, 0), (0, 99, false, 3, 0), (0, 4, false, 4, 0)], [], [])).any fun xs => xs.all fun x => (aw_00_S aa : List sm_t).any fun y => sm_is [] x y) = true := by decide +kernel
theorem aw_b1 : ∀ a, a < 16 → (a.testBit 1 = true → a ∈ ([2, 3, 6, 7, 10, 11, 14, 15] : List Nat)) ∧ (¬ a.testBit 1 = true → a ∈ ([0, 1, 4, 5, 8, 9, 12, 13] : List Nat)) := by decide +kernel
def aw_11_S (aa : Nat) : List sm_t := [
  (35, [(0, (1, 0, 0, (aa : Int))), (1, (1, 2, 0, 0)), (2, (1, 3, 0, 0)), (3, (1, 4, 0, 0)), (4, (1, 0, 0, 1))], [(1, 3, 0, 0), (1, 2, 0, 0), (1, 5, 0, 0), (1, 0, 0, (aa : Int)), (1, 4, 0, 0)], [], [(0, 0, false, 0, 0), (0, 2555, false, 1, 0), (1, 20, false, 2, 0), (0, 99, false, 3, 0), (0, 4, false, 4, 0), (0, 10, false, 5, 0)], [(152, 2, 2, 5, 0)])]
theorem aw_11 : (([2, 3, 6, 7, 10, 11, 14, 15] : List Nat).all fun aa => (ai_ex (hk []) 300 83 tb_m83 9 [5, 35] (7, [(0, (1, 0, 0, (aa : Int))), (1, (1, 2, 0, 0)), (2, (1, 3, 0, 0)), (3, (1, 4, 0, 0)), (4, (1, 0, 0, 1))], [(1, 0, 0, 1)], [(0, 0, false, 0, 0), (0, 2555, false, 1, 0), (1, 20, false, 2, 0), (0, 99, false, 3, 0), (0, 4, false, 4, 0)], [], [])).any fun xs => xs.all fun x => (aw_11_S aa : List sm_t).any fun y => sm_is [] x y) = true := by decide +kernel
def aw_m1_S (aa : Nat) : List sm_t := [
  (5, [(0, (1, 0, 0, (aa : Int))), (1, (1, 2, 0, 0)), (2, (1, 3, 0, 0)), (3, (1, 6, 0, 0)), (4, (1, 0, 0, 2))], [], [], [(0, 0, false, 0, 0), (0, 2555, false, 1, 0), (1, 20, false, 2, 0), (0, 99, false, 3, 0), (0, 4, false, 4, 0), (0, 4, false, 5, 0), (0, 4, false, 6, 0)], [(142, 4, 5, 6, 0)])]
theorem aw_m1 : ((List.range 16).all fun aa => (ai_ex (hk []) 300 83 tb_m83 9 [5] (42, [(0, (1, 0, 0, (aa : Int))), (1, (1, 2, 0, 0)), (2, (1, 3, 0, 0)), (3, (1, 4, 0, 0)), (4, (1, 0, 0, 1))], [(1, 5, 0, 0), (1, 4, 0, 0)], [(0, 0, false, 0, 0), (0, 2555, false, 1, 0), (1, 20, false, 2, 0), (0, 99, false, 3, 0), (0, 4, false, 4, 0), (0, 4, false, 5, 0)], [], [])).any fun xs => xs.all fun x => (aw_m1_S aa : List sm_t).any fun y => sm_is [] x y) = true := by decide +kernel
def aw_10_S (aa : Nat) : List sm_t := [
  (5, [(0, (1, 0, 0, (aa : Int))), (1, (1, 2, 0, 0)), (2, (1, 3, 0, 0)), (3, (1, 4, 0, 0)), (4, (1, 0, 0, 2))], [], [], [(0, 0, false, 0, 0), (0, 2555, false, 1, 0), (1, 20, false, 2, 0), (0, 99, false, 3, 0), (0, 4, false, 4, 0)], [])]
theorem aw_10 : (([0, 1, 4, 5, 8, 9, 12, 13] : List Nat).all fun aa => (ai_ex (hk []) 300 83 tb_m83 9 [5, 35] (7, [(0, (1, 0, 0, (aa : Int))), (1, (1, 2, 0, 0)), (2, (1, 3, 0, 0)), (3, (1, 4, 0, 0)), (4, (1, 0, 0, 1))], [(1, 0, 0, 1)], [(0, 0, false, 0, 0), (0, 2555, false, 1, 0), (1, 20, false, 2, 0), (0, 99, false, 3, 0), (0, 4, false, 4, 0)], [], [])).any fun xs => xs.all fun x => (aw_10_S aa : List sm_t).any fun y => sm_is [] x y) = true := by decide +kernel
theorem aw_b2 : ∀ a, a < 16 → (a.testBit 2 = true → a ∈ ([4, 5, 6, 7, 12, 13, 14, 15] : List Nat)) ∧ (¬ a.testBit 2 = true → a ∈ ([0, 1, 2, 3, 8, 9, 10, 11] : List Nat)) := by decide +kernel
def aw_21_S (aa : Nat) : List sm_t := [
  (35, [(0, (1, 0, 0, (aa : Int))), (1, (1, 2, 0, 0)), (2, (1, 3, 0, 0)), (3, (1, 4, 0, 0)), (4, (1, 0, 0, 2))], [(1, 3, 0, 0), (1, 2, 0, 0), (1, 6, 0, 0), (1, 0, 0, (aa : Int)), (1, 4, 0, 0)], [], [(0, 0, false, 0, 0), (0, 2555, false, 1, 0), (1, 20, false, 2, 0), (0, 99, false, 3, 0), (0, 4, false, 4, 0), (0, 10, false, 5, 0), (0, 2, false, 6, 0)], [(154, 5, 5, 6, 0), (152, 2, 2, 5, 0)])]
theorem aw_21 : (([4, 5, 6, 7, 12, 13, 14, 15] : List Nat).all fun aa => (ai_ex (hk []) 300 83 tb_m83 9 [5, 35] (7, [(0, (1, 0, 0, (aa : Int))), (1, (1, 2, 0, 0)), (2, (1, 3, 0, 0)), (3, (1, 4, 0, 0)), (4, (1, 0, 0, 2))], [(1, 0, 0, 2)], [(0, 0, false, 0, 0), (0, 2555, false, 1, 0), (1, 20, false, 2, 0), (0, 99, false, 3, 0), (0, 4, false, 4, 0)], [], [])).any fun xs => xs.all fun x => (aw_21_S aa : List sm_t).any fun y => sm_is [] x y) = true := by decide +kernel
def aw_m2_S (aa : Nat) : List sm_t := [
  (5, [(0, (1, 0, 0, (aa : Int))), (1, (1, 2, 0, 0)), (2, (1, 3, 0, 0)), (3, (1, 6, 0, 0)), (4, (1, 0, 0, 3))], [], [], [(0, 0, false, 0, 0), (0, 2555, false, 1, 0), (1, 20, false, 2, 0), (0, 99, false, 3, 0), (0, 4, false, 4, 0), (0, 4, false, 5, 0), (0, 4, false, 6, 0)], [(142, 4, 5, 6, 0)])]
theorem aw_m2 : ((List.range 16).all fun aa => (ai_ex (hk []) 300 83 tb_m83 9 [5] (42, [(0, (1, 0, 0, (aa : Int))), (1, (1, 2, 0, 0)), (2, (1, 3, 0, 0)), (3, (1, 4, 0, 0)), (4, (1, 0, 0, 2))], [(1, 5, 0, 0), (1, 4, 0, 0)], [(0, 0, false, 0, 0), (0, 2555, false, 1, 0), (1, 20, false, 2, 0), (0, 99, false, 3, 0), (0, 4, false, 4, 0), (0, 4, false, 5, 0)], [], [])).any fun xs => xs.all fun x => (aw_m2_S aa : List sm_t).any fun y => sm_is [] x y) = true := by decide +kernel
def aw_20_S (aa : Nat) : List sm_t := [
  (5, [(0, (1, 0, 0, (aa : Int))), (1, (1, 2, 0, 0)), (2, (1, 3, 0, 0)), (3, (1, 4, 0, 0)), (4, (1, 0, 0, 3))], [], [], [(0, 0, false, 0, 0), (0, 2555, false, 1, 0), (1, 20, false, 2, 0), (0, 99, false, 3, 0), (0, 4, false, 4, 0)], [])]
theorem aw_20 : (([0, 1, 2, 3, 8, 9, 10, 11] : List Nat).all fun aa => (ai_ex (hk []) 300 83 tb_m83 9 [5, 35] (7, [(0, (1, 0, 0, (aa : Int))), (1, (1, 2, 0, 0)), (2, (1, 3, 0, 0)), (3, (1, 4, 0, 0)), (4, (1, 0, 0, 2))], [(1, 0, 0, 2)], [(0, 0, false, 0, 0), (0, 2555, false, 1, 0), (1, 20, false, 2, 0), (0, 99, false, 3, 0), (0, 4, false, 4, 0)], [], [])).any fun xs => xs.all fun x => (aw_20_S aa : List sm_t).any fun y => sm_is [] x y) = true := by decide +kernel
theorem aw_b3 : ∀ a, a < 16 → (a.testBit 3 = true → a ∈ ([8, 9, 10, 11, 12, 13, 14, 15] : List Nat)) ∧ (¬ a.testBit 3 = true → a ∈ ([0, 1, 2, 3, 4, 5, 6, 7] : List Nat)) := by decide +kernel
def aw_31_S (aa : Nat) : List sm_t := [
  (35, [(0, (1, 0, 0, (aa : Int))), (1, (1, 2, 0, 0)), (2, (1, 3, 0, 0)), (3, (1, 4, 0, 0)), (4, (1, 0, 0, 3))], [(1, 3, 0, 0), (1, 2, 0, 0), (1, 7, 0, 0), (1, 0, 0, (aa : Int)), (1, 4, 0, 0)], [], [(0, 0, false, 0, 0), (0, 2555, false, 1, 0), (1, 20, false, 2, 0), (0, 99, false, 3, 0), (0, 4, false, 4, 0), (0, 198, false, 5, 0), (-197, 20, false, 6, 0), (0, 20, false, 7, 0)], [(142, 0, 6, 7, 0), (0, 2, 5, 6, 0), (502, 3, 3, 5, 0)])]
theorem aw_31 : (([8, 9, 10, 11, 12, 13, 14, 15] : List Nat).all fun aa => (ai_ex (hk []) 300 83 tb_m83 9 [5, 35] (7, [(0, (1, 0, 0, (aa : Int))), (1, (1, 2, 0, 0)), (2, (1, 3, 0, 0)), (3, (1, 4, 0, 0)), (4, (1, 0, 0, 3))], [(1, 0, 0, 3)], [(0, 0, false, 0, 0), (0, 2555, false, 1, 0), (1, 20, false, 2, 0), (0, 99, false, 3, 0), (0, 4, false, 4, 0)], [], [])).any fun xs => xs.all fun x => (aw_31_S aa : List sm_t).any fun y => sm_is [] x y) = true := by decide +kernel
def aw_m3_S (aa : Nat) : List sm_t := [
  (5, [(0, (1, 0, 0, (aa : Int))), (1, (1, 2, 0, 0)), (2, (1, 3, 0, 0)), (3, (1, 6, 0, 0)), (4, (1, 0, 0, 4))], [], [], [(0, 0, false, 0, 0), (0, 2555, false, 1, 0), (1, 20, false, 2, 0), (0, 99, false, 3, 0), (0, 4, false, 4, 0), (0, 4, false, 5, 0), (0, 4, false, 6, 0)], [(142, 4, 5, 6, 0)])]
theorem aw_m3 : ((List.range 16).all fun aa => (ai_ex (hk []) 300 83 tb_m83 9 [5] (42, [(0, (1, 0, 0, (aa : Int))), (1, (1, 2, 0, 0)), (2, (1, 3, 0, 0)), (3, (1, 4, 0, 0)), (4, (1, 0, 0, 3))], [(1, 5, 0, 0), (1, 4, 0, 0)], [(0, 0, false, 0, 0), (0, 2555, false, 1, 0), (1, 20, false, 2, 0), (0, 99, false, 3, 0), (0, 4, false, 4, 0), (0, 4, false, 5, 0)], [], [])).any fun xs => xs.all fun x => (aw_m3_S aa : List sm_t).any fun y => sm_is [] x y) = true := by decide +kernel
def aw_30_S (aa : Nat) : List sm_t := [
  (5, [(0, (1, 0, 0, (aa : Int))), (1, (1, 2, 0, 0)), (2, (1, 3, 0, 0)), (3, (1, 4, 0, 0)), (4, (1, 0, 0, 4))], [], [], [(0, 0, false, 0, 0), (0, 2555, false, 1, 0), (1, 20, false, 2, 0), (0, 99, false, 3, 0), (0, 4, false, 4, 0)], [])]
theorem aw_30 : (([0, 1, 2, 3, 4, 5, 6, 7] : List Nat).all fun aa => (ai_ex (hk []) 300 83 tb_m83 9 [5, 35] (7, [(0, (1, 0, 0, (aa : Int))), (1, (1, 2, 0, 0)), (2, (1, 3, 0, 0)), (3, (1, 4, 0, 0)), (4, (1, 0, 0, 3))], [(1, 0, 0, 3)], [(0, 0, false, 0, 0), (0, 2555, false, 1, 0), (1, 20, false, 2, 0), (0, 99, false, 3, 0), (0, 4, false, 4, 0)], [], [])).any fun xs => xs.all fun x => (aw_30_S aa : List sm_t).any fun y => sm_is [] x y) = true := by decide +kernel
theorem aw_0 : ((ai_ex (hk []) 300 83 tb_m83 9 [5] (0, [(0, (1, 4, 0, 0)), (1, (1, 2, 0, 0)), (2, (1, 3, 0, 0))], [], [(0, 0, false, 0, 0), (0, 2555, false, 1, 0), (1, 20, false, 2, 0), (0, 99, false, 3, 0), (0, 15, false, 4, 0)], [], [])).any fun xs => xs.all fun x => ([(5, [(0, (1, 4, 0, 0)), (1, (1, 2, 0, 0)), (2, (1, 3, 0, 0)), (3, (1, 0, 0, 0)), (4, (1, 0, 0, 0))], [], [], [(0, 0, false, 0, 0), (0, 2555, false, 1, 0), (1, 20, false, 2, 0), (0, 99, false, 3, 0), (0, 15, false, 4, 0)], [])] : List sm_t).any fun y => sm_is [] x y) = true := by decide +kernel
section XLW
variable {ad : List Nat} {M : ai_m} {d : Nat} {p : Program} {l : Launch} {e : Env} {R : Room} {s : State} {m : MethodId} {args : Array Value} {below : List Frame} {meth : Method} {c : Code} {D : va_G} {tys : ai_ty} {A : Nat → Prop} {b L : Nat} {sx : Nat → Int32} {cells slots : Nat} {Q : State → Prop}
theorem aw_loop {aa : Nat} {zo zs zp : Int32} {ws0 : va_W} (C : ai_cx tb_m83 9 p R s m args c D tys A b L sx cells slots) (haa : aa < 16) (eo : zo.toInt = aa) (hs : 1 ≤ zs.toInt ∧ zs.toInt ≤ 20) (hp : 0 ≤ zp.toInt ∧ zp.toInt ≤ 99)
    (kk : ∀ (ws' : va_W) (z : Int32) (lv' : List (Nat × Value)), ai_wd tb_TY ad tys ws' → ai_fr [] ws0 ws' → z.toInt = ((awF aa zs.toInt zp.toInt 4 : Nat) : Int) → hG tb_m83 p l e R s m args below meth c D A cells slots Q 53 lv' [.int z] ws') :
    ∀ (f k : Nat) (zw zk : Int32) (ws : va_W), k + f = 4 → zw.toInt = ((awF aa zs.toInt zp.toInt k : Nat) : Int) → zk.toInt = k → ai_wd tb_TY ad tys ws → ai_fr [] ws0 ws → hG tb_m83 p l e R s m args below meth c D A cells slots Q 5 [(0, .int zo), (1, .int zs), (2, .int zp), (3, .int zw), (4, .int zk)] [] ws := by
  have ezo : zo = Int32.ofNat aa := i32_of (by omega) eo
  intro f
  induction f with
  | zero =>
    intro k zw zk ws hf ew ek hw hfr
    have bw := awF_b haa zs.toInt zp.toInt k
    have hk : k = 4 := by omega
    subst hk
    refine hildw (j := 4) (x := zk) C (tv_m83.1.1.1 (5, .iload 4, 2) (List.mem_of_getElem? (i := 4) rfl)) (List.mem_of_getElem? (i := 4) rfl) ?_
    refine hG_sub (lv2 := [(1, .int zs), (3, .int zw), (4, .int zk)]) (by
      intro q hq
      simp only [List.mem_cons, List.not_mem_nil, or_false] at hq ⊢
      rcases hq with rfl | rfl | rfl <;> simp) ?_
    refine hsum (st := (7, [(1, (1, 2, 0, 0)), (3, (1, 4, 0, 0)), (4, (1, 0, 0, 4))], [(1, 0, 0, 4)], [(0, 0, false, 0, 0), (0, 2555, false, 1, 0), (1, 20, false, 2, 0), (0, 99, false, 3, 0), (0, 4, false, 4, 0)], [], [])) aw_x rfl C (r := [0, 0, zs.toInt, zp.toInt, zw.toInt]) ⟨en_mk (by simp only [en_b, and_true]; omega) rfl, sb0, ⟨rfl, int_dv (z := zs.toInt) rfl (by omega), rfl, int_dv (z := zw.toInt) rfl (by omega), rfl, int_dv (z := 0) rfl (by omega), trivial⟩, ⟨int_dv (z := 0) rfl (by omega), trivial⟩, hw, k0, fun _ _ _ _ h => h, fun h => by cases h⟩ (fun x hx r1 lv1 st1 ws1 hx1 hb1 hl1 hs1 hlo1 hsk1 hw1 hV1 hf1 _ => ?_)
    unfold aw_x_S at hx
    have m1_2 := nm_x hx1 (k := 2) rfl
    have m1_3 := nm_x hx1 (k := 3) rfl
    have m1_4 := nm_x hx1 (k := 4) rfl
    have hx0 := List.mem_singleton.mp hx
    subst hx0
    dsimp only at hlo1 hsk1 ⊢
    simp (config := { decide := true }) only [bnd_b, lin_b, lin_q, Nat.reduceAdd, Nat.zero_add, Nat.reduceEqDiff, reduceIte, and_true, Int.add_zero] at hb1 hl1
    obtain ⟨z, rfl, hz⟩ := sk1 rfl hsk1
    rw [vn_at hx1 (n := 4) (z := zw.toInt) rfl] at hz
    exact kk ws1 z lv1 hw1 (hfr.tr hf1) (by omega)
  | succ f ih =>
    intro k zw zk ws hf ew ek hw hfr
    have bw := awF_b haa zs.toInt zp.toInt k
    have hk : k = 0 ∨ k = 1 ∨ k = 2 ∨ k = 3 := by omega
    rcases hk with rfl | rfl | rfl | rfl
    · skip
      refine hildw (j := 4) (x := zk) C (tv_m83.1.1.1 (5, .iload 4, 2) (List.mem_of_getElem? (i := 4) rfl)) (List.mem_of_getElem? (i := 4) rfl) ?_
      by_cases hb : aa.testBit 0 = true
      · have hmem := (aw_b0 aa haa).1 hb
        refine hsum (st := (7, [(0, (1, 0, 0, (aa : Int))), (1, (1, 2, 0, 0)), (2, (1, 3, 0, 0)), (3, (1, 4, 0, 0)), (4, (1, 0, 0, 0))], [(1, 0, 0, 0)], [(0, 0, false, 0, 0), (0, 2555, false, 1, 0), (1, 20, false, 2, 0), (0, 99, false, 3, 0), (0, 4, false, 4, 0)], [], [])) (List.all_eq_true.mp aw_01 aa hmem) rfl C (r := [0, 0, zs.toInt, zp.toInt, zw.toInt]) ⟨en_mk (by simp only [en_b, and_true]; omega) rfl, sb0, ⟨rfl, int_dv (z := 0) rfl (by omega), rfl, int_dv (z := zs.toInt) rfl (by omega), rfl, int_dv (z := zp.toInt) rfl (by omega), rfl, int_dv (z := zw.toInt) rfl (by omega), rfl, int_dv (z := 0) rfl (by omega), trivial⟩, ⟨int_dv (z := 0) rfl (by omega), trivial⟩, hw, k0, fun _ _ _ _ h => h, fun h => by cases h⟩ (fun x hx r1 lv1 st1 ws1 hx1 hb1 hl1 hs1 hlo1 hsk1 hw1 hV1 hf1 _ => ?_)
        unfold aw_01_S at hx
        have m1_2 := nm_x hx1 (k := 2) rfl
        have m1_3 := nm_x hx1 (k := 3) rfl
        have m1_4 := nm_x hx1 (k := 4) rfl
        have hx0 := List.mem_singleton.mp hx
        subst hx0
        dsimp only at hlo1 hsk1 ⊢
        simp (config := { decide := true }) only [bnd_b, lin_b, lin_q, Nat.reduceAdd, Nat.zero_add, Nat.reduceEqDiff, reduceIte, and_true, Int.add_zero] at hb1 hl1
        obtain ⟨y10, l10, rfl, d10, p10⟩ := lo_int rfl hlo1
        obtain ⟨y11, l11, rfl, d11, p11⟩ := lo_int rfl p10
        obtain ⟨y12, l12, rfl, d12, p12⟩ := lo_int rfl p11
        obtain ⟨y13, l13, rfl, d13, p13⟩ := lo_int rfl p12
        obtain ⟨y14, l14, rfl, d14, p14⟩ := lo_int rfl p13
        cases lo_nil p14
        rw [vn_at hx1 (n := 0) (z := 0) rfl] at d10
        have e10 : zo = y10 := Int32.toInt_inj.mp (by omega)
        subst e10
        rw [vn_at hx1 (n := 2) (z := zs.toInt) rfl] at d11
        have e11 : zs = y11 := Int32.toInt_inj.mp (by omega)
        subst e11
        rw [vn_at hx1 (n := 3) (z := zp.toInt) rfl] at d12
        have e12 : zp = y12 := Int32.toInt_inj.mp (by omega)
        subst e12
        rw [vn_at hx1 (n := 4) (z := zw.toInt) rfl] at d13
        have e13 : zw = y13 := Int32.toInt_inj.mp (by omega)
        subst e13
        rw [vn_at hx1 (n := 0) (z := 0) rfl] at d14
        have e14 : zk = y14 := Int32.toInt_inj.mp (by omega)
        subst e14
        obtain ⟨x10, s10, rfl, c10, g10⟩ := hsk1.cons
        obtain ⟨x11, s11, rfl, c11, g11⟩ := g10.cons
        obtain ⟨x12, s12, rfl, c12, g12⟩ := g11.cons
        obtain ⟨x13, s13, rfl, c13, g13⟩ := g12.cons
        obtain ⟨x14, s14, rfl, c14, g14⟩ := g13.cons
        cases g14.nil
        obtain ⟨u10, rfl, w10⟩ := dvn c10 (hx1.at (k := 3) rfl)
        obtain ⟨u11, rfl, w11⟩ := dvn c11 (hx1.at (k := 2) rfl)
        obtain ⟨u13, rfl, w13⟩ := dvn c13 (hx1.at (k := 0) rfl)
        obtain ⟨u14, rfl, w14⟩ := dvn c14 (hx1.at (k := 4) rfl)
        obtain ⟨u12, rfl, w12⟩ := dvn c12 (hx1.at (k := 2) rfl)
        have hyl : u12.toInt = yl ((0 : Nat) : Int) zs.toInt zp.toInt := by
          rw [yl_0]
          omega
        have hyr : 0 ≤ u12.toInt ∧ u12.toInt ≤ 20 := by omega
        refine hcallS (q := (227, 1, 97, 3, 0)) (M' := tb_m97) (As := [.int u12, .int u11, .int u10]) (rest := [.int u13, .int u14]) (rets := [36]) (P := fun w z => ai_wd tb_TY ad tys w ∧ ai_fr [] ws1 w ∧ z.toInt = ((ktF zs.toInt zp.toInt (yl ((0 : Nat) : Int) zs.toInt zp.toInt) 4 : Nat) : Int)) C (by decide) (tv_m83.1.1.1 (35, .invokestatic 227, 3) (List.mem_of_getElem? (i := 21) rfl)) (tv_m83.2 _ (List.mem_of_getElem? (i := 34) rfl)) (Or.inl rfl) rfl rfl rfl (Nat.le_of_ble_eq_true rfl) (Nat.le_of_ble_eq_true rfl) rfl (Nat.le_of_ble_eq_true rfl) ?_ ?_ ?_
        · intro pcr hp
          simp only [List.mem_cons, List.not_mem_nil, or_false] at hp
          rcases hp with rfl
          · exact tv_m97.1.1.1 (36, .ireturn, 1) (List.mem_of_getElem? (i := 22) rfl)
        · intro p2 e2 R2 s2 m2 args2 below2 meth2 c2 Q2 C2 kk2
          exact kt_all (mm_cx (by decide) C2) (by omega) (by omega) (by omega) hw1 (fun w z lv2 h1 h2 h3 => kk2 36 w z lv2 (by decide) ⟨h1, h2, by rw [h3, hyl, show u11.toInt = zs.toInt by omega, show u10.toInt = zp.toInt by omega]⟩)
        · intro ws2 zt hP
          obtain ⟨hw2, hf2, ezt⟩ := hP
          have bt := ktF_b zs.toInt zp.toInt (yl ((0 : Nat) : Int) zs.toInt zp.toInt) 4 (by decide)
          generalize hT : ktF zs.toInt zp.toInt (yl ((0 : Nat) : Int) zs.toInt zp.toInt) 4 = T at bt ezt
          have q1 : u13 = Int32.ofNat aa := i32_of (by omega) (by omega)
          have q2 : zt = Int32.ofNat T := i32_of (by omega) (by omega)
          have han := and_i _ haa _ bt
          have hab := and_b _ haa _ bt
          rw [q1, q2]
          refine hiand (pc := 38) C (tv_m83.1.1.1 (38, .iand, 1) (List.mem_of_getElem? (i := 22) rfl)) ?_
          generalize (Int32.ofNat aa &&& Int32.ofNat T) = zv at han ⊢
          refine hcallS (q := (213, 1, 170, 1, 0)) (M' := tb_m170) (As := [.int zv]) (rest := [.int u14]) (rets := [52]) (P := fun w z => ai_wd tb_TY ad tys w ∧ ai_fr [] ws2 w ∧ z.toInt = ((pcF (aa &&& T) : Nat) : Int)) C (by decide) (tv_m83.1.1.1 (39, .invokestatic 213, 3) (List.mem_of_getElem? (i := 23) rfl)) (tv_m83.2 _ (List.mem_of_getElem? (i := 30) rfl)) (Or.inl rfl) rfl rfl rfl (Nat.le_of_ble_eq_true rfl) (Nat.le_of_ble_eq_true rfl) rfl (Nat.le_of_ble_eq_true rfl) ?_ ?_ ?_
          · intro pcr hp
            simp only [List.mem_cons, List.not_mem_nil, or_false] at hp
            rcases hp with rfl
            · exact tv_m170.1.1.1 (52, .ireturn, 1) (List.mem_of_getElem? (i := 41) rfl)
          · intro p2 e2 R2 s2 m2 args2 below2 meth2 c2 Q2 C2 kk2
            exact bc_all7 (mm_cx (by decide) C2) hab han hw2 (fun w z lv2 h1 h2 h3 => kk2 52 w z lv2 (by decide) ⟨h1, h2, h3⟩)
          · intro ws3 zc hP3
            obtain ⟨hw3, hf3, ezc⟩ := hP3
            have bc := pcF_b _ hab
            have q4 : u14 = zw := Int32.toInt_inj.mp (by omega)
            rw [q4]
            refine hsum (st := (42, [(0, (1, 0, 0, (aa : Int))), (1, (1, 2, 0, 0)), (2, (1, 3, 0, 0)), (3, (1, 4, 0, 0)), (4, (1, 0, 0, 0))], [(1, 5, 0, 0), (1, 4, 0, 0)], [(0, 0, false, 0, 0), (0, 2555, false, 1, 0), (1, 20, false, 2, 0), (0, 99, false, 3, 0), (0, 4, false, 4, 0), (0, 4, false, 5, 0)], [], [])) (List.all_eq_true.mp aw_m0 aa (List.mem_range.mpr haa)) rfl C (r := [0, 0, zs.toInt, zp.toInt, zw.toInt, zc.toInt]) ⟨en_mk (by simp only [en_b, and_true]; omega) rfl, sb0, ⟨rfl, int_dv (z := 0) rfl (by omega), rfl, int_dv (z := zs.toInt) rfl (by omega), rfl, int_dv (z := zp.toInt) rfl (by omega), rfl, int_dv (z := zw.toInt) rfl (by omega), rfl, int_dv (z := 0) rfl (by omega), trivial⟩, ⟨int_dv (z := zc.toInt) rfl (by omega), int_dv (z := zw.toInt) rfl (by omega), trivial⟩, hw3, k0, fun _ _ _ _ h => h, fun h => by cases h⟩ (fun x hx r4 lv4 st4 ws4 hx4 hb4 hl4 hs4 hlo4 hsk4 hw4 hV4 hf4 _ => ?_)
            unfold aw_m0_S at hx
            have m4_2 := nm_x hx4 (k := 2) rfl
            have m4_3 := nm_x hx4 (k := 3) rfl
            have m4_4 := nm_x hx4 (k := 4) rfl
            have m4_5 := nm_x hx4 (k := 5) rfl
            have hx0 := List.mem_singleton.mp hx
            subst hx0
            dsimp only at hlo4 hsk4 ⊢
            simp (config := { decide := true }) only [bnd_b, lin_b, lin_q, Nat.reduceAdd, Nat.zero_add, Nat.reduceEqDiff, reduceIte, and_true, Int.add_zero] at hb4 hl4
            cases hsk4.nil
            obtain ⟨y40, l40, rfl, d40, p40⟩ := lo_int rfl hlo4
            obtain ⟨y41, l41, rfl, d41, p41⟩ := lo_int rfl p40
            obtain ⟨y42, l42, rfl, d42, p42⟩ := lo_int rfl p41
            obtain ⟨y43, l43, rfl, d43, p43⟩ := lo_int rfl p42
            obtain ⟨y44, l44, rfl, d44, p44⟩ := lo_int rfl p43
            cases lo_nil p44
            rw [vn_at hx4 (n := 0) (z := 0) rfl] at d40
            have e40 : zo = y40 := Int32.toInt_inj.mp (by omega)
            subst e40
            rw [vn_at hx4 (n := 2) (z := zs.toInt) rfl] at d41
            have e41 : zs = y41 := Int32.toInt_inj.mp (by omega)
            subst e41
            rw [vn_at hx4 (n := 3) (z := zp.toInt) rfl] at d42
            have e42 : zp = y42 := Int32.toInt_inj.mp (by omega)
            subst e42
            rw [vn_at hx4 (n := 0) (z := 0) rfl] at d44
            unfold vn at d43
            dsimp only at d43
            exact ih 1 y43 y44 ws4 (by omega) (by rw [awF_y hb, hT]; omega) (by omega) hw4 ((((hfr.tr hf1).tr hf2).tr hf3).tr hf4)
      · have hmem := (aw_b0 aa haa).2 hb
        refine hsum (st := (7, [(0, (1, 0, 0, (aa : Int))), (1, (1, 2, 0, 0)), (2, (1, 3, 0, 0)), (3, (1, 4, 0, 0)), (4, (1, 0, 0, 0))], [(1, 0, 0, 0)], [(0, 0, false, 0, 0), (0, 2555, false, 1, 0), (1, 20, false, 2, 0), (0, 99, false, 3, 0), (0, 4, false, 4, 0)], [], [])) (List.all_eq_true.mp aw_00 aa hmem) rfl C (r := [0, 0, zs.toInt, zp.toInt, zw.toInt]) ⟨en_mk (by simp only [en_b, and_true]; omega) rfl, sb0, ⟨rfl, int_dv (z := 0) rfl (by omega), rfl, int_dv (z := zs.toInt) rfl (by omega), rfl, int_dv (z := zp.toInt) rfl (by omega), rfl, int_dv (z := zw.toInt) rfl (by omega), rfl, int_dv (z := 0) rfl (by omega), trivial⟩, ⟨int_dv (z := 0) rfl (by omega), trivial⟩, hw, k0, fun _ _ _ _ h => h, fun h => by cases h⟩ (fun x hx r1 lv1 st1 ws1 hx1 hb1 hl1 hs1 hlo1 hsk1 hw1 hV1 hf1 _ => ?_)
        unfold aw_00_S at hx
        have m1_2 := nm_x hx1 (k := 2) rfl
        have m1_3 := nm_x hx1 (k := 3) rfl
        have m1_4 := nm_x hx1 (k := 4) rfl
        have hx0 := List.mem_singleton.mp hx
        subst hx0
        dsimp only at hlo1 hsk1 ⊢
        simp (config := { decide := true }) only [bnd_b, lin_b, lin_q, Nat.reduceAdd, Nat.zero_add, Nat.reduceEqDiff, reduceIte, and_true, Int.add_zero] at hb1 hl1
        cases hsk1.nil
        obtain ⟨y10, l10, rfl, d10, p10⟩ := lo_int rfl hlo1
        obtain ⟨y11, l11, rfl, d11, p11⟩ := lo_int rfl p10
        obtain ⟨y12, l12, rfl, d12, p12⟩ := lo_int rfl p11
        obtain ⟨y13, l13, rfl, d13, p13⟩ := lo_int rfl p12
        obtain ⟨y14, l14, rfl, d14, p14⟩ := lo_int rfl p13
        cases lo_nil p14
        rw [vn_at hx1 (n := 0) (z := 0) rfl] at d10
        have e10 : zo = y10 := Int32.toInt_inj.mp (by omega)
        subst e10
        rw [vn_at hx1 (n := 2) (z := zs.toInt) rfl] at d11
        have e11 : zs = y11 := Int32.toInt_inj.mp (by omega)
        subst e11
        rw [vn_at hx1 (n := 3) (z := zp.toInt) rfl] at d12
        have e12 : zp = y12 := Int32.toInt_inj.mp (by omega)
        subst e12
        rw [vn_at hx1 (n := 4) (z := zw.toInt) rfl] at d13
        have e13 : zw = y13 := Int32.toInt_inj.mp (by omega)
        subst e13
        rw [vn_at hx1 (n := 0) (z := 0) rfl] at d14
        exact ih 1 zw y14 ws1 (by omega) (by rw [awF_n hb]; exact ew) (by omega) hw1 (hfr.tr hf1)
    · skip
      refine hildw (j := 4) (x := zk) C (tv_m83.1.1.1 (5, .iload 4, 2) (List.mem_of_getElem? (i := 4) rfl)) (List.mem_of_getElem? (i := 4) rfl) ?_
      by_cases hb : aa.testBit 1 = true
      · have hmem := (aw_b1 aa haa).1 hb
        refine hsum (st := (7, [(0, (1, 0, 0, (aa : Int))), (1, (1, 2, 0, 0)), (2, (1, 3, 0, 0)), (3, (1, 4, 0, 0)), (4, (1, 0, 0, 1))], [(1, 0, 0, 1)], [(0, 0, false, 0, 0), (0, 2555, false, 1, 0), (1, 20, false, 2, 0), (0, 99, false, 3, 0), (0, 4, false, 4, 0)], [], [])) (List.all_eq_true.mp aw_11 aa hmem) rfl C (r := [0, 0, zs.toInt, zp.toInt, zw.toInt]) ⟨en_mk (by simp only [en_b, and_true]; omega) rfl, sb0, ⟨rfl, int_dv (z := 0) rfl (by omega), rfl, int_dv (z := zs.toInt) rfl (by omega), rfl, int_dv (z := zp.toInt) rfl (by omega), rfl, int_dv (z := zw.toInt) rfl (by omega), rfl, int_dv (z := 0) rfl (by omega), trivial⟩, ⟨int_dv (z := 0) rfl (by omega), trivial⟩, hw, k0, fun _ _ _ _ h => h, fun h => by cases h⟩ (fun x hx r1 lv1 st1 ws1 hx1 hb1 hl1 hs1 hlo1 hsk1 hw1 hV1 hf1 _ => ?_)
        unfold aw_11_S at hx
        have m1_2 := nm_x hx1 (k := 2) rfl
        have m1_3 := nm_x hx1 (k := 3) rfl
        have m1_4 := nm_x hx1 (k := 4) rfl
        have hx0 := List.mem_singleton.mp hx
        subst hx0
        dsimp only at hlo1 hsk1 ⊢
        simp (config := { decide := true }) only [bnd_b, lin_b, lin_q, Nat.reduceAdd, Nat.zero_add, Nat.reduceEqDiff, reduceIte, and_true, Int.add_zero] at hb1 hl1
        obtain ⟨y10, l10, rfl, d10, p10⟩ := lo_int rfl hlo1
        obtain ⟨y11, l11, rfl, d11, p11⟩ := lo_int rfl p10
        obtain ⟨y12, l12, rfl, d12, p12⟩ := lo_int rfl p11
        obtain ⟨y13, l13, rfl, d13, p13⟩ := lo_int rfl p12
        obtain ⟨y14, l14, rfl, d14, p14⟩ := lo_int rfl p13
        cases lo_nil p14
        rw [vn_at hx1 (n := 0) (z := 0) rfl] at d10
        have e10 : zo = y10 := Int32.toInt_inj.mp (by omega)
        subst e10
        rw [vn_at hx1 (n := 2) (z := zs.toInt) rfl] at d11
        have e11 : zs = y11 := Int32.toInt_inj.mp (by omega)
        subst e11
        rw [vn_at hx1 (n := 3) (z := zp.toInt) rfl] at d12
        have e12 : zp = y12 := Int32.toInt_inj.mp (by omega)
        subst e12
        rw [vn_at hx1 (n := 4) (z := zw.toInt) rfl] at d13
        have e13 : zw = y13 := Int32.toInt_inj.mp (by omega)
        subst e13
        rw [vn_at hx1 (n := 0) (z := 0) rfl] at d14
        have e14 : zk = y14 := Int32.toInt_inj.mp (by omega)
        subst e14
        obtain ⟨x10, s10, rfl, c10, g10⟩ := hsk1.cons
        obtain ⟨x11, s11, rfl, c11, g11⟩ := g10.cons
        obtain ⟨x12, s12, rfl, c12, g12⟩ := g11.cons
        obtain ⟨x13, s13, rfl, c13, g13⟩ := g12.cons
        obtain ⟨x14, s14, rfl, c14, g14⟩ := g13.cons
        cases g14.nil
        obtain ⟨u10, rfl, w10⟩ := dvn c10 (hx1.at (k := 3) rfl)
        obtain ⟨u11, rfl, w11⟩ := dvn c11 (hx1.at (k := 2) rfl)
        obtain ⟨u13, rfl, w13⟩ := dvn c13 (hx1.at (k := 0) rfl)
        obtain ⟨u14, rfl, w14⟩ := dvn c14 (hx1.at (k := 4) rfl)
        obtain ⟨u12, rfl, w12⟩ := aw_int c12
        unfold vn at w12
        dsimp only at w12
        have hyl : u12.toInt = yl ((1 : Nat) : Int) zs.toInt zp.toInt := by
          rw [yl_1]
          omega
        have hyr : 0 ≤ u12.toInt ∧ u12.toInt ≤ 20 := by omega
        refine hcallS (q := (227, 1, 97, 3, 0)) (M' := tb_m97) (As := [.int u12, .int u11, .int u10]) (rest := [.int u13, .int u14]) (rets := [36]) (P := fun w z => ai_wd tb_TY ad tys w ∧ ai_fr [] ws1 w ∧ z.toInt = ((ktF zs.toInt zp.toInt (yl ((1 : Nat) : Int) zs.toInt zp.toInt) 4 : Nat) : Int)) C (by decide) (tv_m83.1.1.1 (35, .invokestatic 227, 3) (List.mem_of_getElem? (i := 21) rfl)) (tv_m83.2 _ (List.mem_of_getElem? (i := 34) rfl)) (Or.inl rfl) rfl rfl rfl (Nat.le_of_ble_eq_true rfl) (Nat.le_of_ble_eq_true rfl) rfl (Nat.le_of_ble_eq_true rfl) ?_ ?_ ?_
        · intro pcr hp
          simp only [List.mem_cons, List.not_mem_nil, or_false] at hp
          rcases hp with rfl
          · exact tv_m97.1.1.1 (36, .ireturn, 1) (List.mem_of_getElem? (i := 22) rfl)
        · intro p2 e2 R2 s2 m2 args2 below2 meth2 c2 Q2 C2 kk2
          exact kt_all (mm_cx (by decide) C2) (by omega) (by omega) (by omega) hw1 (fun w z lv2 h1 h2 h3 => kk2 36 w z lv2 (by decide) ⟨h1, h2, by rw [h3, hyl, show u11.toInt = zs.toInt by omega, show u10.toInt = zp.toInt by omega]⟩)
        · intro ws2 zt hP
          obtain ⟨hw2, hf2, ezt⟩ := hP
          have bt := ktF_b zs.toInt zp.toInt (yl ((1 : Nat) : Int) zs.toInt zp.toInt) 4 (by decide)
          generalize hT : ktF zs.toInt zp.toInt (yl ((1 : Nat) : Int) zs.toInt zp.toInt) 4 = T at bt ezt
          have q1 : u13 = Int32.ofNat aa := i32_of (by omega) (by omega)
          have q2 : zt = Int32.ofNat T := i32_of (by omega) (by omega)
          have han := and_i _ haa _ bt
          have hab := and_b _ haa _ bt
          rw [q1, q2]
          refine hiand (pc := 38) C (tv_m83.1.1.1 (38, .iand, 1) (List.mem_of_getElem? (i := 22) rfl)) ?_
          generalize (Int32.ofNat aa &&& Int32.ofNat T) = zv at han ⊢
          refine hcallS (q := (213, 1, 170, 1, 0)) (M' := tb_m170) (As := [.int zv]) (rest := [.int u14]) (rets := [52]) (P := fun w z => ai_wd tb_TY ad tys w ∧ ai_fr [] ws2 w ∧ z.toInt = ((pcF (aa &&& T) : Nat) : Int)) C (by decide) (tv_m83.1.1.1 (39, .invokestatic 213, 3) (List.mem_of_getElem? (i := 23) rfl)) (tv_m83.2 _ (List.mem_of_getElem? (i := 30) rfl)) (Or.inl rfl) rfl rfl rfl (Nat.le_of_ble_eq_true rfl) (Nat.le_of_ble_eq_true rfl) rfl (Nat.le_of_ble_eq_true rfl) ?_ ?_ ?_
          · intro pcr hp
            simp only [List.mem_cons, List.not_mem_nil, or_false] at hp
            rcases hp with rfl
            · exact tv_m170.1.1.1 (52, .ireturn, 1) (List.mem_of_getElem? (i := 41) rfl)
          · intro p2 e2 R2 s2 m2 args2 below2 meth2 c2 Q2 C2 kk2
            exact bc_all7 (mm_cx (by decide) C2) hab han hw2 (fun w z lv2 h1 h2 h3 => kk2 52 w z lv2 (by decide) ⟨h1, h2, h3⟩)
          · intro ws3 zc hP3
            obtain ⟨hw3, hf3, ezc⟩ := hP3
            have bc := pcF_b _ hab
            have q4 : u14 = zw := Int32.toInt_inj.mp (by omega)
            rw [q4]
            refine hsum (st := (42, [(0, (1, 0, 0, (aa : Int))), (1, (1, 2, 0, 0)), (2, (1, 3, 0, 0)), (3, (1, 4, 0, 0)), (4, (1, 0, 0, 1))], [(1, 5, 0, 0), (1, 4, 0, 0)], [(0, 0, false, 0, 0), (0, 2555, false, 1, 0), (1, 20, false, 2, 0), (0, 99, false, 3, 0), (0, 4, false, 4, 0), (0, 4, false, 5, 0)], [], [])) (List.all_eq_true.mp aw_m1 aa (List.mem_range.mpr haa)) rfl C (r := [0, 0, zs.toInt, zp.toInt, zw.toInt, zc.toInt]) ⟨en_mk (by simp only [en_b, and_true]; omega) rfl, sb0, ⟨rfl, int_dv (z := 0) rfl (by omega), rfl, int_dv (z := zs.toInt) rfl (by omega), rfl, int_dv (z := zp.toInt) rfl (by omega), rfl, int_dv (z := zw.toInt) rfl (by omega), rfl, int_dv (z := 0) rfl (by omega), trivial⟩, ⟨int_dv (z := zc.toInt) rfl (by omega), int_dv (z := zw.toInt) rfl (by omega), trivial⟩, hw3, k0, fun _ _ _ _ h => h, fun h => by cases h⟩ (fun x hx r4 lv4 st4 ws4 hx4 hb4 hl4 hs4 hlo4 hsk4 hw4 hV4 hf4 _ => ?_)
            unfold aw_m1_S at hx
            have m4_2 := nm_x hx4 (k := 2) rfl
            have m4_3 := nm_x hx4 (k := 3) rfl
            have m4_4 := nm_x hx4 (k := 4) rfl
            have m4_5 := nm_x hx4 (k := 5) rfl
            have hx0 := List.mem_singleton.mp hx
            subst hx0
            dsimp only at hlo4 hsk4 ⊢
            simp (config := { decide := true }) only [bnd_b, lin_b, lin_q, Nat.reduceAdd, Nat.zero_add, Nat.reduceEqDiff, reduceIte, and_true, Int.add_zero] at hb4 hl4
            cases hsk4.nil
            obtain ⟨y40, l40, rfl, d40, p40⟩ := lo_int rfl hlo4
            obtain ⟨y41, l41, rfl, d41, p41⟩ := lo_int rfl p40
            obtain ⟨y42, l42, rfl, d42, p42⟩ := lo_int rfl p41
            obtain ⟨y43, l43, rfl, d43, p43⟩ := lo_int rfl p42
            obtain ⟨y44, l44, rfl, d44, p44⟩ := lo_int rfl p43
            cases lo_nil p44
            rw [vn_at hx4 (n := 0) (z := 0) rfl] at d40
            have e40 : zo = y40 := Int32.toInt_inj.mp (by omega)
            subst e40
            rw [vn_at hx4 (n := 2) (z := zs.toInt) rfl] at d41
            have e41 : zs = y41 := Int32.toInt_inj.mp (by omega)
            subst e41
            rw [vn_at hx4 (n := 3) (z := zp.toInt) rfl] at d42
            have e42 : zp = y42 := Int32.toInt_inj.mp (by omega)
            subst e42
            rw [vn_at hx4 (n := 0) (z := 0) rfl] at d44
            unfold vn at d43
            dsimp only at d43
            exact ih 2 y43 y44 ws4 (by omega) (by rw [awF_y hb, hT]; omega) (by omega) hw4 ((((hfr.tr hf1).tr hf2).tr hf3).tr hf4)
      · have hmem := (aw_b1 aa haa).2 hb
        refine hsum (st := (7, [(0, (1, 0, 0, (aa : Int))), (1, (1, 2, 0, 0)), (2, (1, 3, 0, 0)), (3, (1, 4, 0, 0)), (4, (1, 0, 0, 1))], [(1, 0, 0, 1)], [(0, 0, false, 0, 0), (0, 2555, false, 1, 0), (1, 20, false, 2, 0), (0, 99, false, 3, 0), (0, 4, false, 4, 0)], [], [])) (List.all_eq_true.mp aw_10 aa hmem) rfl C (r := [0, 0, zs.toInt, zp.toInt, zw.toInt]) ⟨en_mk (by simp only [en_b, and_true]; omega) rfl, sb0, ⟨rfl, int_dv (z := 0) rfl (by omega), rfl, int_dv (z := zs.toInt) rfl (by omega), rfl, int_dv (z := zp.toInt) rfl (by omega), rfl, int_dv (z := zw.toInt) rfl (by omega), rfl, int_dv (z := 0) rfl (by omega), trivial⟩, ⟨int_dv (z := 0) rfl (by omega), trivial⟩, hw, k0, fun _ _ _ _ h => h, fun h => by cases h⟩ (fun x hx r1 lv1 st1 ws1 hx1 hb1 hl1 hs1 hlo1 hsk1 hw1 hV1 hf1 _ => ?_)
        unfold aw_10_S at hx
        have m1_2 := nm_x hx1 (k := 2) rfl
        have m1_3 := nm_x hx1 (k := 3) rfl
        have m1_4 := nm_x hx1 (k := 4) rfl
        have hx0 := List.mem_singleton.mp hx
        subst hx0
        dsimp only at hlo1 hsk1 ⊢
        simp (config := { decide := true }) only [bnd_b, lin_b, lin_q, Nat.reduceAdd, Nat.zero_add, Nat.reduceEqDiff, reduceIte, and_true, Int.add_zero] at hb1 hl1
        cases hsk1.nil
        obtain ⟨y10, l10, rfl, d10, p10⟩ := lo_int rfl hlo1
        obtain ⟨y11, l11, rfl, d11, p11⟩ := lo_int rfl p10
        obtain ⟨y12, l12, rfl, d12, p12⟩ := lo_int rfl p11
        obtain ⟨y13, l13, rfl, d13, p13⟩ := lo_int rfl p12
        obtain ⟨y14, l14, rfl, d14, p14⟩ := lo_int rfl p13
        cases lo_nil p14
        rw [vn_at hx1 (n := 0) (z := 0) rfl] at d10
        have e10 : zo = y10 := Int32.toInt_inj.mp (by omega)
        subst e10
        rw [vn_at hx1 (n := 2) (z := zs.toInt) rfl] at d11
        have e11 : zs = y11 := Int32.toInt_inj.mp (by omega)
        subst e11
        rw [vn_at hx1 (n := 3) (z := zp.toInt) rfl] at d12
        have e12 : zp = y12 := Int32.toInt_inj.mp (by omega)
        subst e12
        rw [vn_at hx1 (n := 4) (z := zw.toInt) rfl] at d13
        have e13 : zw = y13 := Int32.toInt_inj.mp (by omega)
        subst e13
        rw [vn_at hx1 (n := 0) (z := 0) rfl] at d14
        exact ih 2 zw y14 ws1 (by omega) (by rw [awF_n hb]; exact ew) (by omega) hw1 (hfr.tr hf1)
    · skip
      refine hildw (j := 4) (x := zk) C (tv_m83.1.1.1 (5, .iload 4, 2) (List.mem_of_getElem? (i := 4) rfl)) (List.mem_of_getElem? (i := 4) rfl) ?_
      by_cases hb : aa.testBit 2 = true
      · have hmem := (aw_b2 aa haa).1 hb
        refine hsum (st := (7, [(0, (1, 0, 0, (aa : Int))), (1, (1, 2, 0, 0)), (2, (1, 3, 0, 0)), (3, (1, 4, 0, 0)), (4, (1, 0, 0, 2))], [(1, 0, 0, 2)], [(0, 0, false, 0, 0), (0, 2555, false, 1, 0), (1, 20, false, 2, 0), (0, 99, false, 3, 0), (0, 4, false, 4, 0)], [], [])) (List.all_eq_true.mp aw_21 aa hmem) rfl C (r := [0, 0, zs.toInt, zp.toInt, zw.toInt]) ⟨en_mk (by simp only [en_b, and_true]; omega) rfl, sb0, ⟨rfl, int_dv (z := 0) rfl (by omega), rfl, int_dv (z := zs.toInt) rfl (by omega), rfl, int_dv (z := zp.toInt) rfl (by omega), rfl, int_dv (z := zw.toInt) rfl (by omega), rfl, int_dv (z := 0) rfl (by omega), trivial⟩, ⟨int_dv (z := 0) rfl (by omega), trivial⟩, hw, k0, fun _ _ _ _ h => h, fun h => by cases h⟩ (fun x hx r1 lv1 st1 ws1 hx1 hb1 hl1 hs1 hlo1 hsk1 hw1 hV1 hf1 _ => ?_)
        unfold aw_21_S at hx
        have m1_2 := nm_x hx1 (k := 2) rfl
        have m1_3 := nm_x hx1 (k := 3) rfl
        have m1_4 := nm_x hx1 (k := 4) rfl
        have hx0 := List.mem_singleton.mp hx
        subst hx0
        dsimp only at hlo1 hsk1 ⊢
        simp (config := { decide := true }) only [bnd_b, lin_b, lin_q, Nat.reduceAdd, Nat.zero_add, Nat.reduceEqDiff, reduceIte, and_true, Int.add_zero] at hb1 hl1
        obtain ⟨y10, l10, rfl, d10, p10⟩ := lo_int rfl hlo1
        obtain ⟨y11, l11, rfl, d11, p11⟩ := lo_int rfl p10
        obtain ⟨y12, l12, rfl, d12, p12⟩ := lo_int rfl p11
        obtain ⟨y13, l13, rfl, d13, p13⟩ := lo_int rfl p12
        obtain ⟨y14, l14, rfl, d14, p14⟩ := lo_int rfl p13
        cases lo_nil p14
        rw [vn_at hx1 (n := 0) (z := 0) rfl] at d10
        have e10 : zo = y10 := Int32.toInt_inj.mp (by omega)
        subst e10
        rw [vn_at hx1 (n := 2) (z := zs.toInt) rfl] at d11
        have e11 : zs = y11 := Int32.toInt_inj.mp (by omega)
        subst e11
        rw [vn_at hx1 (n := 3) (z := zp.toInt) rfl] at d12
        have e12 : zp = y12 := Int32.toInt_inj.mp (by omega)
        subst e12
        rw [vn_at hx1 (n := 4) (z := zw.toInt) rfl] at d13
        have e13 : zw = y13 := Int32.toInt_inj.mp (by omega)
        subst e13
        rw [vn_at hx1 (n := 0) (z := 0) rfl] at d14
        have e14 : zk = y14 := Int32.toInt_inj.mp (by omega)
        subst e14
        obtain ⟨x10, s10, rfl, c10, g10⟩ := hsk1.cons
        obtain ⟨x11, s11, rfl, c11, g11⟩ := g10.cons
        obtain ⟨x12, s12, rfl, c12, g12⟩ := g11.cons
        obtain ⟨x13, s13, rfl, c13, g13⟩ := g12.cons
        obtain ⟨x14, s14, rfl, c14, g14⟩ := g13.cons
        cases g14.nil
        obtain ⟨u10, rfl, w10⟩ := dvn c10 (hx1.at (k := 3) rfl)
        obtain ⟨u11, rfl, w11⟩ := dvn c11 (hx1.at (k := 2) rfl)
        obtain ⟨u13, rfl, w13⟩ := dvn c13 (hx1.at (k := 0) rfl)
        obtain ⟨u14, rfl, w14⟩ := dvn c14 (hx1.at (k := 4) rfl)
        obtain ⟨u12, rfl, w12⟩ := aw_int c12
        unfold vn at w12
        dsimp only at w12
        have hyl : u12.toInt = yl ((2 : Nat) : Int) zs.toInt zp.toInt := by
          rw [yl_2]
          omega
        have hyr : 0 ≤ u12.toInt ∧ u12.toInt ≤ 20 := by omega
        refine hcallS (q := (227, 1, 97, 3, 0)) (M' := tb_m97) (As := [.int u12, .int u11, .int u10]) (rest := [.int u13, .int u14]) (rets := [36]) (P := fun w z => ai_wd tb_TY ad tys w ∧ ai_fr [] ws1 w ∧ z.toInt = ((ktF zs.toInt zp.toInt (yl ((2 : Nat) : Int) zs.toInt zp.toInt) 4 : Nat) : Int)) C (by decide) (tv_m83.1.1.1 (35, .invokestatic 227, 3) (List.mem_of_getElem? (i := 21) rfl)) (tv_m83.2 _ (List.mem_of_getElem? (i := 34) rfl)) (Or.inl rfl) rfl rfl rfl (Nat.le_of_ble_eq_true rfl) (Nat.le_of_ble_eq_true rfl) rfl (Nat.le_of_ble_eq_true rfl) ?_ ?_ ?_
        · intro pcr hp
          simp only [List.mem_cons, List.not_mem_nil, or_false] at hp
          rcases hp with rfl
          · exact tv_m97.1.1.1 (36, .ireturn, 1) (List.mem_of_getElem? (i := 22) rfl)
        · intro p2 e2 R2 s2 m2 args2 below2 meth2 c2 Q2 C2 kk2
          exact kt_all (mm_cx (by decide) C2) (by omega) (by omega) (by omega) hw1 (fun w z lv2 h1 h2 h3 => kk2 36 w z lv2 (by decide) ⟨h1, h2, by rw [h3, hyl, show u11.toInt = zs.toInt by omega, show u10.toInt = zp.toInt by omega]⟩)
        · intro ws2 zt hP
          obtain ⟨hw2, hf2, ezt⟩ := hP
          have bt := ktF_b zs.toInt zp.toInt (yl ((2 : Nat) : Int) zs.toInt zp.toInt) 4 (by decide)
          generalize hT : ktF zs.toInt zp.toInt (yl ((2 : Nat) : Int) zs.toInt zp.toInt) 4 = T at bt ezt
          have q1 : u13 = Int32.ofNat aa := i32_of (by omega) (by omega)
          have q2 : zt = Int32.ofNat T := i32_of (by omega) (by omega)
          have han := and_i _ haa _ bt
          have hab := and_b _ haa _ bt
          rw [q1, q2]
          refine hiand (pc := 38) C (tv_m83.1.1.1 (38, .iand, 1) (List.mem_of_getElem? (i := 22) rfl)) ?_
          generalize (Int32.ofNat aa &&& Int32.ofNat T) = zv at han ⊢
          refine hcallS (q := (213, 1, 170, 1, 0)) (M' := tb_m170) (As := [.int zv]) (rest := [.int u14]) (rets := [52]) (P := fun w z => ai_wd tb_TY ad tys w ∧ ai_fr [] ws2 w ∧ z.toInt = ((pcF (aa &&& T) : Nat) : Int)) C (by decide) (tv_m83.1.1.1 (39, .invokestatic 213, 3) (List.mem_of_getElem? (i := 23) rfl)) (tv_m83.2 _ (List.mem_of_getElem? (i := 30) rfl)) (Or.inl rfl) rfl rfl rfl (Nat.le_of_ble_eq_true rfl) (Nat.le_of_ble_eq_true rfl) rfl (Nat.le_of_ble_eq_true rfl) ?_ ?_ ?_
          · intro pcr hp
            simp only [List.mem_cons, List.not_mem_nil, or_false] at hp
            rcases hp with rfl
            · exact tv_m170.1.1.1 (52, .ireturn, 1) (List.mem_of_getElem? (i := 41) rfl)
          · intro p2 e2 R2 s2 m2 args2 below2 meth2 c2 Q2 C2 kk2
            exact bc_all7 (mm_cx (by decide) C2) hab han hw2 (fun w z lv2 h1 h2 h3 => kk2 52 w z lv2 (by decide) ⟨h1, h2, h3⟩)
          · intro ws3 zc hP3
            obtain ⟨hw3, hf3, ezc⟩ := hP3
            have bc := pcF_b _ hab
            have q4 : u14 = zw := Int32.toInt_inj.mp (by omega)
            rw [q4]
            refine hsum (st := (42, [(0, (1, 0, 0, (aa : Int))), (1, (1, 2, 0, 0)), (2, (1, 3, 0, 0)), (3, (1, 4, 0, 0)), (4, (1, 0, 0, 2))], [(1, 5, 0, 0), (1, 4, 0, 0)], [(0, 0, false, 0, 0), (0, 2555, false, 1, 0), (1, 20, false, 2, 0), (0, 99, false, 3, 0), (0, 4, false, 4, 0), (0, 4, false, 5, 0)], [], [])) (List.all_eq_true.mp aw_m2 aa (List.mem_range.mpr haa)) rfl C (r := [0, 0, zs.toInt, zp.toInt, zw.toInt, zc.toInt]) ⟨en_mk (by simp only [en_b, and_true]; omega) rfl, sb0, ⟨rfl, int_dv (z := 0) rfl (by omega), rfl, int_dv (z := zs.toInt) rfl (by omega), rfl, int_dv (z := zp.toInt) rfl (by omega), rfl, int_dv (z := zw.toInt) rfl (by omega), rfl, int_dv (z := 0) rfl (by omega), trivial⟩, ⟨int_dv (z := zc.toInt) rfl (by omega), int_dv (z := zw.toInt) rfl (by omega), trivial⟩, hw3, k0, fun _ _ _ _ h => h, fun h => by cases h⟩ (fun x hx r4 lv4 st4 ws4 hx4 hb4 hl4 hs4 hlo4 hsk4 hw4 hV4 hf4 _ => ?_)
            unfold aw_m2_S at hx
            have m4_2 := nm_x hx4 (k := 2) rfl
            have m4_3 := nm_x hx4 (k := 3) rfl
            have m4_4 := nm_x hx4 (k := 4) rfl
            have m4_5 := nm_x hx4 (k := 5) rfl
            have hx0 := List.mem_singleton.mp hx
            subst hx0
            dsimp only at hlo4 hsk4 ⊢
            simp (config := { decide := true }) only [bnd_b, lin_b, lin_q, Nat.reduceAdd, Nat.zero_add, Nat.reduceEqDiff, reduceIte, and_true, Int.add_zero] at hb4 hl4
            cases hsk4.nil
            obtain ⟨y40, l40, rfl, d40, p40⟩ := lo_int rfl hlo4
            obtain ⟨y41, l41, rfl, d41, p41⟩ := lo_int rfl p40
            obtain ⟨y42, l42, rfl, d42, p42⟩ := lo_int rfl p41
            obtain ⟨y43, l43, rfl, d43, p43⟩ := lo_int rfl p42
            obtain ⟨y44, l44, rfl, d44, p44⟩ := lo_int rfl p43
            cases lo_nil p44
            rw [vn_at hx4 (n := 0) (z := 0) rfl] at d40
            have e40 : zo = y40 := Int32.toInt_inj.mp (by omega)
            subst e40
            rw [vn_at hx4 (n := 2) (z := zs.toInt) rfl] at d41
            have e41 : zs = y41 := Int32.toInt_inj.mp (by omega)
            subst e41
            rw [vn_at hx4 (n := 3) (z := zp.toInt) rfl] at d42
            have e42 : zp = y42 := Int32.toInt_inj.mp (by omega)
            subst e42
            rw [vn_at hx4 (n := 0) (z := 0) rfl] at d44
            unfold vn at d43
            dsimp only at d43
            exact ih 3 y43 y44 ws4 (by omega) (by rw [awF_y hb, hT]; omega) (by omega) hw4 ((((hfr.tr hf1).tr hf2).tr hf3).tr hf4)
      · have hmem := (aw_b2 aa haa).2 hb
        refine hsum (st := (7, [(0, (1, 0, 0, (aa : Int))), (1, (1, 2, 0, 0)), (2, (1, 3, 0, 0)), (3, (1, 4, 0, 0)), (4, (1, 0, 0, 2))], [(1, 0, 0, 2)], [(0, 0, false, 0, 0), (0, 2555, false, 1, 0), (1, 20, false, 2, 0), (0, 99, false, 3, 0), (0, 4, false, 4, 0)], [], [])) (List.all_eq_true.mp aw_20 aa hmem) rfl C (r := [0, 0, zs.toInt, zp.toInt, zw.toInt]) ⟨en_mk (by simp only [en_b, and_true]; omega) rfl, sb0, ⟨rfl, int_dv (z := 0) rfl (by omega), rfl, int_dv (z := zs.toInt) rfl (by omega), rfl, int_dv (z := zp.toInt) rfl (by omega), rfl, int_dv (z := zw.toInt) rfl (by omega), rfl, int_dv (z := 0) rfl (by omega), trivial⟩, ⟨int_dv (z := 0) rfl (by omega), trivial⟩, hw, k0, fun _ _ _ _ h => h, fun h => by cases h⟩ (fun x hx r1 lv1 st1 ws1 hx1 hb1 hl1 hs1 hlo1 hsk1 hw1 hV1 hf1 _ => ?_)
        unfold aw_20_S at hx
        have m1_2 := nm_x hx1 (k := 2) rfl
        have m1_3 := nm_x hx1 (k := 3) rfl
        have m1_4 := nm_x hx1 (k := 4) rfl
        have hx0 := List.mem_singleton.mp hx
        subst hx0
        dsimp only at hlo1 hsk1 ⊢
        simp (config := { decide := true }) only [bnd_b, lin_b, lin_q, Nat.reduceAdd, Nat.zero_add, Nat.reduceEqDiff, reduceIte, and_true, Int.add_zero] at hb1 hl1
        cases hsk1.nil
        obtain ⟨y10, l10, rfl, d10, p10⟩ := lo_int rfl hlo1
        obtain ⟨y11, l11, rfl, d11, p11⟩ := lo_int rfl p10
        obtain ⟨y12, l12, rfl, d12, p12⟩ := lo_int rfl p11
        obtain ⟨y13, l13, rfl, d13, p13⟩ := lo_int rfl p12
        obtain ⟨y14, l14, rfl, d14, p14⟩ := lo_int rfl p13
        cases lo_nil p14
        rw [vn_at hx1 (n := 0) (z := 0) rfl] at d10
        have e10 : zo = y10 := Int32.toInt_inj.mp (by omega)
        subst e10
        rw [vn_at hx1 (n := 2) (z := zs.toInt) rfl] at d11
        have e11 : zs = y11 := Int32.toInt_inj.mp (by omega)
        subst e11
        rw [vn_at hx1 (n := 3) (z := zp.toInt) rfl] at d12
        have e12 : zp = y12 := Int32.toInt_inj.mp (by omega)
        subst e12
        rw [vn_at hx1 (n := 4) (z := zw.toInt) rfl] at d13
        have e13 : zw = y13 := Int32.toInt_inj.mp (by omega)
        subst e13
        rw [vn_at hx1 (n := 0) (z := 0) rfl] at d14
        exact ih 3 zw y14 ws1 (by omega) (by rw [awF_n hb]; exact ew) (by omega) hw1 (hfr.tr hf1)
    · skip
      refine hildw (j := 4) (x := zk) C (tv_m83.1.1.1 (5, .iload 4, 2) (List.mem_of_getElem? (i := 4) rfl)) (List.mem_of_getElem? (i := 4) rfl) ?_
      by_cases hb : aa.testBit 3 = true
      · have hmem := (aw_b3 aa haa).1 hb
        refine hsum (st := (7, [(0, (1, 0, 0, (aa : Int))), (1, (1, 2, 0, 0)), (2, (1, 3, 0, 0)), (3, (1, 4, 0, 0)), (4, (1, 0, 0, 3))], [(1, 0, 0, 3)], [(0, 0, false, 0, 0), (0, 2555, false, 1, 0), (1, 20, false, 2, 0), (0, 99, false, 3, 0), (0, 4, false, 4, 0)], [], [])) (List.all_eq_true.mp aw_31 aa hmem) rfl C (r := [0, 0, zs.toInt, zp.toInt, zw.toInt]) ⟨en_mk (by simp only [en_b, and_true]; omega) rfl, sb0, ⟨rfl, int_dv (z := 0) rfl (by omega), rfl, int_dv (z := zs.toInt) rfl (by omega), rfl, int_dv (z := zp.toInt) rfl (by omega), rfl, int_dv (z := zw.toInt) rfl (by omega), rfl, int_dv (z := 0) rfl (by omega), trivial⟩, ⟨int_dv (z := 0) rfl (by omega), trivial⟩, hw, k0, fun _ _ _ _ h => h, fun h => by cases h⟩ (fun x hx r1 lv1 st1 ws1 hx1 hb1 hl1 hs1 hlo1 hsk1 hw1 hV1 hf1 _ => ?_)
        unfold aw_31_S at hx
        have m1_2 := nm_x hx1 (k := 2) rfl
        have m1_3 := nm_x hx1 (k := 3) rfl
        have m1_4 := nm_x hx1 (k := 4) rfl
        have hx0 := List.mem_singleton.mp hx
        subst hx0
        dsimp only at hlo1 hsk1 ⊢
        simp (config := { decide := true }) only [bnd_b, lin_b, lin_q, Nat.reduceAdd, Nat.zero_add, Nat.reduceEqDiff, reduceIte, and_true, Int.add_zero] at hb1 hl1
        obtain ⟨y10, l10, rfl, d10, p10⟩ := lo_int rfl hlo1
        obtain ⟨y11, l11, rfl, d11, p11⟩ := lo_int rfl p10
        obtain ⟨y12, l12, rfl, d12, p12⟩ := lo_int rfl p11
        obtain ⟨y13, l13, rfl, d13, p13⟩ := lo_int rfl p12
        obtain ⟨y14, l14, rfl, d14, p14⟩ := lo_int rfl p13
        cases lo_nil p14
        rw [vn_at hx1 (n := 0) (z := 0) rfl] at d10
        have e10 : zo = y10 := Int32.toInt_inj.mp (by omega)
        subst e10
        rw [vn_at hx1 (n := 2) (z := zs.toInt) rfl] at d11
        have e11 : zs = y11 := Int32.toInt_inj.mp (by omega)
        subst e11
        rw [vn_at hx1 (n := 3) (z := zp.toInt) rfl] at d12
        have e12 : zp = y12 := Int32.toInt_inj.mp (by omega)
        subst e12
        rw [vn_at hx1 (n := 4) (z := zw.toInt) rfl] at d13
        have e13 : zw = y13 := Int32.toInt_inj.mp (by omega)
        subst e13
        rw [vn_at hx1 (n := 0) (z := 0) rfl] at d14
        have e14 : zk = y14 := Int32.toInt_inj.mp (by omega)
        subst e14
        obtain ⟨x10, s10, rfl, c10, g10⟩ := hsk1.cons
        obtain ⟨x11, s11, rfl, c11, g11⟩ := g10.cons
        obtain ⟨x12, s12, rfl, c12, g12⟩ := g11.cons
        obtain ⟨x13, s13, rfl, c13, g13⟩ := g12.cons
        obtain ⟨x14, s14, rfl, c14, g14⟩ := g13.cons
        cases g14.nil
        obtain ⟨u10, rfl, w10⟩ := dvn c10 (hx1.at (k := 3) rfl)
        obtain ⟨u11, rfl, w11⟩ := dvn c11 (hx1.at (k := 2) rfl)
        obtain ⟨u13, rfl, w13⟩ := dvn c13 (hx1.at (k := 0) rfl)
        obtain ⟨u14, rfl, w14⟩ := dvn c14 (hx1.at (k := 4) rfl)
        obtain ⟨u12, rfl, w12⟩ := aw_int c12
        unfold vn at w12
        dsimp only at w12
        have hyl : u12.toInt = yl ((3 : Nat) : Int) zs.toInt zp.toInt := by
          rw [yl_3]
          omega
        have hyr : 0 ≤ u12.toInt ∧ u12.toInt ≤ 20 := by omega
        refine hcallS (q := (227, 1, 97, 3, 0)) (M' := tb_m97) (As := [.int u12, .int u11, .int u10]) (rest := [.int u13, .int u14]) (rets := [36]) (P := fun w z => ai_wd tb_TY ad tys w ∧ ai_fr [] ws1 w ∧ z.toInt = ((ktF zs.toInt zp.toInt (yl ((3 : Nat) : Int) zs.toInt zp.toInt) 4 : Nat) : Int)) C (by decide) (tv_m83.1.1.1 (35, .invokestatic 227, 3) (List.mem_of_getElem? (i := 21) rfl)) (tv_m83.2 _ (List.mem_of_getElem? (i := 34) rfl)) (Or.inl rfl) rfl rfl rfl (Nat.le_of_ble_eq_true rfl) (Nat.le_of_ble_eq_true rfl) rfl (Nat.le_of_ble_eq_true rfl) ?_ ?_ ?_
        · intro pcr hp
          simp only [List.mem_cons, List.not_mem_nil, or_false] at hp
          rcases hp with rfl
          · exact tv_m97.1.1.1 (36, .ireturn, 1) (List.mem_of_getElem? (i := 22) rfl)
        · intro p2 e2 R2 s2 m2 args2 below2 meth2 c2 Q2 C2 kk2
          exact kt_all (mm_cx (by decide) C2) (by omega) (by omega) (by omega) hw1 (fun w z lv2 h1 h2 h3 => kk2 36 w z lv2 (by decide) ⟨h1, h2, by rw [h3, hyl, show u11.toInt = zs.toInt by omega, show u10.toInt = zp.toInt by omega]⟩)
        · intro ws2 zt hP
          obtain ⟨hw2, hf2, ezt⟩ := hP
          have bt := ktF_b zs.toInt zp.toInt (yl ((3 : Nat) : Int) zs.toInt zp.toInt) 4 (by decide)
          generalize hT : ktF zs.toInt zp.toInt (yl ((3 : Nat) : Int) zs.toInt zp.toInt) 4 = T at bt ezt
          have q1 : u13 = Int32.ofNat aa := i32_of (by omega) (by omega)
          have q2 : zt = Int32.ofNat T := i32_of (by omega) (by omega)
          have han := and_i _ haa _ bt
          have hab := and_b _ haa _ bt
          rw [q1, q2]
          refine hiand (pc := 38) C (tv_m83.1.1.1 (38, .iand, 1) (List.mem_of_getElem? (i := 22) rfl)) ?_
          generalize (Int32.ofNat aa &&& Int32.ofNat T) = zv at han ⊢
          refine hcallS (q := (213, 1, 170, 1, 0)) (M' := tb_m170) (As := [.int zv]) (rest := [.int u14]) (rets := [52]) (P := fun w z => ai_wd tb_TY ad tys w ∧ ai_fr [] ws2 w ∧ z.toInt = ((pcF (aa &&& T) : Nat) : Int)) C (by decide) (tv_m83.1.1.1 (39, .invokestatic 213, 3) (List.mem_of_getElem? (i := 23) rfl)) (tv_m83.2 _ (List.mem_of_getElem? (i := 30) rfl)) (Or.inl rfl) rfl rfl rfl (Nat.le_of_ble_eq_true rfl) (Nat.le_of_ble_eq_true rfl) rfl (Nat.le_of_ble_eq_true rfl) ?_ ?_ ?_
          · intro pcr hp
            simp only [List.mem_cons, List.not_mem_nil, or_false] at hp
            rcases hp with rfl
            · exact tv_m170.1.1.1 (52, .ireturn, 1) (List.mem_of_getElem? (i := 41) rfl)
          · intro p2 e2 R2 s2 m2 args2 below2 meth2 c2 Q2 C2 kk2
            exact bc_all7 (mm_cx (by decide) C2) hab han hw2 (fun w z lv2 h1 h2 h3 => kk2 52 w z lv2 (by decide) ⟨h1, h2, h3⟩)
          · intro ws3 zc hP3
            obtain ⟨hw3, hf3, ezc⟩ := hP3
            have bc := pcF_b _ hab
            have q4 : u14 = zw := Int32.toInt_inj.mp (by omega)
            rw [q4]
            refine hsum (st := (42, [(0, (1, 0, 0, (aa : Int))), (1, (1, 2, 0, 0)), (2, (1, 3, 0, 0)), (3, (1, 4, 0, 0)), (4, (1, 0, 0, 3))], [(1, 5, 0, 0), (1, 4, 0, 0)], [(0, 0, false, 0, 0), (0, 2555, false, 1, 0), (1, 20, false, 2, 0), (0, 99, false, 3, 0), (0, 4, false, 4, 0), (0, 4, false, 5, 0)], [], [])) (List.all_eq_true.mp aw_m3 aa (List.mem_range.mpr haa)) rfl C (r := [0, 0, zs.toInt, zp.toInt, zw.toInt, zc.toInt]) ⟨en_mk (by simp only [en_b, and_true]; omega) rfl, sb0, ⟨rfl, int_dv (z := 0) rfl (by omega), rfl, int_dv (z := zs.toInt) rfl (by omega), rfl, int_dv (z := zp.toInt) rfl (by omega), rfl, int_dv (z := zw.toInt) rfl (by omega), rfl, int_dv (z := 0) rfl (by omega), trivial⟩, ⟨int_dv (z := zc.toInt) rfl (by omega), int_dv (z := zw.toInt) rfl (by omega), trivial⟩, hw3, k0, fun _ _ _ _ h => h, fun h => by cases h⟩ (fun x hx r4 lv4 st4 ws4 hx4 hb4 hl4 hs4 hlo4 hsk4 hw4 hV4 hf4 _ => ?_)
            unfold aw_m3_S at hx
            have m4_2 := nm_x hx4 (k := 2) rfl
            have m4_3 := nm_x hx4 (k := 3) rfl
            have m4_4 := nm_x hx4 (k := 4) rfl
            have m4_5 := nm_x hx4 (k := 5) rfl
            have hx0 := List.mem_singleton.mp hx
            subst hx0
            dsimp only at hlo4 hsk4 ⊢
            simp (config := { decide := true }) only [bnd_b, lin_b, lin_q, Nat.reduceAdd, Nat.zero_add, Nat.reduceEqDiff, reduceIte, and_true, Int.add_zero] at hb4 hl4
            cases hsk4.nil
            obtain ⟨y40, l40, rfl, d40, p40⟩ := lo_int rfl hlo4
            obtain ⟨y41, l41, rfl, d41, p41⟩ := lo_int rfl p40
            obtain ⟨y42, l42, rfl, d42, p42⟩ := lo_int rfl p41
            obtain ⟨y43, l43, rfl, d43, p43⟩ := lo_int rfl p42
            obtain ⟨y44, l44, rfl, d44, p44⟩ := lo_int rfl p43
            cases lo_nil p44
            rw [vn_at hx4 (n := 0) (z := 0) rfl] at d40
            have e40 : zo = y40 := Int32.toInt_inj.mp (by omega)
            subst e40
            rw [vn_at hx4 (n := 2) (z := zs.toInt) rfl] at d41
            have e41 : zs = y41 := Int32.toInt_inj.mp (by omega)
            subst e41
            rw [vn_at hx4 (n := 3) (z := zp.toInt) rfl] at d42
            have e42 : zp = y42 := Int32.toInt_inj.mp (by omega)
            subst e42
            rw [vn_at hx4 (n := 0) (z := 0) rfl] at d44
            unfold vn at d43
            dsimp only at d43
            exact ih 4 y43 y44 ws4 (by omega) (by rw [awF_y hb, hT]; omega) (by omega) hw4 ((((hfr.tr hf1).tr hf2).tr hf3).tr hf4)
      · have hmem := (aw_b3 aa haa).2 hb
        refine hsum (st := (7, [(0, (1, 0, 0, (aa : Int))), (1, (1, 2, 0, 0)), (2, (1, 3, 0, 0)), (3, (1, 4, 0, 0)), (4, (1, 0, 0, 3))], [(1, 0, 0, 3)], [(0, 0, false, 0, 0), (0, 2555, false, 1, 0), (1, 20, false, 2, 0), (0, 99, false, 3, 0), (0, 4, false, 4, 0)], [], [])) (List.all_eq_true.mp aw_30 aa hmem) rfl C (r := [0, 0, zs.toInt, zp.toInt, zw.toInt]) ⟨en_mk (by simp only [en_b, and_true]; omega) rfl, sb0, ⟨rfl, int_dv (z := 0) rfl (by omega), rfl, int_dv (z := zs.toInt) rfl (by omega), rfl, int_dv (z := zp.toInt) rfl (by omega), rfl, int_dv (z := zw.toInt) rfl (by omega), rfl, int_dv (z := 0) rfl (by omega), trivial⟩, ⟨int_dv (z := 0) rfl (by omega), trivial⟩, hw, k0, fun _ _ _ _ h => h, fun h => by cases h⟩ (fun x hx r1 lv1 st1 ws1 hx1 hb1 hl1 hs1 hlo1 hsk1 hw1 hV1 hf1 _ => ?_)
        unfold aw_30_S at hx
        have m1_2 := nm_x hx1 (k := 2) rfl
        have m1_3 := nm_x hx1 (k := 3) rfl
        have m1_4 := nm_x hx1 (k := 4) rfl
        have hx0 := List.mem_singleton.mp hx
        subst hx0
        dsimp only at hlo1 hsk1 ⊢
        simp (config := { decide := true }) only [bnd_b, lin_b, lin_q, Nat.reduceAdd, Nat.zero_add, Nat.reduceEqDiff, reduceIte, and_true, Int.add_zero] at hb1 hl1
        cases hsk1.nil
        obtain ⟨y10, l10, rfl, d10, p10⟩ := lo_int rfl hlo1
        obtain ⟨y11, l11, rfl, d11, p11⟩ := lo_int rfl p10
        obtain ⟨y12, l12, rfl, d12, p12⟩ := lo_int rfl p11
        obtain ⟨y13, l13, rfl, d13, p13⟩ := lo_int rfl p12
        obtain ⟨y14, l14, rfl, d14, p14⟩ := lo_int rfl p13
        cases lo_nil p14
        rw [vn_at hx1 (n := 0) (z := 0) rfl] at d10
        have e10 : zo = y10 := Int32.toInt_inj.mp (by omega)
        subst e10
        rw [vn_at hx1 (n := 2) (z := zs.toInt) rfl] at d11
        have e11 : zs = y11 := Int32.toInt_inj.mp (by omega)
        subst e11
        rw [vn_at hx1 (n := 3) (z := zp.toInt) rfl] at d12
        have e12 : zp = y12 := Int32.toInt_inj.mp (by omega)
        subst e12
        rw [vn_at hx1 (n := 4) (z := zw.toInt) rfl] at d13
        have e13 : zw = y13 := Int32.toInt_inj.mp (by omega)
        subst e13
        rw [vn_at hx1 (n := 0) (z := 0) rfl] at d14
        exact ih 4 zw y14 ws1 (by omega) (by rw [awF_n hb]; exact ew) (by omega) hw1 (hfr.tr hf1)
theorem aw_all {aa : Nat} {zo zs zp : Int32} {ws : va_W} (C : ai_cx tb_m83 9 p R s m args c D tys A b L sx cells slots) (haa : aa < 16) (eo : zo.toInt = aa) (hs : 1 ≤ zs.toInt ∧ zs.toInt ≤ 20) (hp : 0 ≤ zp.toInt ∧ zp.toInt ≤ 99) (hw : ai_wd tb_TY ad tys ws)
    (kk : ∀ (ws' : va_W) (z : Int32) (lv' : List (Nat × Value)), ai_wd tb_TY ad tys ws' → ai_fr [] ws ws' → z.toInt = ((awF aa zs.toInt zp.toInt 4 : Nat) : Int) → hG tb_m83 p l e R s m args below meth c D A cells slots Q 53 lv' [.int z] ws') : hG tb_m83 p l e R s m args below meth c D A cells slots Q 0 [(0, .int zo), (1, .int zs), (2, .int zp)] [] ws := by
  refine hsum (st := (0, [(0, (1, 4, 0, 0)), (1, (1, 2, 0, 0)), (2, (1, 3, 0, 0))], [], [(0, 0, false, 0, 0), (0, 2555, false, 1, 0), (1, 20, false, 2, 0), (0, 99, false, 3, 0), (0, 15, false, 4, 0)], [], [])) aw_0 rfl C (r := [0, 0, zs.toInt, zp.toInt, zo.toInt]) ⟨en_mk (by simp only [en_b, and_true]; omega) rfl, sb0, ⟨rfl, int_dv (z := zo.toInt) rfl (by omega), rfl, int_dv (z := zs.toInt) rfl (by omega), rfl, int_dv (z := zp.toInt) rfl (by omega), trivial⟩, trivial, hw, k0, fun _ _ _ _ h => h, fun h => by cases h⟩ (fun x hx r1 lv1 st1 ws1 hx1 hb1 hl1 hs1 hlo1 hsk1 hw1 hV1 hf1 _ => ?_)
  have hx9 := List.mem_singleton.mp hx
  subst hx9
  dsimp only at hlo1 hsk1 ⊢
  obtain ⟨y10, l10, rfl, d10, p10⟩ := lo_int rfl hlo1
  obtain ⟨y11, l11, rfl, d11, p11⟩ := lo_int rfl p10
  obtain ⟨y12, l12, rfl, d12, p12⟩ := lo_int rfl p11
  obtain ⟨y13, l13, rfl, d13, p13⟩ := lo_int rfl p12
  obtain ⟨y14, l14, rfl, d14, p14⟩ := lo_int rfl p13
  cases lo_nil p14
  rw [vn_at hx1 (n := 4) (z := zo.toInt) rfl] at d10
  have e10 : zo = y10 := Int32.toInt_inj.mp (by omega)
  subst e10
  rw [vn_at hx1 (n := 2) (z := zs.toInt) rfl] at d11
  have e11 : zs = y11 := Int32.toInt_inj.mp (by omega)
  subst e11
  rw [vn_at hx1 (n := 3) (z := zp.toInt) rfl] at d12
  have e12 : zp = y12 := Int32.toInt_inj.mp (by omega)
  subst e12
  rw [vn_at hx1 (n := 0) (z := 0) rfl] at d13
  rw [vn_at hx1 (n := 0) (z := 0) rfl] at d14
  cases hsk1.nil
  exact aw_loop C haa eo hs hp kk 4 0 y13 y14 ws1 rfl (by rw [show y13.toInt = 0 by omega]; rfl) (by omega) hw1 hf1
end XLW
