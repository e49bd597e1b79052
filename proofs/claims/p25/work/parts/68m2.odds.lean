/-! Odds of the class -/
theorem mulB {a b A B : Int} (h1 : 0 ≤ a) (h2 : a ≤ A) (h3 : 0 ≤ b) (h4 : b ≤ B) : 0 ≤ a * b ∧ a * b ≤ A * B := ⟨Int.mul_nonneg h1 h3, Int.mul_le_mul h2 h4 h3 (by omega)⟩
theorem le_mulr {a b : Int} (ha : 0 ≤ a) (hb : 1 ≤ b) : a ≤ a * b := by
  have h := Int.mul_le_mul_of_nonneg_left hb ha
  rw [Int.mul_one] at h
  exact h
theorem pot_1 {v : Int} (Z g i x : Nat) : 1 ≤ potF v Z g i (fun _ => 1) x := by
  unfold potF
  split
  · show 1 ≤ v * 1 + (10 - v) * 1
    rw [Int.mul_one, Int.mul_one]
    omega
  · exact Int.le_refl 1
theorem pot_b {v : Int} {Z g i : Nat} {F : Nat → Int} {R : Int} (hR : sumN (fun x => F x * potF v Z g i (fun _ => 1) x) (Z + 1) ≤ R) (hZ : Z ≤ 99) (nn : ∀ x, x < 100 → 0 ≤ F x) {x : Nat} (hx : x ≤ Z) : F x ≤ R := by
  have h1 : F x ≤ F x * potF v Z g i (fun _ => 1) x := le_mulr (nn x (by omega)) (pot_1 Z g i x)
  have h2 := sumN_at (g := fun x => F x * potF v Z g i (fun _ => 1) x) (k := Z + 1) (a := x) (fun y hy => Int.mul_nonneg (nn y (by omega)) (by have := pot_1 (v := v) Z g i y; omega)) (by omega)
  have h2 : F x * potF v Z g i (fun _ => 1) x ≤ _ := h2
  omega
theorem wr1L {c f x : Nat} (h : x ≠ f) (hc : c ≠ 1000) : ai_wr [(c, f, f + 1)] c x x = false := wr_no fun q hq => by
  rw [List.mem_singleton.mp hq]
  exact ⟨hc, fun _ => by
    show x < f ∨ f + 1 ≤ x
    omega⟩
theorem up_vl {F : Nat → Int} {f : Nat} {y : Int} {ws ws' : va_W} (hF : ∀ x, x < 100 → vl ws 40 x (F x)) (hf : ai_fr [(40, f, f + 1)] ws ws') (hy : vl ws' 40 f y) : ∀ x, x < 100 → vl ws' 40 x (upN F f y x) := fun x hx => by
  by_cases h : x = f
  · rw [h, upN_at]
    exact hy
  · rw [upN_ne h]
    exact (hF x hx).fr hf (wr1L h (by decide))
theorem up_nn {F : Nat → Int} {f : Nat} {y : Int} (nn : ∀ x, x < 100 → 0 ≤ F x) (hy : 0 ≤ y) : ∀ x, x < 100 → 0 ≤ upN F f y x := fun x hx => by
  by_cases h : x = f
  · rw [h, upN_at]
    exact hy
  · rw [upN_ne h]
    exact nn x hx
def sprF (v : Int) (Z g : Nat) (w : Nat → Int) (x : Nat) : Int := if x < Z then v * w x + (10 - v) * w (min Z (x + g)) else 10 * w x
theorem spr_0 {v : Int} {Z g : Nat} (F w : Nat → Int) : sumN (fun x => upN F Z (F Z * 10) x * potF v Z g Z w x) (Z + 1) = sumN (fun x => F x * sprF v Z g w x) (Z + 1) := by
  show sumN (fun x => upN F Z (F Z * 10) x * potF v Z g Z w x) Z + upN F Z (F Z * 10) Z * potF v Z g Z w Z = sumN (fun x => F x * sprF v Z g w x) Z + F Z * sprF v Z g w Z
  have e1 : potF v Z g Z w Z = w Z := if_neg (Nat.lt_irrefl Z)
  have e2 : sprF v Z g w Z = 10 * w Z := if_neg (Nat.lt_irrefl Z)
  rw [upN_at, e1, e2, Int.mul_assoc, sumN_ext (k := Z) (h := fun x => F x * sprF v Z g w x) (fun x hx => by
    try dsimp only
    rw [upN_ne (by omega)]
    unfold potF sprF
    rw [if_pos hx, if_pos hx])]
theorem spr_1 {v : Int} {Z g : Nat} (F : Nat → Int) : sumN (fun x => F x * sprF v Z g (fun _ => 1) x) (Z + 1) = 10 * sumN F (Z + 1) := by
  rw [← sumN_mul]
  refine sumN_ext fun x hx => ?_
  try dsimp only
  have e : sprF v Z g (fun _ => 1) x = 10 := by
    unfold sprF
    split
    · show v * 1 + (10 - v) * 1 = 10
      rw [Int.mul_one, Int.mul_one]
      omega
    · rfl
  rw [e, Int.mul_comm]
theorem yl_0 (s p : Int) : yl ((0 : Nat) : Int) s p = s := rfl
theorem yl_1 (s p : Int) : yl ((1 : Nat) : Int) s p = s / 2 := rfl
theorem yl_2 (s p : Int) : yl ((2 : Nat) : Int) s p = s / 2 / 4 := rfl
theorem yl_3 (s p : Int) : yl ((3 : Nat) : Int) s p = max 0 (s - 2 * p) := rfl
def so_W : List (Nat × Nat × Nat) := [(39, 1, 2), (40, 0, 100)]
def so_W1 : List (Nat × Nat × Nat) := [(40, 0, 100)]
theorem so_w1 {f : Nat} {u v : va_W} (hf : f < 100) (h : ai_fr [(40, f, f + 1)] u v) : ai_fr so_W1 u v := fr_sub (fun cc j h' q hq => by
  have h1 := h' (40, 0, 100) (by unfold so_W1; simp)
  dsimp only at h1
  rw [List.mem_singleton.mp hq]
  dsimp only
  omega) h
theorem so_w0 {u v : va_W} (h : ai_fr so_W1 u v) : ai_fr so_W u v := wsub_ok (V := so_W1) (by decide) h
theorem so_wA {u v : va_W} (h : ai_fr [(39, 1, 2)] u v) : ai_fr so_W u v := wsub_ok (V := [(39, 1, 2)]) (by decide) h
theorem so_x0 : ((ai_ex (hk []) 300 19 tb_m19 8 [79] (23, [(0, (0, 39, 0, 0)), (1, (1, 2, 0, 0)), (2, (1, 3, 0, 0)), (3, (1, 5, 0, 0))], [(1, 5, 0, 0)], [(0, 0, false, 0, 0), (0, 2555, false, 1, 0), (0, 20, false, 2, 0), (0, 10, false, 3, 0), (1, 99, false, 4, 0), (-1, -1, false, 5, 0)], [(39, 2, (1, 4, 0, 0))], [])).any fun xs => xs.all fun x => ([(79, [], [(0, 39, 0, 0), (0, 39, 0, 0)], [], [(0, 0, false, 0, 0), (0, 2555, false, 1, 0), (0, 20, false, 2, 0), (0, 10, false, 3, 0), (1, 99, false, 4, 0), (-1, -1, false, 5, 0)], [])] : List sm_t).any fun y => sm_is [] x y) = true := by decide +kernel
theorem so_x1 : ((ai_ex (hk []) 300 19 tb_m19 8 [85] (82, [], [(2, 2, 0, 0), (0, 39, 0, 0)], [(0, 0, false, 0, 0), (0, 2555, false, 1, 0), (-9223372036854775808, 9223372036854775807, false, 2, 0)], [], [])).any fun xs => xs.all fun x => ([(85, [], [(2, 0, 0, 10), (2, 2, 0, 0), (0, 39, 0, 0)], [], [(0, 0, false, 0, 0), (0, 2555, false, 1, 0), (-9223372036854775808, 9223372036854775807, false, 2, 0)], [])] : List sm_t).any fun y => sm_is [] x y) = true := by decide +kernel
theorem so_m1 : ((ai_ex (hk []) 300 19 tb_m19 8 [31] (23, [(0, (0, 39, 0, 0)), (1, (1, 2, 0, 0)), (2, (1, 3, 0, 0)), (3, (1, 5, 0, 0))], [(1, 5, 0, 0)], [(0, 0, false, 0, 0), (0, 2555, false, 1, 0), (0, 20, false, 2, 0), (0, 10, false, 3, 0), (1, 99, false, 4, 0), (0, 98, false, 5, 0)], [(39, 2, (1, 4, 0, 0))], [])).any fun xs => xs.all fun x => ([(31, [(0, (0, 39, 0, 0)), (1, (1, 2, 0, 0)), (2, (1, 3, 0, 0)), (3, (1, 5, 0, 0))], [(1, 5, 0, 0), (0, 40, 0, 0)], [], [(0, 0, false, 0, 0), (0, 2555, false, 1, 0), (0, 20, false, 2, 0), (0, 10, false, 3, 0), (1, 99, false, 4, 0), (0, 98, false, 5, 0)], [])] : List sm_t).any fun y => sm_is [] x y) = true := by decide +kernel
theorem so_m2 : ((ai_ex (hk []) 300 19 tb_m19 8 [43] (32, [(0, (0, 39, 0, 0)), (1, (1, 2, 0, 0)), (2, (1, 3, 0, 0)), (3, (1, 5, 0, 0))], [(2, 6, 0, 0)], [(0, 0, false, 0, 0), (0, 2555, false, 1, 0), (0, 20, false, 2, 0), (0, 10, false, 3, 0), (1, 99, false, 4, 0), (0, 98, false, 5, 0), (-9223372036854775808, 9223372036854775807, false, 6, 0)], [(39, 2, (1, 4, 0, 0))], [])).any fun xs => xs.all fun x => ([(43, [(0, (0, 39, 0, 0)), (1, (1, 2, 0, 0)), (2, (1, 3, 0, 0)), (3, (1, 5, 0, 0)), (4, (2, 6, 0, 0))], [(2, 3, 0, 0), (2, 6, 0, 0), (1, 5, 0, 0), (0, 40, 0, 0)], [], [(0, 0, false, 0, 0), (0, 2555, false, 1, 0), (0, 20, false, 2, 0), (0, 10, false, 3, 0), (1, 99, false, 4, 0), (0, 98, false, 5, 0), (-9223372036854775808, 9223372036854775807, false, 6, 0)], [])] : List sm_t).any fun y => sm_is [] x y) = true := by decide +kernel
def so_m3_S : List sm_t := [
  (60, [(0, (0, 39, 0, 0)), (1, (1, 2, 0, 0)), (2, (1, 3, 0, 0)), (3, (1, 5, 0, 0)), (4, (2, 6, 0, 0))], [(1, 8, 0, 0), (0, 40, 0, 0), (1, 8, 0, 0), (0, 40, 0, 0)], [], [(0, 0, false, 0, 0), (0, 2555, false, 1, 0), (0, 20, false, 2, 0), (0, 10, false, 3, 0), (1, 99, false, 4, 0), (0, 98, false, 5, 0), (-9223372036854775808, 9223372036854775807, false, 6, 0), (0, 118, false, 7, 0), (0, 99, false, 8, 0)], [(141, 4, 7, 8, 0), (1, 5, 2, 7, 0)])]
theorem so_m3 : ((ai_ex (hk []) 300 19 tb_m19 8 [60] (45, [(0, (0, 39, 0, 0)), (1, (1, 2, 0, 0)), (2, (1, 3, 0, 0)), (3, (1, 5, 0, 0)), (4, (2, 6, 0, 0))], [], [(0, 0, false, 0, 0), (0, 2555, false, 1, 0), (0, 20, false, 2, 0), (0, 10, false, 3, 0), (1, 99, false, 4, 0), (0, 98, false, 5, 0), (-9223372036854775808, 9223372036854775807, false, 6, 0)], [(39, 2, (1, 4, 0, 0))], [])).any fun xs => xs.all fun x => (so_m3_S : List sm_t).any fun y => sm_is [] x y) = true := by decide +kernel
def so_m4_S : List sm_t := [
  (68, [(0, (0, 39, 0, 0)), (1, (1, 2, 0, 0)), (2, (1, 3, 0, 0)), (3, (1, 5, 0, 0)), (4, (2, 6, 0, 0))], [(2, 9, 0, 0), (2, 6, 0, 0), (2, 7, 0, 0), (1, 8, 0, 0), (0, 40, 0, 0)], [], [(0, 0, false, 0, 0), (0, 2555, false, 1, 0), (0, 20, false, 2, 0), (0, 10, false, 3, 0), (1, 99, false, 4, 0), (0, 98, false, 5, 0), (-9223372036854775808, 9223372036854775807, false, 6, 0), (-9223372036854775808, 9223372036854775807, false, 7, 0), (0, 99, false, 8, 0), (0, 10, false, 9, 0)], [(0, 0, 3, 9, -10)])]
theorem so_m4 : ((ai_ex (hk []) 300 19 tb_m19 8 [68] (61, [(0, (0, 39, 0, 0)), (1, (1, 2, 0, 0)), (2, (1, 3, 0, 0)), (3, (1, 5, 0, 0)), (4, (2, 6, 0, 0))], [(2, 7, 0, 0), (1, 8, 0, 0), (0, 40, 0, 0)], [(0, 0, false, 0, 0), (0, 2555, false, 1, 0), (0, 20, false, 2, 0), (0, 10, false, 3, 0), (1, 99, false, 4, 0), (0, 98, false, 5, 0), (-9223372036854775808, 9223372036854775807, false, 6, 0), (-9223372036854775808, 9223372036854775807, false, 7, 0), (0, 99, false, 8, 0)], [(39, 2, (1, 4, 0, 0))], [])).any fun xs => xs.all fun x => (so_m4_S : List sm_t).any fun y => sm_is [] x y) = true := by decide +kernel
theorem so_m5 : ((ai_ex (hk []) 300 19 tb_m19 8 [22] (71, [(0, (0, 39, 0, 0)), (1, (1, 2, 0, 0)), (2, (1, 3, 0, 0)), (3, (1, 5, 0, 0)), (4, (2, 6, 0, 0))], [], [(0, 0, false, 0, 0), (0, 2555, false, 1, 0), (0, 20, false, 2, 0), (0, 10, false, 3, 0), (1, 99, false, 4, 0), (0, 98, false, 5, 0), (-9223372036854775808, 9223372036854775807, false, 6, 0)], [(39, 2, (1, 4, 0, 0))], [])).any fun xs => xs.all fun x => ([(22, [(0, (0, 39, 0, 0)), (1, (1, 2, 0, 0)), (2, (1, 3, 0, 0)), (3, (1, 5, 0, -1))], [], [], [(0, 0, false, 0, 0), (0, 2555, false, 1, 0), (0, 20, false, 2, 0), (0, 10, false, 3, 0), (1, 99, false, 4, 0), (0, 98, false, 5, 0), (-9223372036854775808, 9223372036854775807, false, 6, 0)], [])] : List sm_t).any fun y => sm_is [] x y) = true := by decide +kernel
theorem so_e1 : ((ai_ex (hk []) 300 19 tb_m19 8 [9] (0, [(0, (0, 39, 0, 0)), (1, (1, 2, 0, 0)), (2, (1, 3, 0, 0))], [], [(0, 0, false, 0, 0), (0, 2555, false, 1, 0), (0, 20, false, 2, 0), (0, 10, false, 3, 0), (1, 99, false, 4, 0)], [(39, 2, (1, 4, 0, 0))], [])).any fun xs => xs.all fun x => ([(9, [(0, (0, 39, 0, 0)), (1, (1, 2, 0, 0)), (2, (1, 3, 0, 0))], [(1, 4, 0, 0), (0, 40, 0, 0), (1, 4, 0, 0), (0, 40, 0, 0)], [], [(0, 0, false, 0, 0), (0, 2555, false, 1, 0), (0, 20, false, 2, 0), (0, 10, false, 3, 0), (1, 99, false, 4, 0)], [])] : List sm_t).any fun y => sm_is [] x y) = true := by decide +kernel
theorem so_e2 : ((ai_ex (hk []) 300 19 tb_m19 8 [13] (10, [(0, (0, 39, 0, 0)), (1, (1, 2, 0, 0)), (2, (1, 3, 0, 0))], [(2, 5, 0, 0), (1, 4, 0, 0), (0, 40, 0, 0)], [(0, 0, false, 0, 0), (0, 2555, false, 1, 0), (0, 20, false, 2, 0), (0, 10, false, 3, 0), (1, 99, false, 4, 0), (-9223372036854775808, 9223372036854775807, false, 5, 0)], [], [])).any fun xs => xs.all fun x => ([(13, [(0, (0, 39, 0, 0)), (1, (1, 2, 0, 0)), (2, (1, 3, 0, 0))], [(2, 0, 0, 10), (2, 5, 0, 0), (1, 4, 0, 0), (0, 40, 0, 0)], [], [(0, 0, false, 0, 0), (0, 2555, false, 1, 0), (0, 20, false, 2, 0), (0, 10, false, 3, 0), (1, 99, false, 4, 0), (-9223372036854775808, 9223372036854775807, false, 5, 0)], [])] : List sm_t).any fun y => sm_is [] x y) = true := by decide +kernel
theorem so_e3 : ((ai_ex (hk []) 300 19 tb_m19 8 [22] (15, [(0, (0, 39, 0, 0)), (1, (1, 2, 0, 0)), (2, (1, 3, 0, 0))], [], [(0, 0, false, 0, 0), (0, 2555, false, 1, 0), (0, 20, false, 2, 0), (0, 10, false, 3, 0), (1, 99, false, 4, 0)], [(39, 2, (1, 4, 0, 0))], [])).any fun xs => xs.all fun x => ([(22, [(0, (0, 39, 0, 0)), (1, (1, 2, 0, 0)), (2, (1, 3, 0, 0)), (3, (1, 4, 0, -1))], [], [], [(0, 0, false, 0, 0), (0, 2555, false, 1, 0), (0, 20, false, 2, 0), (0, 10, false, 3, 0), (1, 99, false, 4, 0)], [])] : List sm_t).any fun y => sm_is [] x y) = true := by decide +kernel
def spw_W : List (Nat × Nat × Nat) := [(39, 0, 9), (40, 0, 100)]
theorem sp_z0 : ((ai_ex (hk []) 300 18 tb_m18 9 [27] (5, [(0, (0, 39, 0, 0)), (1, (0, 1, 0, 0)), (2, (1, 2, 0, 0)), (3, (1, 3, 0, 0)), (4, (1, 4, 0, 0)), (5, (1, 5, 0, 0))], [(1, 5, 0, 0)], [(0, 0, false, 0, 0), (0, 2555, false, 1, 0), (0, 3, false, 2, 0), (0, 8, false, 3, 0), (0, 10, false, 4, 0), (100, 100, false, 5, 0)], [], [])).any fun xs => xs.all fun x => ([(27, [(0, (0, 39, 0, 0)), (1, (0, 1, 0, 0)), (2, (1, 2, 0, 0)), (3, (1, 3, 0, 0)), (4, (1, 4, 0, 0))], [], [], [(0, 0, false, 0, 0), (0, 2555, false, 1, 0), (0, 3, false, 2, 0), (0, 8, false, 3, 0), (0, 10, false, 4, 0), (100, 100, false, 5, 0)], [])] : List sm_t).any fun y => sm_is [] x y) = true := by decide +kernel
theorem sp_z1 : ((ai_ex (hk []) 300 18 tb_m18 9 [20] (5, [(0, (0, 39, 0, 0)), (1, (0, 1, 0, 0)), (2, (1, 2, 0, 0)), (3, (1, 3, 0, 0)), (4, (1, 4, 0, 0)), (5, (1, 5, 0, 0))], [(1, 5, 0, 0)], [(0, 0, false, 0, 0), (0, 2555, false, 1, 0), (0, 3, false, 2, 0), (0, 8, false, 3, 0), (0, 10, false, 4, 0), (0, 99, false, 5, 0)], [], [])).any fun xs => xs.all fun x => ([(20, [(0, (0, 39, 0, 0)), (1, (0, 1, 0, 0)), (2, (1, 2, 0, 0)), (3, (1, 3, 0, 0)), (4, (1, 4, 0, 0)), (5, (1, 5, 0, 0))], [(2, 0, 0, 0), (1, 5, 0, 0), (0, 40, 0, 0)], [], [(0, 0, false, 0, 0), (0, 2555, false, 1, 0), (0, 3, false, 2, 0), (0, 8, false, 3, 0), (0, 10, false, 4, 0), (0, 99, false, 5, 0)], [])] : List sm_t).any fun y => sm_is [] x y) = true := by decide +kernel
theorem sp_z2 : ((ai_ex (hk []) 300 18 tb_m18 9 [3] (21, [(0, (0, 39, 0, 0)), (1, (0, 1, 0, 0)), (2, (1, 2, 0, 0)), (3, (1, 3, 0, 0)), (4, (1, 4, 0, 0)), (5, (1, 5, 0, 0))], [], [(0, 0, false, 0, 0), (0, 2555, false, 1, 0), (0, 3, false, 2, 0), (0, 8, false, 3, 0), (0, 10, false, 4, 0), (0, 99, false, 5, 0)], [], [])).any fun xs => xs.all fun x => ([(3, [(0, (0, 39, 0, 0)), (1, (0, 1, 0, 0)), (2, (1, 2, 0, 0)), (3, (1, 3, 0, 0)), (4, (1, 4, 0, 0)), (5, (1, 5, 0, 1))], [], [], [(0, 0, false, 0, 0), (0, 2555, false, 1, 0), (0, 3, false, 2, 0), (0, 8, false, 3, 0), (0, 10, false, 4, 0), (0, 99, false, 5, 0)], [])] : List sm_t).any fun y => sm_is [] x y) = true := by decide +kernel
def sp_x_S (t : Nat) : List sm_t := [
  (122, [], [], [], [(0, 0, false, 0, 0), (0, 2555, false, 1, 0), (0, 3, false, 2, 0), (0, 8, false, 3, 0), (0, 10, false, 4, 0), (1, 99, false, 5, 0), (0, 0, false, 6, 0), (0, 99, false, 7, 0), (0, 20, false, 8, 0), (0, 3, false, 9, 0), (0, 8, false, 10, 0)], [(5, 10, 3, 10, 0), (5, 10, 3, 10, 0)])]
theorem sp_x : ((List.range 4).all fun t => (ai_ex (hk []) 300 18 tb_m18 9 [] (73, [(0, (0, 39, 0, 0)), (1, (0, 1, 0, 0)), (2, (1, 0, 0, (t : Int))), (3, (1, 3, 0, 0)), (4, (1, 4, 0, 0)), (5, (1, 7, 0, 0)), (6, (1, 8, 0, 0)), (7, (1, 10, 0, 0))], [(1, 10, 0, 0)], [(0, 0, false, 0, 0), (0, 2555, false, 1, 0), (0, 3, false, 2, 0), (0, 8, false, 3, 0), (0, 10, false, 4, 0), (1, 99, false, 5, 0), (0, 0, false, 6, 0), (0, 99, false, 7, 0), (0, 20, false, 8, 0), (0, 3, false, 9, 0), (0, 8, false, 10, 0)], [(2, t, (1, 9, 0, 0))], [(5, 10, 3, 10, 0)])).any fun xs => xs.all fun x => (sp_x_S t : List sm_t).any fun y => sm_is [] x y) = true := by decide +kernel
def sp_y_S (t : Nat) : List sm_t := [
  (122, [], [], [], [(0, 0, false, 0, 0), (0, 2555, false, 1, 0), (0, 3, false, 2, 0), (1, 8, false, 3, 0), (0, 10, false, 4, 0), (1, 99, false, 5, 0), (0, 0, false, 6, 0), (0, 99, false, 7, 0), (0, 0, false, 8, 0), (0, 3, false, 9, 0), (0, 7, false, 10, 0)], [(4, 10, 3, 10, 0), (4, 10, 3, 10, 0)])]
theorem sp_y : ((List.range 4).all fun t => (ai_ex (hk []) 300 18 tb_m18 9 [99] (73, [(0, (0, 39, 0, 0)), (1, (0, 1, 0, 0)), (2, (1, 0, 0, (t : Int))), (3, (1, 3, 0, 0)), (4, (1, 4, 0, 0)), (5, (1, 7, 0, 0)), (6, (1, 8, 0, 0)), (7, (1, 10, 0, 0))], [(1, 10, 0, 0)], [(0, 0, false, 0, 0), (0, 2555, false, 1, 0), (0, 3, false, 2, 0), (0, 8, false, 3, 0), (0, 10, false, 4, 0), (1, 99, false, 5, 0), (0, 0, false, 6, 0), (0, 99, false, 7, 0), (0, 0, false, 8, 0), (0, 3, false, 9, 0), (0, 8, false, 10, 0)], [(2, t, (1, 9, 0, 0))], [(4, 10, 3, 10, 0)])).any fun xs => xs.all fun x => (sp_y_S t : List sm_t).any fun y => sm_is [] x y) = true := by decide +kernel
def sp_m_S (t : Nat) : List sm_t := [
  (99, [(0, (0, 39, 0, 0)), (1, (0, 1, 0, 0)), (2, (1, 0, 0, (t : Int))), (3, (1, 3, 0, 0)), (4, (1, 4, 0, 0)), (5, (1, 7, 0, 0)), (6, (1, 8, 0, 0)), (7, (1, 10, 0, 0))], [(1, 4, 0, 0), (1, 13, 0, 0), (0, 39, 0, 0)], [], [(0, 0, false, 0, 0), (0, 2555, false, 1, 0), (0, 3, false, 2, 0), (1, 8, false, 3, 0), (0, 10, false, 4, 0), (1, 99, false, 5, 0), (0, 0, false, 6, 0), (0, 99, false, 7, 0), (1, 20, false, 8, 0), (3, 3, false, 9, 0), (0, 7, false, 10, 0), (0, 198, false, 11, 0), (-197, 20, false, 12, 0), (0, 20, false, 13, 0)], [(142, 0, 12, 13, 0), (0, 8, 11, 12, 0), (502, 7, 7, 11, 0), (4, 10, 3, 10, 0), (4, 10, 3, 10, 0)]),
  (99, [(0, (0, 39, 0, 0)), (1, (0, 1, 0, 0)), (2, (1, 0, 0, (t : Int))), (3, (1, 3, 0, 0)), (4, (1, 4, 0, 0)), (5, (1, 7, 0, 0)), (6, (1, 8, 0, 0)), (7, (1, 10, 0, 0))], [(1, 4, 0, 0), (1, 8, 0, 0), (0, 39, 0, 0)], [], [(0, 0, false, 0, 0), (0, 2555, false, 1, 0), (0, 3, false, 2, 0), (1, 8, false, 3, 0), (0, 10, false, 4, 0), (1, 99, false, 5, 0), (0, 0, false, 6, 0), (0, 99, false, 7, 0), (1, 20, false, 8, 0), (0, 0, false, 9, 0), (0, 7, false, 10, 0)], [(4, 10, 3, 10, 0), (4, 10, 3, 10, 0)]),
  (99, [(0, (0, 39, 0, 0)), (1, (0, 1, 0, 0)), (2, (1, 0, 0, (t : Int))), (3, (1, 3, 0, 0)), (4, (1, 4, 0, 0)), (5, (1, 7, 0, 0)), (6, (1, 8, 0, 0)), (7, (1, 10, 0, 0))], [(1, 4, 0, 0), (1, 11, 0, 0), (0, 39, 0, 0)], [], [(0, 0, false, 0, 0), (0, 2555, false, 1, 0), (0, 3, false, 2, 0), (1, 8, false, 3, 0), (0, 10, false, 4, 0), (1, 99, false, 5, 0), (0, 0, false, 6, 0), (0, 99, false, 7, 0), (1, 20, false, 8, 0), (1, 1, false, 9, 0), (0, 7, false, 10, 0), (0, 10, false, 11, 0)], [(152, 8, 8, 11, 0), (4, 10, 3, 10, 0), (4, 10, 3, 10, 0)]),
  (99, [(0, (0, 39, 0, 0)), (1, (0, 1, 0, 0)), (2, (1, 0, 0, (t : Int))), (3, (1, 3, 0, 0)), (4, (1, 4, 0, 0)), (5, (1, 7, 0, 0)), (6, (1, 8, 0, 0)), (7, (1, 10, 0, 0))], [(1, 4, 0, 0), (1, 12, 0, 0), (0, 39, 0, 0)], [], [(0, 0, false, 0, 0), (0, 2555, false, 1, 0), (0, 3, false, 2, 0), (1, 8, false, 3, 0), (0, 10, false, 4, 0), (1, 99, false, 5, 0), (0, 0, false, 6, 0), (0, 99, false, 7, 0), (1, 20, false, 8, 0), (2, 2, false, 9, 0), (0, 7, false, 10, 0), (0, 10, false, 11, 0), (0, 2, false, 12, 0)], [(154, 11, 11, 12, 0), (152, 8, 8, 11, 0), (4, 10, 3, 10, 0), (4, 10, 3, 10, 0)])]
theorem sp_m : ((List.range 4).all fun t => (ai_ex (hk []) 300 18 tb_m18 9 [99] (73, [(0, (0, 39, 0, 0)), (1, (0, 1, 0, 0)), (2, (1, 0, 0, (t : Int))), (3, (1, 3, 0, 0)), (4, (1, 4, 0, 0)), (5, (1, 7, 0, 0)), (6, (1, 8, 0, 0)), (7, (1, 10, 0, 0))], [(1, 10, 0, 0)], [(0, 0, false, 0, 0), (0, 2555, false, 1, 0), (0, 3, false, 2, 0), (0, 8, false, 3, 0), (0, 10, false, 4, 0), (1, 99, false, 5, 0), (0, 0, false, 6, 0), (0, 99, false, 7, 0), (1, 20, false, 8, 0), (0, 3, false, 9, 0), (0, 8, false, 10, 0)], [(2, t, (1, 9, 0, 0))], [(4, 10, 3, 10, 0)])).any fun xs => xs.all fun x => (sp_m_S t : List sm_t).any fun y => sm_is [] x y) = true := by decide +kernel
def sp_n_S (t : Nat) : List sm_t := [
  (71, [(0, (0, 39, 0, 0)), (1, (0, 1, 0, 0)), (2, (1, 0, 0, (t : Int))), (3, (1, 3, 0, 0)), (4, (1, 4, 0, 0)), (5, (1, 11, 0, 99)), (6, (1, 8, 0, -1)), (7, (1, 10, 0, 1))], [], [], [(0, 0, false, 0, 0), (0, 2555, false, 1, 0), (0, 3, false, 2, 0), (0, 8, false, 3, 0), (0, 10, false, 4, 0), (1, 99, false, 5, 0), (0, 0, false, 6, 0), (0, 99, false, 7, 0), (1, 20, false, 8, 0), (0, 3, false, 9, 0), (0, 8, false, 10, 0), (-98, 0, false, 11, 0)], [(141, 0, 7, 11, -98)])]
theorem sp_n : ((List.range 4).all fun t => (ai_ex (hk []) 300 18 tb_m18 9 [71] (102, [(0, (0, 39, 0, 0)), (1, (0, 1, 0, 0)), (2, (1, 0, 0, (t : Int))), (3, (1, 3, 0, 0)), (4, (1, 4, 0, 0)), (5, (1, 7, 0, 0)), (6, (1, 8, 0, 0)), (7, (1, 10, 0, 0))], [], [(0, 0, false, 0, 0), (0, 2555, false, 1, 0), (0, 3, false, 2, 0), (0, 8, false, 3, 0), (0, 10, false, 4, 0), (1, 99, false, 5, 0), (0, 0, false, 6, 0), (0, 99, false, 7, 0), (1, 20, false, 8, 0), (0, 3, false, 9, 0), (0, 8, false, 10, 0)], [], [])).any fun xs => xs.all fun x => (sp_n_S t : List sm_t).any fun y => sm_is [] x y) = true := by decide +kernel
theorem sp_a0 : ((ai_ex (hk []) 300 18 tb_m18 9 [3] (0, [(0, (0, 39, 0, 0)), (1, (0, 1, 0, 0)), (2, (1, 2, 0, 0)), (3, (1, 3, 0, 0)), (4, (1, 4, 0, 0))], [], [(0, 0, false, 0, 0), (0, 2555, false, 1, 0), (0, 3, false, 2, 0), (0, 8, false, 3, 0), (0, 10, false, 4, 0)], [], [])).any fun xs => xs.all fun x => ([(3, [(0, (0, 39, 0, 0)), (1, (0, 1, 0, 0)), (2, (1, 2, 0, 0)), (3, (1, 3, 0, 0)), (4, (1, 4, 0, 0)), (5, (1, 0, 0, 0))], [], [], [(0, 0, false, 0, 0), (0, 2555, false, 1, 0), (0, 3, false, 2, 0), (0, 8, false, 3, 0), (0, 10, false, 4, 0)], [])] : List sm_t).any fun y => sm_is [] x y) = true := by decide +kernel
theorem sp_a1 : ((List.range 4).all fun t => (ai_ex (hk [(39, 2, 3)]) 300 18 tb_m18 9 [48] (27, [(0, (0, 39, 0, 0)), (1, (0, 1, 0, 0)), (2, (1, 0, 0, (t : Int))), (3, (1, 3, 0, 0)), (4, (1, 4, 0, 0))], [], [(0, 0, false, 0, 0), (0, 2555, false, 1, 0), (0, 3, false, 2, 0), (0, 8, false, 3, 0), (0, 10, false, 4, 0), (1, 99, false, 5, 0), (0, 99, false, 6, 0), (0, 99, false, 7, 0), (0, 20, false, 8, 0)], [(3, t, (1, 5, 0, 0)), (4, t, (1, 6, 0, 0)), (5, t, (1, 7, 0, 0)), (1, 1, (1, 8, 0, 0))], [])).any fun xs => xs.all fun x => ([(48, [(0, (0, 39, 0, 0)), (1, (0, 1, 0, 0)), (2, (1, 0, 0, (t : Int))), (3, (1, 3, 0, 0)), (4, (1, 4, 0, 0))], [(2, 0, 0, 1), (1, 6, 0, 0), (0, 40, 0, 0)], [(1, 5, 0, 0)], [(0, 0, false, 0, 0), (0, 2555, false, 1, 0), (0, 3, false, 2, 0), (0, 8, false, 3, 0), (0, 10, false, 4, 0), (1, 99, false, 5, 0), (0, 99, false, 6, 0), (0, 99, false, 7, 0), (0, 20, false, 8, 0)], [])] : List sm_t).any fun y => sm_is [(39, 2)] x y) = true := by decide +kernel
theorem sp_a2 : ((List.range 4).all fun t => (ai_ex (hk []) 300 18 tb_m18 9 [51] (49, [(0, (0, 39, 0, 0)), (1, (0, 1, 0, 0)), (2, (1, 0, 0, (t : Int))), (3, (1, 3, 0, 0)), (4, (1, 4, 0, 0))], [], [(0, 0, false, 0, 0), (0, 2555, false, 1, 0), (0, 3, false, 2, 0), (0, 8, false, 3, 0), (0, 10, false, 4, 0), (1, 99, false, 5, 0), (0, 99, false, 6, 0), (0, 99, false, 7, 0), (0, 20, false, 8, 0)], [], [])).any fun xs => xs.all fun x => ([(51, [(0, (0, 39, 0, 0)), (1, (0, 1, 0, 0)), (2, (1, 0, 0, (t : Int))), (3, (1, 3, 0, 0)), (4, (1, 4, 0, 0))], [(2, 0, 0, 1), (0, 39, 0, 0)], [], [(0, 0, false, 0, 0), (0, 2555, false, 1, 0), (0, 3, false, 2, 0), (0, 8, false, 3, 0), (0, 10, false, 4, 0), (1, 99, false, 5, 0), (0, 99, false, 6, 0), (0, 99, false, 7, 0), (0, 20, false, 8, 0)], [])] : List sm_t).any fun y => sm_is [] x y) = true := by decide +kernel
theorem sp_a3 : ((List.range 4).all fun t => (ai_ex (hk []) 300 18 tb_m18 9 [71] (54, [(0, (0, 39, 0, 0)), (1, (0, 1, 0, 0)), (2, (1, 0, 0, (t : Int))), (3, (1, 3, 0, 0)), (4, (1, 4, 0, 0))], [], [(0, 0, false, 0, 0), (0, 2555, false, 1, 0), (0, 3, false, 2, 0), (0, 8, false, 3, 0), (0, 10, false, 4, 0), (1, 99, false, 5, 0), (0, 99, false, 6, 0), (0, 99, false, 7, 0), (0, 20, false, 8, 0)], [(3, t, (1, 5, 0, 0)), (4, t, (1, 6, 0, 0)), (5, t, (1, 7, 0, 0)), (1, 1, (1, 8, 0, 0))], [])).any fun xs => xs.all fun x => ([(71, [(0, (0, 39, 0, 0)), (1, (0, 1, 0, 0)), (2, (1, 0, 0, (t : Int))), (3, (1, 3, 0, 0)), (4, (1, 4, 0, 0)), (5, (1, 7, 0, 0)), (6, (1, 8, 0, 0)), (7, (1, 0, 0, 0))], [], [], [(0, 0, false, 0, 0), (0, 2555, false, 1, 0), (0, 3, false, 2, 0), (0, 8, false, 3, 0), (0, 10, false, 4, 0), (1, 99, false, 5, 0), (0, 99, false, 6, 0), (0, 99, false, 7, 0), (0, 20, false, 8, 0)], [])] : List sm_t).any fun y => sm_is [] x y) = true := by decide +kernel
theorem tenP_7 : ∀ i, i ≤ 7 → tenP i ≤ 10000000 := by decide
theorem ww_1 : ((ai_ex (hk []) 300 20 tb_m20 9 [8] (0, [(0, (0, 39, 0, 0))], [], [(0, 0, false, 0, 0), (0, 2555, false, 1, 0), (1, 99, false, 2, 0)], [(39, 2, (1, 2, 0, 0))], [])).any fun xs => xs.all fun x => ([(8, [], [(1, 2, 0, 0), (0, 40, 0, 0)], [], [(0, 0, false, 0, 0), (0, 2555, false, 1, 0), (1, 99, false, 2, 0)], [])] : List sm_t).any fun y => sm_is [] x y) = true := by decide +kernel
def mw_x_S : List sm_t := [
  (31, [], [(2, 3, 0, 0)], [], [(0, 0, false, 0, 0), (0, 2555, false, 1, 0), (1, 99, false, 2, 0), (-9223372036854775808, 9223372036854775807, false, 3, 0), (2, 100, false, 4, 0)], [(5, 4, 2, 4, 1), (5, 4, 2, 4, 1)])]
theorem mw_x : ((ai_ex (hk []) 300 21 tb_m21 9 [] (5, [(0, (0, 39, 0, 0)), (1, (2, 3, 0, 0)), (3, (1, 4, 0, 0))], [(1, 4, 0, 0)], [(0, 0, false, 0, 0), (0, 2555, false, 1, 0), (1, 99, false, 2, 0), (-9223372036854775808, 9223372036854775807, false, 3, 0), (0, 100, false, 4, 0)], [(39, 2, (1, 2, 0, 0))], [(5, 4, 2, 4, 1)])).any fun xs => xs.all fun x => (mw_x_S : List sm_t).any fun y => sm_is [] x y) = true := by decide +kernel
def mw_m_S : List sm_t := [
  (20, [(0, (0, 39, 0, 0)), (1, (2, 3, 0, 0)), (3, (1, 4, 0, 0))], [(1, 4, 0, 0), (0, 40, 0, 0), (2, 4, 0, 0), (2, 3, 0, 0)], [], [(0, 0, false, 0, 0), (0, 2555, false, 1, 0), (1, 99, false, 2, 0), (-9223372036854775808, 9223372036854775807, false, 3, 0), (0, 99, false, 4, 0)], [(4, 4, 2, 4, 1), (4, 4, 2, 4, 1)])]
theorem mw_m : ((ai_ex (hk []) 300 21 tb_m21 9 [20] (5, [(0, (0, 39, 0, 0)), (1, (2, 3, 0, 0)), (3, (1, 4, 0, 0))], [(1, 4, 0, 0)], [(0, 0, false, 0, 0), (0, 2555, false, 1, 0), (1, 99, false, 2, 0), (-9223372036854775808, 9223372036854775807, false, 3, 0), (0, 100, false, 4, 0)], [(39, 2, (1, 2, 0, 0))], [(4, 4, 2, 4, 1)])).any fun xs => xs.all fun x => (mw_m_S : List sm_t).any fun y => sm_is [] x y) = true := by decide +kernel
theorem mw_n : ((ai_ex (hk []) 300 21 tb_m21 9 [4] (23, [(0, (0, 39, 0, 0)), (1, (2, 3, 0, 0)), (3, (1, 4, 0, 0))], [(2, 5, 0, 0)], [(0, 0, false, 0, 0), (0, 2555, false, 1, 0), (1, 99, false, 2, 0), (-9223372036854775808, 9223372036854775807, false, 3, 0), (0, 99, false, 4, 0), (-9223372036854775808, 9223372036854775807, false, 5, 0)], [], [])).any fun xs => xs.all fun x => ([(4, [(0, (0, 39, 0, 0)), (1, (2, 5, 0, 0)), (3, (1, 4, 0, 1))], [], [], [(0, 0, false, 0, 0), (0, 2555, false, 1, 0), (1, 99, false, 2, 0), (-9223372036854775808, 9223372036854775807, false, 3, 0), (0, 99, false, 4, 0), (-9223372036854775808, 9223372036854775807, false, 5, 0)], [])] : List sm_t).any fun y => sm_is [] x y) = true := by decide +kernel
theorem mw_0 : ((ai_ex (hk []) 300 21 tb_m21 9 [4] (0, [(0, (0, 39, 0, 0))], [], [(0, 0, false, 0, 0), (0, 2555, false, 1, 0)], [], [])).any fun xs => xs.all fun x => ([(4, [(0, (0, 39, 0, 0)), (1, (2, 0, 0, 0)), (3, (1, 0, 0, 0))], [], [], [(0, 0, false, 0, 0), (0, 2555, false, 1, 0)], [])] : List sm_t).any fun y => sm_is [] x y) = true := by decide +kernel
theorem ow_0 : ((ai_ex (hk []) 300 22 tb_m22 9 [2] (0, [(0, (0, 39, 0, 0)), (1, (2, 2, 0, 0)), (3, (1, 3, 0, 0))], [], [(0, 0, false, 0, 0), (0, 2555, false, 1, 0), (-9223372036854775808, 9223372036854775807, false, 2, 0), (0, 1, false, 3, 0)], [], [])).any fun xs => xs.all fun x => ([(2, [(0, (0, 39, 0, 0)), (1, (2, 2, 0, 0)), (3, (1, 3, 0, 0))], [(0, 39, 0, 0), (2, 2, 0, 0)], [], [(0, 0, false, 0, 0), (0, 2555, false, 1, 0), (-9223372036854775808, 9223372036854775807, false, 2, 0), (0, 1, false, 3, 0)], [])] : List sm_t).any fun y => sm_is [] x y) = true := by decide +kernel
def ow_1_S : List sm_t := [
  (33, [(0, (0, 39, 0, 0)), (1, (2, 2, 0, 0)), (3, (1, 3, 0, 0)), (4, (2, 4, 0, 0))], [(0, 39, 0, 0)], [], [(0, 0, false, 0, 0), (0, 2555, false, 1, 0), (-9223372036854775808, 9223372036854775807, false, 2, 0), (1, 1, false, 3, 0), (1, 9223372036854775807, false, 4, 0)], [(140, 3, 0, 3, 0)]),
  (28, [(0, (0, 39, 0, 0)), (1, (2, 2, 0, 0)), (3, (1, 3, 0, 0)), (4, (2, 4, 0, 0))], [(2, 4, 0, 0), (2, 2, 0, 0)], [], [(0, 0, false, 0, 0), (0, 2555, false, 1, 0), (-9223372036854775808, 9223372036854775807, false, 2, 0), (0, 0, false, 3, 0), (1, 9223372036854775807, false, 4, 0)], [])]
theorem ow_1 : ((ai_ex (hk []) 300 22 tb_m22 9 [28, 33] (8, [(0, (0, 39, 0, 0)), (1, (2, 2, 0, 0)), (3, (1, 3, 0, 0))], [(2, 4, 0, 0)], [(0, 0, false, 0, 0), (0, 2555, false, 1, 0), (-9223372036854775808, 9223372036854775807, false, 2, 0), (0, 1, false, 3, 0), (1, 9223372036854775807, false, 4, 0)], [], [])).any fun xs => xs.all fun x => (ow_1_S : List sm_t).any fun y => sm_is [] x y) = true := by decide +kernel
theorem ow_3 : ((ai_ex (hk []) 300 22 tb_m22 9 [38] (36, [(0, (0, 39, 0, 0)), (1, (2, 2, 0, 0)), (3, (1, 3, 0, 0)), (4, (2, 4, 0, 0))], [(2, 5, 0, 0)], [(0, 0, false, 0, 0), (0, 2555, false, 1, 0), (-9223372036854775808, 9223372036854775807, false, 2, 0), (0, 1, false, 3, 0), (1, 9223372036854775807, false, 4, 0), (-9223372036854775808, 9223372036854775807, false, 5, 0)], [], [])).any fun xs => xs.all fun x => ([(38, [], [(2, 4, 0, 0), (2, 5, 0, 0)], [], [(0, 0, false, 0, 0), (0, 2555, false, 1, 0), (-9223372036854775808, 9223372036854775807, false, 2, 0), (0, 1, false, 3, 0), (1, 9223372036854775807, false, 4, 0), (-9223372036854775808, 9223372036854775807, false, 5, 0)], [])] : List sm_t).any fun y => sm_is [] x y) = true := by decide +kernel
def ow_2_S : List sm_t := [
  (39, [], [(2, 2, 0, 0)], [], [(0, 0, false, 0, 0), (0, 2555, false, 1, 0), (-9223372036854775808, 9223372036854775807, false, 2, 0)], [])]
theorem ow_2 : ((ai_ex (hk []) 300 22 tb_m22 9 [] (29, [], [(2, 2, 0, 0)], [(0, 0, false, 0, 0), (0, 2555, false, 1, 0), (-9223372036854775808, 9223372036854775807, false, 2, 0)], [], [])).any fun xs => xs.all fun x => (ow_2_S : List sm_t).any fun y => sm_is [] x y) = true := by decide +kernel
section XSO
variable {ad : List Nat} {M : ai_m} {d : Nat} {p : Program} {l : Launch} {e : Env} {R9 : Room} {s : State} {m : MethodId} {args : Array Value} {below : List Frame} {meth : Method} {c : Code} {D : va_G} {tys : ai_ty} {A9 : Nat → Prop} {b L : Nat} {sx : Nat → Int32} {cells slots : Nat} {Q : State → Prop}
theorem so_loop {a39 a40 Z gN : Nat} {v A : Int} {zg zv : Int32} {R : (Nat → Int) → Int} {ws0 : va_W} (C : ai_cx tb_m19 8 p R9 s m args c D tys A9 b L sx cells slots) (h39 : ad[39]? = some a39) (h40 : ad[40]? = some a40) (hZ : 1 ≤ Z ∧ Z ≤ 99) (eg : zg.toInt = gN) (hg : gN ≤ 20) (ev : zv.toInt = v) (hv : 0 ≤ v ∧ v ≤ 10) (hA : 1 ≤ A ∧ A ≤ 10000000) (hR : R (fun _ => 1) ≤ 100000000) (ht : vi ws0 39 2 Z) (hA0 : vl ws0 39 1 A)
    (kk : ∀ (ws' : va_W) (F' : Nat → Int), ai_wd tb_TY ad tys ws' → ai_fr so_W ws0 ws' → vl ws' 39 1 (10 * A) → (∀ x, x < 100 → vl ws' 40 x (F' x)) → (∀ x, x < 100 → 0 ≤ F' x) → (∀ w, sumN (fun x => F' x * w x) (Z + 1) = R w) → hG tb_m19 p l e R9 s m args below meth c D A9 cells slots Q 89 [] [] ws') :
    ∀ (f : Nat) (F : Nat → Int) (zm : Int32) (ws : va_W), zm.toInt + 1 = f → f ≤ Z → (∀ x, x < 100 → vl ws 40 x (F x)) → (∀ x, x < 100 → 0 ≤ F x) → (∀ w, sumN (fun x => F x * potF v Z gN f w x) (Z + 1) = R w) → ai_wd tb_TY ad tys ws → ai_fr so_W1 ws0 ws → hG tb_m19 p l e R9 s m args below meth c D A9 cells slots Q 22 [(0, .ref a39), (1, .int zg), (2, .int zv), (3, .int zm)] [] ws := by
  intro f
  induction f with
  | zero =>
    intro F zm ws hm hf hF nn hp hw hfr
    refine hild2 (j := 3) (x := zm) C (tv_m19.1.1.1 (22, .iload_n 3, 1) (List.mem_of_getElem? (i := 14) rfl)) (List.mem_of_getElem? (i := 3) rfl) ?_
    refine hsum (st := (23, [(0, (0, 39, 0, 0)), (1, (1, 2, 0, 0)), (2, (1, 3, 0, 0)), (3, (1, 5, 0, 0))], [(1, 5, 0, 0)], [(0, 0, false, 0, 0), (0, 2555, false, 1, 0), (0, 20, false, 2, 0), (0, 10, false, 3, 0), (1, 99, false, 4, 0), (-1, -1, false, 5, 0)], [(39, 2, (1, 4, 0, 0))], [])) so_x0 rfl C (r := [0, 0, zg.toInt, zv.toInt, (Z : Int), zm.toInt]) ⟨en_mk (by simp only [en_b, and_true]; omega) rfl, sb0, ⟨rfl, Or.inl ⟨rfl, a39, h39, rfl⟩, rfl, int_dv (z := zg.toInt) rfl (by omega), rfl, int_dv (z := zv.toInt) rfl (by omega), rfl, int_dv (z := zm.toInt) rfl (by omega), trivial⟩, ⟨int_dv (z := zm.toInt) rfl (by omega), trivial⟩, hw, kc ((ht.fr hfr rfl).kn (n := 4) (t := (Z : Int)) rfl (by omega)) (k0), fun _ _ _ _ h => h, fun h => by cases h⟩ (fun x hx r1 lv1 st1 ws1 hx1 hb1 hl1 hs1 hlo1 hsk1 hw1 hV1 hf1 _ => ?_)
    have hx9 := List.mem_singleton.mp hx
    subst hx9
    dsimp only at hlo1 hsk1 ⊢
    cases lo_nil hlo1
    obtain ⟨x10, s10, rfl, c10, g10⟩ := hsk1.cons
    obtain ⟨x11, s11, rfl, c11, g11⟩ := g10.cons
    cases g11.nil
    have f10 := ref_of h39 c10
    subst f10
    have f11 := ref_of h39 c11
    subst f11
    refine hlget (c0 := 39) (ci := 1) (i := 1) C (tv_m19.1.1.1 (79, .getfield 28, 3) (List.mem_of_getElem? (i := 51) rfl)) (tv_m19.1.1.2.1 (28, 1, 1) (List.mem_of_getElem? (i := 4) rfl)) rfl hw1 h39 ((hA0.fr hfr rfl).fr hf1 rfl) (fun z1 e1 => ?_)
    have b1 := ai_lrg z1
    refine hsum (st := (82, [], [(2, 2, 0, 0), (0, 39, 0, 0)], [(0, 0, false, 0, 0), (0, 2555, false, 1, 0), (-9223372036854775808, 9223372036854775807, false, 2, 0)], [], [])) so_x1 rfl C (r := [0, 0, z1.toInt]) ⟨en_mk (by simp only [en_b, and_true]; omega) rfl, sb0, trivial, ⟨lng_dv (z := z1.toInt) rfl (by omega), Or.inl ⟨rfl, a39, h39, rfl⟩, trivial⟩, hw1, k0, fun _ _ _ _ h => h, fun h => by cases h⟩ (fun x hx r2 lv2 st2 ws2 hx2 hb2 hl2 hs2 hlo2 hsk2 hw2 hV2 hf2 _ => ?_)
    have hx9 := List.mem_singleton.mp hx
    subst hx9
    dsimp only at hlo2 hsk2 ⊢
    cases lo_nil hlo2
    obtain ⟨x20, s20, rfl, c20, g20⟩ := hsk2.cons
    obtain ⟨x21, s21, rfl, c21, g21⟩ := g20.cons
    obtain ⟨x22, s22, rfl, c22, g22⟩ := g21.cons
    cases g22.nil
    obtain ⟨u20, rfl, w20⟩ := dvl c20 (hx2.at (k := 0) rfl)
    obtain ⟨u21, rfl, w21⟩ := dvl c21 (hx2.at (k := 2) rfl)
    have f22 := ref_of h39 c22
    subst f22
    have e20 : u20.toInt = 10 := by omega
    have e21 : u21.toInt = A := by omega
    refine hlmul C (tv_m19.1.1.1 (85, .lmul, 1) (List.mem_of_getElem? (i := 53) rfl)) (by rw [e20, e21]; omega) (fun z2 e2 => ?_)
    rw [e20, e21] at e2
    refine hlput (c0 := 39) (ci := 1) (i := 1) C (tv_m19.1.1.1 (86, .putfield 28, 3) (List.mem_of_getElem? (i := 54) rfl)) (tv_m19.1.1.2.2.1 (28, 1, 1, 2) (List.mem_of_getElem? (i := 1) rfl)) rfl rfl rfl hw2 h39 (fun ws3 hw3 hf3 hv3 => ?_)
    refine kk ws3 F hw3 (((so_w0 hfr).tr (wsub_ok (V := []) (by rfl) (hf1.tr hf2))).tr (so_wA hf3)) (hv3.eq (by omega)) (fun x hx => (((hF x hx).fr hf1 rfl).fr hf2 rfl).fr hf3 (nowr_ok (c := 40) rfl x x)) nn (fun w => ?_)
    rw [← hp w]
    exact sumN_ext fun x _ => by
      try dsimp only
      rw [show potF v Z gN 0 w x = w x from if_neg (Nat.not_lt_zero x)]
  | succ f ih =>
    intro F zm ws hm hf hF nn hp hw hfr
    have bF : ∀ x, x ≤ Z → F x ≤ 100000000 := fun x hx => pot_b (v := v) (g := gN) (i := f + 1) (by rw [hp]; exact hR) hZ.2 nn hx
    have bf := bF f (by omega)
    have nf := nn f (by omega)
    obtain ⟨m1, m2⟩ := mulB nf bf hv.1 hv.2
    obtain ⟨m3, m4⟩ := mulB nf bf (show 0 ≤ 10 - v by omega) (show 10 - v ≤ 10 by omega)
    refine hild2 (j := 3) (x := zm) C (tv_m19.1.1.1 (22, .iload_n 3, 1) (List.mem_of_getElem? (i := 14) rfl)) (List.mem_of_getElem? (i := 3) rfl) ?_
    refine hsum (st := (23, [(0, (0, 39, 0, 0)), (1, (1, 2, 0, 0)), (2, (1, 3, 0, 0)), (3, (1, 5, 0, 0))], [(1, 5, 0, 0)], [(0, 0, false, 0, 0), (0, 2555, false, 1, 0), (0, 20, false, 2, 0), (0, 10, false, 3, 0), (1, 99, false, 4, 0), (0, 98, false, 5, 0)], [(39, 2, (1, 4, 0, 0))], [])) so_m1 rfl C (r := [0, 0, zg.toInt, zv.toInt, (Z : Int), zm.toInt]) ⟨en_mk (by simp only [en_b, and_true]; omega) rfl, sb0, ⟨rfl, Or.inl ⟨rfl, a39, h39, rfl⟩, rfl, int_dv (z := zg.toInt) rfl (by omega), rfl, int_dv (z := zv.toInt) rfl (by omega), rfl, int_dv (z := zm.toInt) rfl (by omega), trivial⟩, ⟨int_dv (z := zm.toInt) rfl (by omega), trivial⟩, hw, kc ((ht.fr hfr rfl).kn (n := 4) (t := (Z : Int)) rfl (by omega)) (k0), fun _ _ _ _ h => h, fun h => by cases h⟩ (fun x hx r1 lv1 st1 ws1 hx1 hb1 hl1 hs1 hlo1 hsk1 hw1 hV1 hf1 _ => ?_)
    have hx9 := List.mem_singleton.mp hx
    subst hx9
    dsimp only at hlo1 hsk1 ⊢
    obtain ⟨l10, rfl, p10⟩ := lo_ref h39 hlo1
    obtain ⟨y11, l11, rfl, d11, p11⟩ := lo_int rfl p10
    obtain ⟨y12, l12, rfl, d12, p12⟩ := lo_int rfl p11
    obtain ⟨y13, l13, rfl, d13, p13⟩ := lo_int rfl p12
    cases lo_nil p13
    rw [vn_at hx1 (n := 2) (z := zg.toInt) rfl] at d11
    have e11 : zg = y11 := Int32.toInt_inj.mp (by omega)
    subst e11
    rw [vn_at hx1 (n := 3) (z := zv.toInt) rfl] at d12
    have e12 : zv = y12 := Int32.toInt_inj.mp (by omega)
    subst e12
    rw [vn_at hx1 (n := 5) (z := zm.toInt) rfl] at d13
    have e13 : zm = y13 := Int32.toInt_inj.mp (by omega)
    subst e13
    obtain ⟨x10, s10, rfl, c10, g10⟩ := hsk1.cons
    obtain ⟨x11, s11, rfl, c11, g11⟩ := g10.cons
    cases g11.nil
    obtain ⟨u10, rfl, w10⟩ := dvn c10 (hx1.at (k := 5) rfl)
    have f11 := ref_of h40 c11
    subst f11
    have e10 : u10.toInt.toNat = f := by omega
    refine hlald (c0 := 40) (n := 100) (F := []) C (tv_m19.1.1.1 (31, .laload, 1) (List.mem_of_getElem? (i := 19) rfl)) rfl hw1 h40 (by omega) (by omega) (by rw [e10]; exact (hF f (by omega)).fr hf1 rfl) (fun z1 ez1 => ?_)
    have b1 := ai_lrg z1
    refine hsum (st := (32, [(0, (0, 39, 0, 0)), (1, (1, 2, 0, 0)), (2, (1, 3, 0, 0)), (3, (1, 5, 0, 0))], [(2, 6, 0, 0)], [(0, 0, false, 0, 0), (0, 2555, false, 1, 0), (0, 20, false, 2, 0), (0, 10, false, 3, 0), (1, 99, false, 4, 0), (0, 98, false, 5, 0), (-9223372036854775808, 9223372036854775807, false, 6, 0)], [(39, 2, (1, 4, 0, 0))], [])) so_m2 rfl C (r := [0, 0, zg.toInt, zv.toInt, (Z : Int), zm.toInt, z1.toInt]) ⟨en_mk (by simp only [en_b, and_true]; omega) rfl, sb0, ⟨rfl, Or.inl ⟨rfl, a39, h39, rfl⟩, rfl, int_dv (z := zg.toInt) rfl (by omega), rfl, int_dv (z := zv.toInt) rfl (by omega), rfl, int_dv (z := zm.toInt) rfl (by omega), trivial⟩, ⟨lng_dv (z := z1.toInt) rfl (by omega), trivial⟩, hw1, kc (((ht.fr hfr rfl).fr hf1 rfl).kn (n := 4) (t := (Z : Int)) rfl (by omega)) (k0), fun _ _ _ _ h => h, fun h => by cases h⟩ (fun x hx r2 lv2 st2 ws2 hx2 hb2 hl2 hs2 hlo2 hsk2 hw2 hV2 hf2 _ => ?_)
    have hx9 := List.mem_singleton.mp hx
    subst hx9
    dsimp only at hlo2 hsk2 ⊢
    obtain ⟨l20, rfl, p20⟩ := lo_ref h39 hlo2
    obtain ⟨y21, l21, rfl, d21, p21⟩ := lo_int rfl p20
    obtain ⟨y22, l22, rfl, d22, p22⟩ := lo_int rfl p21
    obtain ⟨y23, l23, rfl, d23, p23⟩ := lo_int rfl p22
    obtain ⟨y24, l24, rfl, d24, p24⟩ := lo_lng rfl p23
    cases lo_nil p24
    rw [vn_at hx2 (n := 2) (z := zg.toInt) rfl] at d21
    have e21 : zg = y21 := Int32.toInt_inj.mp (by omega)
    subst e21
    rw [vn_at hx2 (n := 3) (z := zv.toInt) rfl] at d22
    have e22 : zv = y22 := Int32.toInt_inj.mp (by omega)
    subst e22
    rw [vn_at hx2 (n := 5) (z := zm.toInt) rfl] at d23
    have e23 : zm = y23 := Int32.toInt_inj.mp (by omega)
    subst e23
    rw [vnl_at hx2 (n := 6) (z := z1.toInt) rfl] at d24
    have e24 : z1 = y24 := Int64.toInt_inj.mp (by omega)
    subst e24
    obtain ⟨x20, s20, rfl, c20, g20⟩ := hsk2.cons
    obtain ⟨x21, s21, rfl, c21, g21⟩ := g20.cons
    obtain ⟨x22, s22, rfl, c22, g22⟩ := g21.cons
    obtain ⟨x23, s23, rfl, c23, g23⟩ := g22.cons
    cases g23.nil
    obtain ⟨u20, rfl, w20⟩ := dvl c20 (hx2.at (k := 3) rfl)
    obtain ⟨u21, rfl, w21⟩ := dvl c21 (hx2.at (k := 6) rfl)
    obtain ⟨u22, rfl, w22⟩ := dvn c22 (hx2.at (k := 5) rfl)
    have f23 := ref_of h40 c23
    subst f23
    have e20 : u20.toInt = v := by omega
    have e21 : u21.toInt = F f := by omega
    have e22 : u22.toInt.toNat = f := by omega
    refine hlmul C (tv_m19.1.1.1 (43, .lmul, 1) (List.mem_of_getElem? (i := 27) rfl)) (by rw [e20, e21]; omega) (fun z2 e2 => ?_)
    rw [e20, e21] at e2
    refine hlast (c0 := 40) (n := 100) (F := []) C (tv_m19.1.1.1 (44, .lastore, 1) (List.mem_of_getElem? (i := 28) rfl)) rfl hw2 h40 (by omega) (by omega) (fun ws3 hw3 hf3 hv3 => ?_)
    rw [e22] at hf3 hv3
    rw [e2] at hv3
    have hF1 := up_vl (fun x hx => ((hF x hx).fr hf1 rfl).fr hf2 rfl) hf3 hv3
    have nn1 := up_nn (f := f) nn m1
    have f03 : ai_fr so_W1 ws ws3 := (wsub_ok (V := []) (by rfl) (hf1.tr hf2)).tr (so_w1 (by omega) hf3)
    have t3 : vi ws3 39 2 Z := (ht.fr hfr rfl).fr f03 rfl
    generalize hU : upN F f (F f * v) = F1 at hF1 nn1
    have bU : ∀ x, x ≤ Z → F1 x ≤ 1000000000 := fun x hx => by
      rw [← hU]
      by_cases h : x = f
      · rw [h, upN_at]
        omega
      · rw [upN_ne h]
        have := bF x hx
        omega
    refine hsum (st := (45, [(0, (0, 39, 0, 0)), (1, (1, 2, 0, 0)), (2, (1, 3, 0, 0)), (3, (1, 5, 0, 0)), (4, (2, 6, 0, 0))], [], [(0, 0, false, 0, 0), (0, 2555, false, 1, 0), (0, 20, false, 2, 0), (0, 10, false, 3, 0), (1, 99, false, 4, 0), (0, 98, false, 5, 0), (-9223372036854775808, 9223372036854775807, false, 6, 0)], [(39, 2, (1, 4, 0, 0))], [])) so_m3 rfl C (r := [0, 0, zg.toInt, zv.toInt, (Z : Int), zm.toInt, z1.toInt]) ⟨en_mk (by simp only [en_b, and_true]; omega) rfl, sb0, ⟨rfl, Or.inl ⟨rfl, a39, h39, rfl⟩, rfl, int_dv (z := zg.toInt) rfl (by omega), rfl, int_dv (z := zv.toInt) rfl (by omega), rfl, int_dv (z := zm.toInt) rfl (by omega), rfl, lng_dv (z := z1.toInt) rfl (by omega), trivial⟩, trivial, hw3, kc (t3.kn (n := 4) (t := (Z : Int)) rfl (by omega)) (k0), fun _ _ _ _ h => h, fun h => by cases h⟩ (fun x hx r4 lv4 st4 ws4 hx4 hb4 hl4 hs4 hlo4 hsk4 hw4 hV4 hf4 _ => ?_)
    unfold so_m3_S at hx
    have m4_2 := nm_x hx4 (k := 2) rfl
    have m4_3 := nm_x hx4 (k := 3) rfl
    have m4_4 := nm_x hx4 (k := 4) rfl
    have m4_5 := nm_x hx4 (k := 5) rfl
    have m4_6 := nm_x hx4 (k := 6) rfl
    have hx0 := List.mem_singleton.mp hx
    subst hx0
    dsimp only at hlo4 hsk4 ⊢
    simp (config := { decide := true }) only [bnd_b, lin_b, lin_q, Nat.reduceAdd, Nat.zero_add, Nat.reduceEqDiff, reduceIte, and_true, Int.add_zero] at hb4 hl4
    obtain ⟨l40, rfl, p40⟩ := lo_ref h39 hlo4
    obtain ⟨y41, l41, rfl, d41, p41⟩ := lo_int rfl p40
    obtain ⟨y42, l42, rfl, d42, p42⟩ := lo_int rfl p41
    obtain ⟨y43, l43, rfl, d43, p43⟩ := lo_int rfl p42
    obtain ⟨y44, l44, rfl, d44, p44⟩ := lo_lng rfl p43
    cases lo_nil p44
    rw [vn_at hx4 (n := 2) (z := zg.toInt) rfl] at d41
    have e41 : zg = y41 := Int32.toInt_inj.mp (by omega)
    subst e41
    rw [vn_at hx4 (n := 3) (z := zv.toInt) rfl] at d42
    have e42 : zv = y42 := Int32.toInt_inj.mp (by omega)
    subst e42
    rw [vn_at hx4 (n := 5) (z := zm.toInt) rfl] at d43
    have e43 : zm = y43 := Int32.toInt_inj.mp (by omega)
    subst e43
    rw [vnl_at hx4 (n := 6) (z := z1.toInt) rfl] at d44
    have e44 : z1 = y44 := Int64.toInt_inj.mp (by omega)
    subst e44
    obtain ⟨x40, s40, rfl, c40, g40⟩ := hsk4.cons
    obtain ⟨x41, s41, rfl, c41, g41⟩ := g40.cons
    obtain ⟨x42, s42, rfl, c42, g42⟩ := g41.cons
    obtain ⟨x43, s43, rfl, c43, g43⟩ := g42.cons
    cases g43.nil
    obtain ⟨u40, rfl, w40⟩ := int_any c40
    unfold vn at w40
    dsimp only at w40
    have f41 := ref_of h40 c41
    subst f41
    obtain ⟨u42, rfl, w42⟩ := int_any c42
    unfold vn at w42
    dsimp only at w42
    have f43 := ref_of h40 c43
    subst f43
    have e40 : u40.toInt = (min Z (f + gN) : Nat) := by omega
    have e42 : u42 = u40 := Int32.toInt_inj.mp (by omega)
    subst e42
    have hJ : min Z (f + gN) ≤ Z := Nat.min_le_left _ _
    generalize hjj : min Z (f + gN) = j at e40 hJ
    have e40' : u42.toInt.toNat = j := by omega
    refine hlald (c0 := 40) (n := 100) (F := []) C (tv_m19.1.1.1 (60, .laload, 1) (List.mem_of_getElem? (i := 38) rfl)) rfl hw4 h40 (by omega) (by omega) (by rw [e40']; exact (hF1 j (by omega)).fr hf4 rfl) (fun z3 ez3 => ?_)
    have b3 := ai_lrg z3
    have bj := bU j hJ
    have nj := nn1 j (by omega)
    refine hsum (st := (61, [(0, (0, 39, 0, 0)), (1, (1, 2, 0, 0)), (2, (1, 3, 0, 0)), (3, (1, 5, 0, 0)), (4, (2, 6, 0, 0))], [(2, 7, 0, 0), (1, 8, 0, 0), (0, 40, 0, 0)], [(0, 0, false, 0, 0), (0, 2555, false, 1, 0), (0, 20, false, 2, 0), (0, 10, false, 3, 0), (1, 99, false, 4, 0), (0, 98, false, 5, 0), (-9223372036854775808, 9223372036854775807, false, 6, 0), (-9223372036854775808, 9223372036854775807, false, 7, 0), (0, 99, false, 8, 0)], [(39, 2, (1, 4, 0, 0))], [])) so_m4 rfl C (r := [0, 0, zg.toInt, zv.toInt, (Z : Int), zm.toInt, z1.toInt, z3.toInt, u42.toInt]) ⟨en_mk (by simp only [en_b, and_true]; omega) rfl, sb0, ⟨rfl, Or.inl ⟨rfl, a39, h39, rfl⟩, rfl, int_dv (z := zg.toInt) rfl (by omega), rfl, int_dv (z := zv.toInt) rfl (by omega), rfl, int_dv (z := zm.toInt) rfl (by omega), rfl, lng_dv (z := z1.toInt) rfl (by omega), trivial⟩, ⟨lng_dv (z := z3.toInt) rfl (by omega), int_dv (z := u42.toInt) rfl (by omega), Or.inl ⟨rfl, a40, h40, rfl⟩, trivial⟩, hw4, kc ((t3.fr hf4 rfl).kn (n := 4) (t := (Z : Int)) rfl (by omega)) (k0), fun _ _ _ _ h => h, fun h => by cases h⟩ (fun x hx r5 lv5 st5 ws5 hx5 hb5 hl5 hs5 hlo5 hsk5 hw5 hV5 hf5 _ => ?_)
    unfold so_m4_S at hx
    have m5_2 := nm_x hx5 (k := 2) rfl
    have m5_3 := nm_x hx5 (k := 3) rfl
    have m5_4 := nm_x hx5 (k := 4) rfl
    have m5_5 := nm_x hx5 (k := 5) rfl
    have m5_6 := nm_x hx5 (k := 6) rfl
    have m5_7 := nm_x hx5 (k := 7) rfl
    have m5_8 := nm_x hx5 (k := 8) rfl
    have hx0 := List.mem_singleton.mp hx
    subst hx0
    dsimp only at hlo5 hsk5 ⊢
    simp (config := { decide := true }) only [bnd_b, lin_b, lin_q, Nat.reduceAdd, Nat.zero_add, Nat.reduceEqDiff, reduceIte, and_true, Int.add_zero] at hb5 hl5
    obtain ⟨l50, rfl, p50⟩ := lo_ref h39 hlo5
    obtain ⟨y51, l51, rfl, d51, p51⟩ := lo_int rfl p50
    obtain ⟨y52, l52, rfl, d52, p52⟩ := lo_int rfl p51
    obtain ⟨y53, l53, rfl, d53, p53⟩ := lo_int rfl p52
    obtain ⟨y54, l54, rfl, d54, p54⟩ := lo_lng rfl p53
    cases lo_nil p54
    rw [vn_at hx5 (n := 2) (z := zg.toInt) rfl] at d51
    have e51 : zg = y51 := Int32.toInt_inj.mp (by omega)
    subst e51
    rw [vn_at hx5 (n := 3) (z := zv.toInt) rfl] at d52
    have e52 : zv = y52 := Int32.toInt_inj.mp (by omega)
    subst e52
    rw [vn_at hx5 (n := 5) (z := zm.toInt) rfl] at d53
    have e53 : zm = y53 := Int32.toInt_inj.mp (by omega)
    subst e53
    rw [vnl_at hx5 (n := 6) (z := z1.toInt) rfl] at d54
    have e54 : z1 = y54 := Int64.toInt_inj.mp (by omega)
    subst e54
    obtain ⟨x50, s50, rfl, c50, g50⟩ := hsk5.cons
    obtain ⟨x51, s51, rfl, c51, g51⟩ := g50.cons
    obtain ⟨x52, s52, rfl, c52, g52⟩ := g51.cons
    obtain ⟨x53, s53, rfl, c53, g53⟩ := g52.cons
    obtain ⟨x54, s54, rfl, c54, g54⟩ := g53.cons
    cases g54.nil
    obtain ⟨u50, rfl, w50⟩ := lng_any c50
    unfold vn at w50
    dsimp only at w50
    obtain ⟨u51, rfl, w51⟩ := dvl c51 (hx5.at (k := 6) rfl)
    obtain ⟨u52, rfl, w52⟩ := dvl c52 (hx5.at (k := 7) rfl)
    obtain ⟨u53, rfl, w53⟩ := dvn c53 (hx5.at (k := 8) rfl)
    have f54 := ref_of h40 c54
    subst f54
    have e50 : u50.toInt = 10 - v := by omega
    have e51 : u51.toInt = F f := by omega
    have e52 : u52.toInt = F1 j := by omega
    have e53 : u53.toInt.toNat = j := by omega
    refine hlmul C (tv_m19.1.1.1 (68, .lmul, 1) (List.mem_of_getElem? (i := 44) rfl)) (by rw [e50, e51]; omega) (fun z4 e4 => ?_)
    rw [e50, e51] at e4
    refine hladd C (tv_m19.1.1.1 (69, .ladd, 1) (List.mem_of_getElem? (i := 45) rfl)) (by rw [e52, e4]; omega) (fun z5 e5 => ?_)
    rw [e52, e4] at e5
    refine hlast (c0 := 40) (n := 100) (F := []) C (tv_m19.1.1.1 (70, .lastore, 1) (List.mem_of_getElem? (i := 46) rfl)) rfl hw5 h40 (by omega) (by omega) (fun ws6 hw6 hf6 hv6 => ?_)
    rw [e53] at hf6 hv6
    rw [e5] at hv6
    have hF2 := up_vl (fun x hx => ((hF1 x hx).fr hf4 rfl).fr hf5 rfl) hf6 hv6
    have nn2 := up_nn (f := j) nn1 (show 0 ≤ F1 j + F f * (10 - v) by omega)
    have f06 : ai_fr so_W1 ws ws6 := (f03.tr (wsub_ok (V := []) (by rfl) (hf4.tr hf5))).tr (so_w1 (by omega) hf6)
    refine hsum (st := (71, [(0, (0, 39, 0, 0)), (1, (1, 2, 0, 0)), (2, (1, 3, 0, 0)), (3, (1, 5, 0, 0)), (4, (2, 6, 0, 0))], [], [(0, 0, false, 0, 0), (0, 2555, false, 1, 0), (0, 20, false, 2, 0), (0, 10, false, 3, 0), (1, 99, false, 4, 0), (0, 98, false, 5, 0), (-9223372036854775808, 9223372036854775807, false, 6, 0)], [(39, 2, (1, 4, 0, 0))], [])) so_m5 rfl C (r := [0, 0, zg.toInt, zv.toInt, (Z : Int), zm.toInt, z1.toInt]) ⟨en_mk (by simp only [en_b, and_true]; omega) rfl, sb0, ⟨rfl, Or.inl ⟨rfl, a39, h39, rfl⟩, rfl, int_dv (z := zg.toInt) rfl (by omega), rfl, int_dv (z := zv.toInt) rfl (by omega), rfl, int_dv (z := zm.toInt) rfl (by omega), rfl, lng_dv (z := z1.toInt) rfl (by omega), trivial⟩, trivial, hw6, kc (((ht.fr hfr rfl).fr f06 rfl).kn (n := 4) (t := (Z : Int)) rfl (by omega)) (k0), fun _ _ _ _ h => h, fun h => by cases h⟩ (fun x hx r7 lv7 st7 ws7 hx7 hb7 hl7 hs7 hlo7 hsk7 hw7 hV7 hf7 _ => ?_)
    have hx9 := List.mem_singleton.mp hx
    subst hx9
    dsimp only at hlo7 hsk7 ⊢
    obtain ⟨l70, rfl, p70⟩ := lo_ref h39 hlo7
    obtain ⟨y71, l71, rfl, d71, p71⟩ := lo_int rfl p70
    obtain ⟨y72, l72, rfl, d72, p72⟩ := lo_int rfl p71
    obtain ⟨y73, l73, rfl, d73, p73⟩ := lo_int rfl p72
    cases lo_nil p73
    rw [vn_at hx7 (n := 2) (z := zg.toInt) rfl] at d71
    have e71 : zg = y71 := Int32.toInt_inj.mp (by omega)
    subst e71
    rw [vn_at hx7 (n := 3) (z := zv.toInt) rfl] at d72
    have e72 : zv = y72 := Int32.toInt_inj.mp (by omega)
    subst e72
    rw [vn_at hx7 (n := 5) (z := zm.toInt) rfl] at d73
    cases hsk7.nil
    refine ih _ y73 ws7 (by omega) (by omega) (fun x hx => (hF2 x hx).fr hf7 rfl) nn2 (fun w => ?_) hw7 ((hfr.tr f06).tr (wsub_ok (V := []) (by rfl) hf7))
    rw [← hp w, ← pot_step (v := v) (g := gN) (m := f) (by omega) F w, ← hU, hjj]
theorem so_all {a39 a40 Z gN : Nat} {v A : Int} {zg zv : Int32} {F : Nat → Int} {ws : va_W} (C : ai_cx tb_m19 8 p R9 s m args c D tys A9 b L sx cells slots) (h39 : ad[39]? = some a39) (h40 : ad[40]? = some a40) (hZ : 1 ≤ Z ∧ Z ≤ 99) (eg : zg.toInt = gN) (hg : gN ≤ 20) (ev : zv.toInt = v) (hv : 0 ≤ v ∧ v ≤ 10) (hA : 1 ≤ A ∧ A ≤ 10000000) (hS : sumN F (Z + 1) = A) (nn : ∀ x, x < 100 → 0 ≤ F x) (hw : ai_wd tb_TY ad tys ws) (ht : vi ws 39 2 Z) (hA0 : vl ws 39 1 A) (hF : ∀ x, x < 100 → vl ws 40 x (F x))
    (kk : ∀ (ws' : va_W) (F' : Nat → Int), ai_wd tb_TY ad tys ws' → ai_fr so_W ws ws' → vl ws' 39 1 (10 * A) → (∀ x, x < 100 → vl ws' 40 x (F' x)) → (∀ x, x < 100 → 0 ≤ F' x) → (∀ w, sumN (fun x => F' x * w x) (Z + 1) = sumN (fun x => F x * sprF v Z gN w x) (Z + 1)) → hG tb_m19 p l e R9 s m args below meth c D A9 cells slots Q 89 [] [] ws') : hG tb_m19 p l e R9 s m args below meth c D A9 cells slots Q 0 [(0, .ref a39), (1, .int zg), (2, .int zv)] [] ws := by
  have bZ : F Z ≤ A := by
    rw [← hS]
    exact sumN_at (fun x hx => nn x (by omega)) (by omega)
  have nZ := nn Z (by omega)
  refine hsum (st := (0, [(0, (0, 39, 0, 0)), (1, (1, 2, 0, 0)), (2, (1, 3, 0, 0))], [], [(0, 0, false, 0, 0), (0, 2555, false, 1, 0), (0, 20, false, 2, 0), (0, 10, false, 3, 0), (1, 99, false, 4, 0)], [(39, 2, (1, 4, 0, 0))], [])) so_e1 rfl C (r := [0, 0, zg.toInt, zv.toInt, (Z : Int)]) ⟨en_mk (by simp only [en_b, and_true]; omega) rfl, sb0, ⟨rfl, Or.inl ⟨rfl, a39, h39, rfl⟩, rfl, int_dv (z := zg.toInt) rfl (by omega), rfl, int_dv (z := zv.toInt) rfl (by omega), trivial⟩, trivial, hw, kc (ht.kn (n := 4) (t := (Z : Int)) rfl (by omega)) (k0), fun _ _ _ _ h => h, fun h => by cases h⟩ (fun x hx r1 lv1 st1 ws1 hx1 hb1 hl1 hs1 hlo1 hsk1 hw1 hV1 hf1 _ => ?_)
  have hx9 := List.mem_singleton.mp hx
  subst hx9
  dsimp only at hlo1 hsk1 ⊢
  obtain ⟨l10, rfl, p10⟩ := lo_ref h39 hlo1
  obtain ⟨y11, l11, rfl, d11, p11⟩ := lo_int rfl p10
  obtain ⟨y12, l12, rfl, d12, p12⟩ := lo_int rfl p11
  cases lo_nil p12
  rw [vn_at hx1 (n := 2) (z := zg.toInt) rfl] at d11
  have e11 : zg = y11 := Int32.toInt_inj.mp (by omega)
  subst e11
  rw [vn_at hx1 (n := 3) (z := zv.toInt) rfl] at d12
  have e12 : zv = y12 := Int32.toInt_inj.mp (by omega)
  subst e12
  obtain ⟨x10, s10, rfl, c10, g10⟩ := hsk1.cons
  obtain ⟨x11, s11, rfl, c11, g11⟩ := g10.cons
  obtain ⟨x12, s12, rfl, c12, g12⟩ := g11.cons
  obtain ⟨x13, s13, rfl, c13, g13⟩ := g12.cons
  cases g13.nil
  obtain ⟨u10, rfl, w10⟩ := dvn c10 (hx1.at (k := 4) rfl)
  have f11 := ref_of h40 c11
  subst f11
  obtain ⟨u12, rfl, w12⟩ := dvn c12 (hx1.at (k := 4) rfl)
  have f13 := ref_of h40 c13
  subst f13
  have e10 : u10.toInt.toNat = Z := by omega
  refine hlald (c0 := 40) (n := 100) (F := []) C (tv_m19.1.1.1 (9, .laload, 1) (List.mem_of_getElem? (i := 5) rfl)) rfl hw1 h40 (by omega) (by omega) (by rw [e10]; exact (hF Z (by omega)).fr hf1 rfl) (fun z1 ez1 => ?_)
  have b1 := ai_lrg z1
  refine hsum (st := (10, [(0, (0, 39, 0, 0)), (1, (1, 2, 0, 0)), (2, (1, 3, 0, 0))], [(2, 5, 0, 0), (1, 4, 0, 0), (0, 40, 0, 0)], [(0, 0, false, 0, 0), (0, 2555, false, 1, 0), (0, 20, false, 2, 0), (0, 10, false, 3, 0), (1, 99, false, 4, 0), (-9223372036854775808, 9223372036854775807, false, 5, 0)], [], [])) so_e2 rfl C (r := [0, 0, zg.toInt, zv.toInt, (Z : Int), z1.toInt]) ⟨en_mk (by simp only [en_b, and_true]; omega) rfl, sb0, ⟨rfl, Or.inl ⟨rfl, a39, h39, rfl⟩, rfl, int_dv (z := zg.toInt) rfl (by omega), rfl, int_dv (z := zv.toInt) rfl (by omega), trivial⟩, ⟨lng_dv (z := z1.toInt) rfl (by omega), int_dv (z := (Z : Int)) rfl (by omega), Or.inl ⟨rfl, a40, h40, rfl⟩, trivial⟩, hw1, k0, fun _ _ _ _ h => h, fun h => by cases h⟩ (fun x hx r2 lv2 st2 ws2 hx2 hb2 hl2 hs2 hlo2 hsk2 hw2 hV2 hf2 _ => ?_)
  have hx9 := List.mem_singleton.mp hx
  subst hx9
  dsimp only at hlo2 hsk2 ⊢
  obtain ⟨l20, rfl, p20⟩ := lo_ref h39 hlo2
  obtain ⟨y21, l21, rfl, d21, p21⟩ := lo_int rfl p20
  obtain ⟨y22, l22, rfl, d22, p22⟩ := lo_int rfl p21
  cases lo_nil p22
  rw [vn_at hx2 (n := 2) (z := zg.toInt) rfl] at d21
  have e21 : zg = y21 := Int32.toInt_inj.mp (by omega)
  subst e21
  rw [vn_at hx2 (n := 3) (z := zv.toInt) rfl] at d22
  have e22 : zv = y22 := Int32.toInt_inj.mp (by omega)
  subst e22
  obtain ⟨x20, s20, rfl, c20, g20⟩ := hsk2.cons
  obtain ⟨x21, s21, rfl, c21, g21⟩ := g20.cons
  obtain ⟨x22, s22, rfl, c22, g22⟩ := g21.cons
  obtain ⟨x23, s23, rfl, c23, g23⟩ := g22.cons
  cases g23.nil
  obtain ⟨u20, rfl, w20⟩ := dvl c20 (hx2.at (k := 0) rfl)
  obtain ⟨u21, rfl, w21⟩ := dvl c21 (hx2.at (k := 5) rfl)
  obtain ⟨u22, rfl, w22⟩ := dvn c22 (hx2.at (k := 4) rfl)
  have f23 := ref_of h40 c23
  subst f23
  have e20 : u20.toInt = 10 := by omega
  have e21 : u21.toInt = F Z := by omega
  have e22 : u22.toInt.toNat = Z := by omega
  refine hlmul C (tv_m19.1.1.1 (13, .lmul, 1) (List.mem_of_getElem? (i := 7) rfl)) (by rw [e20, e21]; omega) (fun z2 e2 => ?_)
  rw [e20, e21] at e2
  refine hlast (c0 := 40) (n := 100) (F := []) C (tv_m19.1.1.1 (14, .lastore, 1) (List.mem_of_getElem? (i := 8) rfl)) rfl hw2 h40 (by omega) (by omega) (fun ws3 hw3 hf3 hv3 => ?_)
  rw [e22] at hf3 hv3
  rw [e2] at hv3
  have hF1 := up_vl (fun x hx => ((hF x hx).fr hf1 rfl).fr hf2 rfl) hf3 hv3
  have nn1 := up_nn (f := Z) nn (show 0 ≤ F Z * 10 by omega)
  have f03 : ai_fr so_W1 ws ws3 := (wsub_ok (V := []) (by rfl) (hf1.tr hf2)).tr (so_w1 (by omega) hf3)
  refine hsum (st := (15, [(0, (0, 39, 0, 0)), (1, (1, 2, 0, 0)), (2, (1, 3, 0, 0))], [], [(0, 0, false, 0, 0), (0, 2555, false, 1, 0), (0, 20, false, 2, 0), (0, 10, false, 3, 0), (1, 99, false, 4, 0)], [(39, 2, (1, 4, 0, 0))], [])) so_e3 rfl C (r := [0, 0, zg.toInt, zv.toInt, (Z : Int)]) ⟨en_mk (by simp only [en_b, and_true]; omega) rfl, sb0, ⟨rfl, Or.inl ⟨rfl, a39, h39, rfl⟩, rfl, int_dv (z := zg.toInt) rfl (by omega), rfl, int_dv (z := zv.toInt) rfl (by omega), trivial⟩, trivial, hw3, kc ((ht.fr f03 rfl).kn (n := 4) (t := (Z : Int)) rfl (by omega)) (k0), fun _ _ _ _ h => h, fun h => by cases h⟩ (fun x hx r4 lv4 st4 ws4 hx4 hb4 hl4 hs4 hlo4 hsk4 hw4 hV4 hf4 _ => ?_)
  have hx9 := List.mem_singleton.mp hx
  subst hx9
  dsimp only at hlo4 hsk4 ⊢
  obtain ⟨l40, rfl, p40⟩ := lo_ref h39 hlo4
  obtain ⟨y41, l41, rfl, d41, p41⟩ := lo_int rfl p40
  obtain ⟨y42, l42, rfl, d42, p42⟩ := lo_int rfl p41
  obtain ⟨y43, l43, rfl, d43, p43⟩ := lo_int rfl p42
  cases lo_nil p43
  rw [vn_at hx4 (n := 2) (z := zg.toInt) rfl] at d41
  have e41 : zg = y41 := Int32.toInt_inj.mp (by omega)
  subst e41
  rw [vn_at hx4 (n := 3) (z := zv.toInt) rfl] at d42
  have e42 : zv = y42 := Int32.toInt_inj.mp (by omega)
  subst e42
  rw [vn_at hx4 (n := 4) (z := (Z : Int)) rfl] at d43
  cases hsk4.nil
  exact so_loop (ws0 := ws) (A := A) (R := fun w => sumN (fun x => F x * sprF v Z gN w x) (Z + 1)) C h39 h40 hZ eg hg ev hv hA (by show sumN (fun x => F x * sprF v Z gN (fun _ => 1) x) (Z + 1) ≤ 100000000; rw [spr_1, hS]; omega) ht hA0 kk Z _ y43 ws4 (by omega) (Nat.le_refl _) (fun x hx => (hF1 x hx).fr hf4 rfl) nn1 (fun w => spr_0 F w) hw4 (f03.tr (wsub_ok (V := []) (by rfl) hf4))
end XSO
section XSP
variable {ad : List Nat} {M : ai_m} {d : Nat} {p : Program} {l : Launch} {e : Env} {R9 : Room} {s : State} {m : MethodId} {args : Array Value} {below : List Frame} {meth : Method} {c : Code} {D : va_G} {tys : ai_ty} {A9 : Nat → Prop} {b L : Nat} {sx : Nat → Int32} {cells slots : Nat} {Q : State → Prop}
theorem sp_zero {a39 a40 a1 : Nat} {zt zn zv : Int32} {ws0 : va_W} (C : ai_cx tb_m18 9 p R9 s m args c D tys A9 b L sx cells slots) (h39 : ad[39]? = some a39) (h40 : ad[40]? = some a40) (h1 : ad[1]? = some a1) (bt : 0 ≤ zt.toInt ∧ zt.toInt ≤ 3) (bn : 0 ≤ zn.toInt ∧ zn.toInt ≤ 8) (bv : 0 ≤ zv.toInt ∧ zv.toInt ≤ 10)
    (kk : ∀ ws' : va_W, ai_wd tb_TY ad tys ws' → ai_fr so_W1 ws0 ws' → (∀ x, x < 100 → vl ws' 40 x 0) → hG tb_m18 p l e R9 s m args below meth c D A9 cells slots Q 27 [(0, .ref a39), (1, .ref a1), (2, .int zt), (3, .int zn), (4, .int zv)] [] ws') :
    ∀ (f i : Nat) (zi : Int32) (ws : va_W), i + f = 100 → zi.toInt = i → (∀ x, x < i → vl ws 40 x 0) → ai_wd tb_TY ad tys ws → ai_fr so_W1 ws0 ws → hG tb_m18 p l e R9 s m args below meth c D A9 cells slots Q 3 [(0, .ref a39), (1, .ref a1), (2, .int zt), (3, .int zn), (4, .int zv), (5, .int zi)] [] ws := by
  intro f
  induction f with
  | zero =>
    intro i zi ws hf ei hz hw hfr
    refine hildw (j := 5) (x := zi) C (tv_m18.1.1.1 (3, .iload 5, 2) (List.mem_of_getElem? (i := 2) rfl)) (List.mem_of_getElem? (i := 5) rfl) ?_
    refine hsum (st := (5, [(0, (0, 39, 0, 0)), (1, (0, 1, 0, 0)), (2, (1, 2, 0, 0)), (3, (1, 3, 0, 0)), (4, (1, 4, 0, 0)), (5, (1, 5, 0, 0))], [(1, 5, 0, 0)], [(0, 0, false, 0, 0), (0, 2555, false, 1, 0), (0, 3, false, 2, 0), (0, 8, false, 3, 0), (0, 10, false, 4, 0), (100, 100, false, 5, 0)], [], [])) sp_z0 rfl C (r := [0, 0, zt.toInt, zn.toInt, zv.toInt, zi.toInt]) ⟨en_mk (by simp only [en_b, and_true]; omega) rfl, sb0, ⟨rfl, Or.inl ⟨rfl, a39, h39, rfl⟩, rfl, Or.inl ⟨rfl, a1, h1, rfl⟩, rfl, int_dv (z := zt.toInt) rfl (by omega), rfl, int_dv (z := zn.toInt) rfl (by omega), rfl, int_dv (z := zv.toInt) rfl (by omega), rfl, int_dv (z := zi.toInt) rfl (by omega), trivial⟩, ⟨int_dv (z := zi.toInt) rfl (by omega), trivial⟩, hw, k0, fun _ _ _ _ h => h, fun h => by cases h⟩ (fun x hx r1 lv1 st1 ws1 hx1 hb1 hl1 hs1 hlo1 hsk1 hw1 hV1 hf1 _ => ?_)
    have hx9 := List.mem_singleton.mp hx
    subst hx9
    dsimp only at hlo1 hsk1 ⊢
    obtain ⟨l10, rfl, p10⟩ := lo_ref h39 hlo1
    obtain ⟨l11, rfl, p11⟩ := lo_ref h1 p10
    obtain ⟨y12, l12, rfl, d12, p12⟩ := lo_int rfl p11
    obtain ⟨y13, l13, rfl, d13, p13⟩ := lo_int rfl p12
    obtain ⟨y14, l14, rfl, d14, p14⟩ := lo_int rfl p13
    cases lo_nil p14
    rw [vn_at hx1 (n := 2) (z := zt.toInt) rfl] at d12
    have e12 : zt = y12 := Int32.toInt_inj.mp (by omega)
    subst e12
    rw [vn_at hx1 (n := 3) (z := zn.toInt) rfl] at d13
    have e13 : zn = y13 := Int32.toInt_inj.mp (by omega)
    subst e13
    rw [vn_at hx1 (n := 4) (z := zv.toInt) rfl] at d14
    have e14 : zv = y14 := Int32.toInt_inj.mp (by omega)
    subst e14
    cases hsk1.nil
    exact kk ws1 hw1 (hfr.tr (wsub_ok (V := []) (by rfl) hf1)) (fun x hx => (hz x (by omega)).fr hf1 rfl)
  | succ f ih =>
    intro i zi ws hf ei hz hw hfr
    refine hildw (j := 5) (x := zi) C (tv_m18.1.1.1 (3, .iload 5, 2) (List.mem_of_getElem? (i := 2) rfl)) (List.mem_of_getElem? (i := 5) rfl) ?_
    refine hsum (st := (5, [(0, (0, 39, 0, 0)), (1, (0, 1, 0, 0)), (2, (1, 2, 0, 0)), (3, (1, 3, 0, 0)), (4, (1, 4, 0, 0)), (5, (1, 5, 0, 0))], [(1, 5, 0, 0)], [(0, 0, false, 0, 0), (0, 2555, false, 1, 0), (0, 3, false, 2, 0), (0, 8, false, 3, 0), (0, 10, false, 4, 0), (0, 99, false, 5, 0)], [], [])) sp_z1 rfl C (r := [0, 0, zt.toInt, zn.toInt, zv.toInt, zi.toInt]) ⟨en_mk (by simp only [en_b, and_true]; omega) rfl, sb0, ⟨rfl, Or.inl ⟨rfl, a39, h39, rfl⟩, rfl, Or.inl ⟨rfl, a1, h1, rfl⟩, rfl, int_dv (z := zt.toInt) rfl (by omega), rfl, int_dv (z := zn.toInt) rfl (by omega), rfl, int_dv (z := zv.toInt) rfl (by omega), rfl, int_dv (z := zi.toInt) rfl (by omega), trivial⟩, ⟨int_dv (z := zi.toInt) rfl (by omega), trivial⟩, hw, k0, fun _ _ _ _ h => h, fun h => by cases h⟩ (fun x hx r1 lv1 st1 ws1 hx1 hb1 hl1 hs1 hlo1 hsk1 hw1 hV1 hf1 _ => ?_)
    have hx9 := List.mem_singleton.mp hx
    subst hx9
    dsimp only at hlo1 hsk1 ⊢
    obtain ⟨l10, rfl, p10⟩ := lo_ref h39 hlo1
    obtain ⟨l11, rfl, p11⟩ := lo_ref h1 p10
    obtain ⟨y12, l12, rfl, d12, p12⟩ := lo_int rfl p11
    obtain ⟨y13, l13, rfl, d13, p13⟩ := lo_int rfl p12
    obtain ⟨y14, l14, rfl, d14, p14⟩ := lo_int rfl p13
    obtain ⟨y15, l15, rfl, d15, p15⟩ := lo_int rfl p14
    cases lo_nil p15
    rw [vn_at hx1 (n := 2) (z := zt.toInt) rfl] at d12
    have e12 : zt = y12 := Int32.toInt_inj.mp (by omega)
    subst e12
    rw [vn_at hx1 (n := 3) (z := zn.toInt) rfl] at d13
    have e13 : zn = y13 := Int32.toInt_inj.mp (by omega)
    subst e13
    rw [vn_at hx1 (n := 4) (z := zv.toInt) rfl] at d14
    have e14 : zv = y14 := Int32.toInt_inj.mp (by omega)
    subst e14
    rw [vn_at hx1 (n := 5) (z := zi.toInt) rfl] at d15
    have e15 : zi = y15 := Int32.toInt_inj.mp (by omega)
    subst e15
    obtain ⟨x10, s10, rfl, c10, g10⟩ := hsk1.cons
    obtain ⟨x11, s11, rfl, c11, g11⟩ := g10.cons
    obtain ⟨x12, s12, rfl, c12, g12⟩ := g11.cons
    cases g12.nil
    obtain ⟨u10, rfl, w10⟩ := dvl c10 (hx1.at (k := 0) rfl)
    obtain ⟨u11, rfl, w11⟩ := dvn c11 (hx1.at (k := 5) rfl)
    have f12 := ref_of h40 c12
    subst f12
    have e11 : u11.toInt.toNat = i := by omega
    refine hlast (c0 := 40) (n := 100) (F := []) C (tv_m18.1.1.1 (20, .lastore, 1) (List.mem_of_getElem? (i := 11) rfl)) rfl hw1 h40 (by omega) (by omega) (fun ws2 hw2 hf2 hv2 => ?_)
    rw [e11] at hf2 hv2
    refine hsum (st := (21, [(0, (0, 39, 0, 0)), (1, (0, 1, 0, 0)), (2, (1, 2, 0, 0)), (3, (1, 3, 0, 0)), (4, (1, 4, 0, 0)), (5, (1, 5, 0, 0))], [], [(0, 0, false, 0, 0), (0, 2555, false, 1, 0), (0, 3, false, 2, 0), (0, 8, false, 3, 0), (0, 10, false, 4, 0), (0, 99, false, 5, 0)], [], [])) sp_z2 rfl C (r := [0, 0, zt.toInt, zn.toInt, zv.toInt, zi.toInt]) ⟨en_mk (by simp only [en_b, and_true]; omega) rfl, sb0, ⟨rfl, Or.inl ⟨rfl, a39, h39, rfl⟩, rfl, Or.inl ⟨rfl, a1, h1, rfl⟩, rfl, int_dv (z := zt.toInt) rfl (by omega), rfl, int_dv (z := zn.toInt) rfl (by omega), rfl, int_dv (z := zv.toInt) rfl (by omega), rfl, int_dv (z := zi.toInt) rfl (by omega), trivial⟩, trivial, hw2, k0, fun _ _ _ _ h => h, fun h => by cases h⟩ (fun x hx r3 lv3 st3 ws3 hx3 hb3 hl3 hs3 hlo3 hsk3 hw3 hV3 hf3 _ => ?_)
    have hx9 := List.mem_singleton.mp hx
    subst hx9
    dsimp only at hlo3 hsk3 ⊢
    obtain ⟨l30, rfl, p30⟩ := lo_ref h39 hlo3
    obtain ⟨l31, rfl, p31⟩ := lo_ref h1 p30
    obtain ⟨y32, l32, rfl, d32, p32⟩ := lo_int rfl p31
    obtain ⟨y33, l33, rfl, d33, p33⟩ := lo_int rfl p32
    obtain ⟨y34, l34, rfl, d34, p34⟩ := lo_int rfl p33
    obtain ⟨y35, l35, rfl, d35, p35⟩ := lo_int rfl p34
    cases lo_nil p35
    rw [vn_at hx3 (n := 2) (z := zt.toInt) rfl] at d32
    have e32 : zt = y32 := Int32.toInt_inj.mp (by omega)
    subst e32
    rw [vn_at hx3 (n := 3) (z := zn.toInt) rfl] at d33
    have e33 : zn = y33 := Int32.toInt_inj.mp (by omega)
    subst e33
    rw [vn_at hx3 (n := 4) (z := zv.toInt) rfl] at d34
    have e34 : zv = y34 := Int32.toInt_inj.mp (by omega)
    subst e34
    rw [vn_at hx3 (n := 5) (z := zi.toInt) rfl] at d35
    cases hsk3.nil
    refine ih (i + 1) y35 ws3 (by omega) (by omega) (fun x hx => ?_) hw3 (((hfr.tr (wsub_ok (V := []) (by rfl) hf1)).tr (so_w1 (by omega) hf2)).tr (wsub_ok (V := []) (by rfl) hf3))
    by_cases h : x = i
    · rw [h]
      exact (hv2.eq (by omega)).fr hf3 rfl
    · exact (((hz x (by omega)).fr hf1 rfl).fr hf2 (wr1L h (by decide))).fr hf3 rfl
theorem sp_loop {a39 a40 a1 Z t : Nat} {K v : Int} {zt zn zv : Int32} {R : (Nat → Int) → Int} {ws0 : va_W} (C : ai_cx tb_m18 9 p R9 s m args c D tys A9 b L sx cells slots) (h39 : ad[39]? = some a39) (h40 : ad[40]? = some a40) (h1 : ad[1]? = some a1) (bt : 0 ≤ zt.toInt ∧ zt.toInt ≤ 3) (bn : 0 ≤ zn.toInt ∧ zn.toInt ≤ 8) (bv : 0 ≤ zv.toInt ∧ zv.toInt ≤ 10) (et : zt.toInt = t) (ev : zv.toInt = v) (hZ : 1 ≤ Z ∧ Z ≤ 99) (hK : 0 ≤ K ∧ K ≤ 3) (k1 : vi ws0 2 t K) (ht : vi ws0 39 2 Z)
    (kk : ∀ (ws' : va_W) (F : Nat → Int) (A : Int) (i f : Nat), ai_wd tb_TY ad tys ws' → ai_fr so_W ws0 ws' → ((i + f : Nat) : Int) = zn.toInt → A = tenP i → vl ws' 39 1 A → (∀ x, x < 100 → vl ws' 40 x (F x)) → (∀ x, x < 100 → 0 ≤ F x) → sumN F (Z + 1) = A → (∀ fn, tenP f * sumN (fun x => F x * fn x) (Z + 1) = R fn) → hG tb_m18 p l e R9 s m args below meth c D A9 cells slots Q 122 [] [] ws') :
    ∀ (f i : Nat) (F : Nat → Int) (zp zs zi : Int32) (ws : va_W), ((i + f : Nat) : Int) = zn.toInt → zi.toInt = i → (0 ≤ zp.toInt ∧ zp.toInt ≤ 99) → (0 ≤ zs.toInt ∧ zs.toInt ≤ 20) → vl ws 39 1 (tenP i) → (∀ x, x < 100 → vl ws 40 x (F x)) → (∀ x, x < 100 → 0 ≤ F x) → sumN F (Z + 1) = tenP i → (∀ fn, sumN (fun x => F x * wv K v Z fn f x zp.toInt zs.toInt) (Z + 1) = R fn) → ai_wd tb_TY ad tys ws → ai_fr so_W ws0 ws → hG tb_m18 p l e R9 s m args below meth c D A9 cells slots Q 71 [(0, .ref a39), (1, .ref a1), (2, .int zt), (3, .int zn), (4, .int zv), (5, .int zp), (6, .int zs), (7, .int zi)] [] ws := by
  intro f
  induction f with
  | zero =>
    intro i F zp zs zi ws hf ei bp bs hA hF nn hS hp hw hfr
    refine hildw (j := 7) (x := zi) C (tv_m18.1.1.1 (71, .iload 7, 2) (List.mem_of_getElem? (i := 41) rfl)) (List.mem_of_getElem? (i := 7) rfl) ?_
    have sba : ai_sb ws [0, 0, zt.toInt, zn.toInt, zv.toInt, (Z : Int), 0, zp.toInt, zs.toInt, K, zi.toInt] [(5, 10, 3, 10, 0)] := fun q hq => by
      rw [List.mem_singleton.mp hq]
      refine ⟨zi.toInt, zn.toInt, zi.toInt, rfl, rfl, rfl, fun h0 => ?_, fun h0 => ?_, fun h0 => ?_, fun h0 => ?_, fun h0 => ?_, fun h0 => ?_⟩
      all_goals dsimp only at h0 ⊢
      all_goals omega
    refine hsum (st := (73, [(0, (0, 39, 0, 0)), (1, (0, 1, 0, 0)), (2, (1, 0, 0, (t : Int))), (3, (1, 3, 0, 0)), (4, (1, 4, 0, 0)), (5, (1, 7, 0, 0)), (6, (1, 8, 0, 0)), (7, (1, 10, 0, 0))], [(1, 10, 0, 0)], [(0, 0, false, 0, 0), (0, 2555, false, 1, 0), (0, 3, false, 2, 0), (0, 8, false, 3, 0), (0, 10, false, 4, 0), (1, 99, false, 5, 0), (0, 0, false, 6, 0), (0, 99, false, 7, 0), (0, 20, false, 8, 0), (0, 3, false, 9, 0), (0, 8, false, 10, 0)], [(2, t, (1, 9, 0, 0))], [(5, 10, 3, 10, 0)])) (List.all_eq_true.mp sp_x t (List.mem_range.mpr (by omega))) rfl C (r := [0, 0, zt.toInt, zn.toInt, zv.toInt, (Z : Int), 0, zp.toInt, zs.toInt, K, zi.toInt]) ⟨en_mk (by simp only [en_b, and_true]; omega) rfl, sba, ⟨rfl, Or.inl ⟨rfl, a39, h39, rfl⟩, rfl, Or.inl ⟨rfl, a1, h1, rfl⟩, rfl, int_dv (z := 0) rfl (by omega), rfl, int_dv (z := zn.toInt) rfl (by omega), rfl, int_dv (z := zv.toInt) rfl (by omega), rfl, int_dv (z := zp.toInt) rfl (by omega), rfl, int_dv (z := zs.toInt) rfl (by omega), rfl, int_dv (z := zi.toInt) rfl (by omega), trivial⟩, ⟨int_dv (z := zi.toInt) rfl (by omega), trivial⟩, hw, kc ((k1.fr hfr rfl).kn (n := 9) (t := K) rfl (by omega)) (k0), fun _ _ _ _ h => h, fun h => by cases h⟩ (fun x hx r1 lv1 st1 ws1 hx1 hb1 hl1 hs1 hlo1 hsk1 hw1 hV1 hf1 _ => ?_)
    unfold sp_x_S at hx
    have m1_2 := nm_x hx1 (k := 2) rfl
    have m1_3 := nm_x hx1 (k := 3) rfl
    have m1_4 := nm_x hx1 (k := 4) rfl
    have m1_5 := nm_x hx1 (k := 5) rfl
    have m1_6 := nm_x hx1 (k := 6) rfl
    have m1_7 := nm_x hx1 (k := 7) rfl
    have m1_8 := nm_x hx1 (k := 8) rfl
    have m1_9 := nm_x hx1 (k := 9) rfl
    have m1_10 := nm_x hx1 (k := 10) rfl
    have hx0 := List.mem_singleton.mp hx
    subst hx0
    dsimp only at hlo1 hsk1 ⊢
    simp (config := { decide := true }) only [bnd_b, lin_b, lin_q, Nat.reduceAdd, Nat.zero_add, Nat.reduceEqDiff, reduceIte, and_true, Int.add_zero] at hb1 hl1
    cases lo_nil hlo1
    cases hsk1.nil
    refine kk ws1 F (tenP i) i 0 hw1 (hfr.tr (wsub_ok (V := []) (by rfl) hf1)) hf rfl (hA.fr hf1 rfl) (fun x hx => (hF x hx).fr hf1 rfl) nn hS (fun fn => ?_)
    rw [← hp fn]
    exact Int.one_mul _
  | succ f ih =>
    intro i F zp zs zi ws hf ei bp bs hA hF nn hS hp hw hfr
    have t8 := tenP_8 i (by omega)
    have t1 := tenP_pos i
    refine hildw (j := 7) (x := zi) C (tv_m18.1.1.1 (71, .iload 7, 2) (List.mem_of_getElem? (i := 41) rfl)) (List.mem_of_getElem? (i := 7) rfl) ?_
    have sbb : ai_sb ws [0, 0, zt.toInt, zn.toInt, zv.toInt, (Z : Int), 0, zp.toInt, zs.toInt, K, zi.toInt] [(4, 10, 3, 10, 0)] := fun q hq => by
      rw [List.mem_singleton.mp hq]
      refine ⟨zi.toInt, zn.toInt, zi.toInt, rfl, rfl, rfl, fun h0 => ?_, fun h0 => ?_, fun h0 => ?_, fun h0 => ?_, fun h0 => ?_, fun h0 => ?_⟩
      all_goals dsimp only at h0 ⊢
      all_goals omega
    by_cases hs : zs.toInt < 1
    · skip
      refine hsum (st := (73, [(0, (0, 39, 0, 0)), (1, (0, 1, 0, 0)), (2, (1, 0, 0, (t : Int))), (3, (1, 3, 0, 0)), (4, (1, 4, 0, 0)), (5, (1, 7, 0, 0)), (6, (1, 8, 0, 0)), (7, (1, 10, 0, 0))], [(1, 10, 0, 0)], [(0, 0, false, 0, 0), (0, 2555, false, 1, 0), (0, 3, false, 2, 0), (0, 8, false, 3, 0), (0, 10, false, 4, 0), (1, 99, false, 5, 0), (0, 0, false, 6, 0), (0, 99, false, 7, 0), (0, 0, false, 8, 0), (0, 3, false, 9, 0), (0, 8, false, 10, 0)], [(2, t, (1, 9, 0, 0))], [(4, 10, 3, 10, 0)])) (List.all_eq_true.mp sp_y t (List.mem_range.mpr (by omega))) rfl C (r := [0, 0, zt.toInt, zn.toInt, zv.toInt, (Z : Int), 0, zp.toInt, zs.toInt, K, zi.toInt]) ⟨en_mk (by simp only [en_b, and_true]; omega) rfl, sbb, ⟨rfl, Or.inl ⟨rfl, a39, h39, rfl⟩, rfl, Or.inl ⟨rfl, a1, h1, rfl⟩, rfl, int_dv (z := 0) rfl (by omega), rfl, int_dv (z := zn.toInt) rfl (by omega), rfl, int_dv (z := zv.toInt) rfl (by omega), rfl, int_dv (z := zp.toInt) rfl (by omega), rfl, int_dv (z := zs.toInt) rfl (by omega), rfl, int_dv (z := zi.toInt) rfl (by omega), trivial⟩, ⟨int_dv (z := zi.toInt) rfl (by omega), trivial⟩, hw, kc ((k1.fr hfr rfl).kn (n := 9) (t := K) rfl (by omega)) (k0), fun _ _ _ _ h => h, fun h => by cases h⟩ (fun x hx r1 lv1 st1 ws1 hx1 hb1 hl1 hs1 hlo1 hsk1 hw1 hV1 hf1 _ => ?_)
      unfold sp_y_S at hx
      have m1_2 := nm_x hx1 (k := 2) rfl
      have m1_3 := nm_x hx1 (k := 3) rfl
      have m1_4 := nm_x hx1 (k := 4) rfl
      have m1_5 := nm_x hx1 (k := 5) rfl
      have m1_6 := nm_x hx1 (k := 6) rfl
      have m1_7 := nm_x hx1 (k := 7) rfl
      have m1_8 := nm_x hx1 (k := 8) rfl
      have m1_9 := nm_x hx1 (k := 9) rfl
      have m1_10 := nm_x hx1 (k := 10) rfl
      have hx0 := List.mem_singleton.mp hx
      subst hx0
      dsimp only at hlo1 hsk1 ⊢
      simp (config := { decide := true }) only [bnd_b, lin_b, lin_q, Nat.reduceAdd, Nat.zero_add, Nat.reduceEqDiff, reduceIte, and_true, Int.add_zero] at hb1 hl1
      cases lo_nil hlo1
      cases hsk1.nil
      refine kk ws1 F (tenP i) i (f + 1) hw1 (hfr.tr (wsub_ok (V := []) (by rfl) hf1)) hf rfl (hA.fr hf1 rfl) (fun x hx => (hF x hx).fr hf1 rfl) nn hS (fun fn => ?_)
      rw [← hp fn, ← sumN_mul]
      exact sumN_ext fun x _ => by
        try dsimp only
        rw [wv_stop (by omega), ← Int.mul_assoc, ← Int.mul_assoc, Int.mul_comm (tenP (f + 1))]
    · have t7 : tenP i ≤ 10000000 := tenP_7 i (by omega)
      have by1 := yl_rg (k := K) (s := zs.toInt) (p := zp.toInt) bs.1 bs.2 bp.1
      have rest : ∀ (ws1 : va_W) (zy u : Int32), zy.toInt = yl K zs.toInt zp.toInt → u.toInt = v → ai_wd tb_TY ad tys ws1 → ai_fr [] ws ws1 → hG tb_m18 p l e R9 s m args below meth c D A9 cells slots Q 99 [(0, .ref a39), (1, .ref a1), (2, .int zt), (3, .int zn), (4, .int zv), (5, .int zp), (6, .int zs), (7, .int zi)] [.int u, .int zy, .ref a39] ws1 := by
        intro ws1 zy u ezy eu hw1 hf1
        have f1 : ai_fr so_W ws0 ws1 := hfr.tr (wsub_ok (V := []) (by rfl) hf1)
        refine hcallV (q := (45, 0, 19, 2, 1)) (M' := tb_m19) (cl := 39) (a := a39) (As := [.int zy, .int u]) (rest := []) (rets := [89]) (P := fun w => ∃ F' : Nat → Int, ai_wd tb_TY ad tys w ∧ ai_fr so_W ws1 w ∧ vl w 39 1 (10 * tenP i) ∧ (∀ x, x < 100 → vl w 40 x (F' x)) ∧ (∀ x, x < 100 → 0 ≤ F' x) ∧ (∀ ww, sumN (fun x => F' x * ww x) (Z + 1) = sumN (fun x => F x * sprF v Z (yl K zs.toInt zp.toInt).toNat ww x) (Z + 1))) C (by decide) (tv_m18.1.1.1 (99, .invokevirtual 45, 3) (List.mem_of_getElem? (i := 56) rfl)) (tv_m18.2 _ (List.mem_of_getElem? (i := 0) rfl)) rfl rfl rfl rfl (by decide) (Nat.le_of_ble_eq_true rfl) rfl rfl rfl rfl hw1 h39 (Nat.le_of_ble_eq_true rfl) ?_ ?_ ?_
        · intro pcr hp
          simp only [List.mem_cons, List.not_mem_nil, or_false] at hp
          rcases hp with rfl
          · exact tv_m19.1.1.1 (89, .return_, 1) (List.mem_of_getElem? (i := 55) rfl)
        · intro p2 e2 R2 s2 m2 args2 below2 meth2 c2 Q2 C2 kk2
          exact so_all (mm_cx (by decide) C2) h39 h40 hZ (gN := (yl K zs.toInt zp.toInt).toNat) (by omega) (by omega) eu (by omega) ⟨t1, t7⟩ hS nn hw1 (ht.fr f1 rfl) (hA.fr hf1 rfl) (fun x hx => (hF x hx).fr hf1 rfl) (fun w F' q1 q2 q3 q4 q5 q6 => kk2 89 w [] (by decide) ⟨F', q1, q2, q3, q4, q5, q6⟩)
        · intro ws2 hP
          obtain ⟨F', hw2, hf2, hA2, hF2, nn2, hs2⟩ := hP
          have f2 : ai_fr so_W ws0 ws2 := f1.tr hf2
          refine hsum (st := (102, [(0, (0, 39, 0, 0)), (1, (0, 1, 0, 0)), (2, (1, 0, 0, (t : Int))), (3, (1, 3, 0, 0)), (4, (1, 4, 0, 0)), (5, (1, 7, 0, 0)), (6, (1, 8, 0, 0)), (7, (1, 10, 0, 0))], [], [(0, 0, false, 0, 0), (0, 2555, false, 1, 0), (0, 3, false, 2, 0), (0, 8, false, 3, 0), (0, 10, false, 4, 0), (1, 99, false, 5, 0), (0, 0, false, 6, 0), (0, 99, false, 7, 0), (1, 20, false, 8, 0), (0, 3, false, 9, 0), (0, 8, false, 10, 0)], [], [])) (List.all_eq_true.mp sp_n t (List.mem_range.mpr (by omega))) rfl C (r := [0, 0, zt.toInt, zn.toInt, zv.toInt, (Z : Int), 0, zp.toInt, zs.toInt, K, zi.toInt]) ⟨en_mk (by simp only [en_b, and_true]; omega) rfl, sb0, ⟨rfl, Or.inl ⟨rfl, a39, h39, rfl⟩, rfl, Or.inl ⟨rfl, a1, h1, rfl⟩, rfl, int_dv (z := 0) rfl (by omega), rfl, int_dv (z := zn.toInt) rfl (by omega), rfl, int_dv (z := zv.toInt) rfl (by omega), rfl, int_dv (z := zp.toInt) rfl (by omega), rfl, int_dv (z := zs.toInt) rfl (by omega), rfl, int_dv (z := zi.toInt) rfl (by omega), trivial⟩, trivial, hw2, k0, fun _ _ _ _ h => h, fun h => by cases h⟩ (fun x hx r3 lv3 st3 ws3 hx3 hb3 hl3 hs3 hlo3 hsk3 hw3 hV3 hf3 _ => ?_)
          unfold sp_n_S at hx
          have m3_2 := nm_x hx3 (k := 2) rfl
          have m3_3 := nm_x hx3 (k := 3) rfl
          have m3_4 := nm_x hx3 (k := 4) rfl
          have m3_5 := nm_x hx3 (k := 5) rfl
          have m3_6 := nm_x hx3 (k := 6) rfl
          have m3_7 := nm_x hx3 (k := 7) rfl
          have m3_8 := nm_x hx3 (k := 8) rfl
          have m3_9 := nm_x hx3 (k := 9) rfl
          have m3_10 := nm_x hx3 (k := 10) rfl
          have hx0 := List.mem_singleton.mp hx
          subst hx0
          dsimp only at hlo3 hsk3 ⊢
          simp (config := { decide := true }) only [bnd_b, lin_b, lin_q, Nat.reduceAdd, Nat.zero_add, Nat.reduceEqDiff, reduceIte, and_true, Int.add_zero] at hb3 hl3
          obtain ⟨l30, rfl, p30⟩ := lo_ref h39 hlo3
          obtain ⟨l31, rfl, p31⟩ := lo_ref h1 p30
          obtain ⟨y32, l32, rfl, d32, p32⟩ := lo_int rfl p31
          obtain ⟨y33, l33, rfl, d33, p33⟩ := lo_int rfl p32
          obtain ⟨y34, l34, rfl, d34, p34⟩ := lo_int rfl p33
          obtain ⟨y35, l35, rfl, d35, p35⟩ := lo_int rfl p34
          obtain ⟨y36, l36, rfl, d36, p36⟩ := lo_int rfl p35
          obtain ⟨y37, l37, rfl, d37, p37⟩ := lo_int rfl p36
          cases lo_nil p37
          rw [vn_at hx3 (n := 0) (z := 0) rfl] at d32
          have e32 : zt = y32 := Int32.toInt_inj.mp (by omega)
          subst e32
          rw [vn_at hx3 (n := 3) (z := zn.toInt) rfl] at d33
          have e33 : zn = y33 := Int32.toInt_inj.mp (by omega)
          subst e33
          rw [vn_at hx3 (n := 4) (z := zv.toInt) rfl] at d34
          have e34 : zv = y34 := Int32.toInt_inj.mp (by omega)
          subst e34
          unfold vn at d35
          dsimp only at d35
          rw [vn_at hx3 (n := 8) (z := zs.toInt) rfl] at d36
          rw [vn_at hx3 (n := 10) (z := zi.toInt) rfl] at d37
          cases hsk3.nil
          have ep : y35.toInt = min 99 (zp.toInt + 1) := by omega
          have es : y36.toInt = zs.toInt - 1 := by omega
          refine ih (i + 1) F' y35 y36 y37 ws3 (by omega) (by omega) (by omega) (by omega) (hA2.fr hf3 rfl) (fun x hx => (hF2 x hx).fr hf3 rfl) nn2 ?_ (fun fn => ?_) hw3 (f2.tr (wsub_ok (V := []) (by rfl) hf3))
          · have h9 := hs2 (fun _ => 1)
            rw [spr_1, hS] at h9
            rw [show tenP (i + 1) = 10 * tenP i from rfl, ← h9]
            exact sumN_ext fun x _ => (Int.mul_one _).symm
          · rw [ep, es, hs2, ← hp fn]
            refine sumN_ext fun x hx => ?_
            try dsimp only
            unfold sprF
            by_cases h : x < Z
            · rw [if_pos h, wv_y ⟨h, by omega⟩]
            · rw [if_neg h, wv_n (by omega), wv_stop (by omega)]
              dsimp only
              rw [wv_stop (by omega)]
      refine hsum (st := (73, [(0, (0, 39, 0, 0)), (1, (0, 1, 0, 0)), (2, (1, 0, 0, (t : Int))), (3, (1, 3, 0, 0)), (4, (1, 4, 0, 0)), (5, (1, 7, 0, 0)), (6, (1, 8, 0, 0)), (7, (1, 10, 0, 0))], [(1, 10, 0, 0)], [(0, 0, false, 0, 0), (0, 2555, false, 1, 0), (0, 3, false, 2, 0), (0, 8, false, 3, 0), (0, 10, false, 4, 0), (1, 99, false, 5, 0), (0, 0, false, 6, 0), (0, 99, false, 7, 0), (1, 20, false, 8, 0), (0, 3, false, 9, 0), (0, 8, false, 10, 0)], [(2, t, (1, 9, 0, 0))], [(4, 10, 3, 10, 0)])) (List.all_eq_true.mp sp_m t (List.mem_range.mpr (by omega))) rfl C (r := [0, 0, zt.toInt, zn.toInt, zv.toInt, (Z : Int), 0, zp.toInt, zs.toInt, K, zi.toInt]) ⟨en_mk (by simp only [en_b, and_true]; omega) rfl, sbb, ⟨rfl, Or.inl ⟨rfl, a39, h39, rfl⟩, rfl, Or.inl ⟨rfl, a1, h1, rfl⟩, rfl, int_dv (z := 0) rfl (by omega), rfl, int_dv (z := zn.toInt) rfl (by omega), rfl, int_dv (z := zv.toInt) rfl (by omega), rfl, int_dv (z := zp.toInt) rfl (by omega), rfl, int_dv (z := zs.toInt) rfl (by omega), rfl, int_dv (z := zi.toInt) rfl (by omega), trivial⟩, ⟨int_dv (z := zi.toInt) rfl (by omega), trivial⟩, hw, kc ((k1.fr hfr rfl).kn (n := 9) (t := K) rfl (by omega)) (k0), fun _ _ _ _ h => h, fun h => by cases h⟩ (fun x hx r1 lv1 st1 ws1 hx1 hb1 hl1 hs1 hlo1 hsk1 hw1 hV1 hf1 _ => ?_)
      unfold sp_m_S at hx
      have m1_2 := nm_x hx1 (k := 2) rfl
      have m1_3 := nm_x hx1 (k := 3) rfl
      have m1_4 := nm_x hx1 (k := 4) rfl
      have m1_5 := nm_x hx1 (k := 5) rfl
      have m1_6 := nm_x hx1 (k := 6) rfl
      have m1_7 := nm_x hx1 (k := 7) rfl
      have m1_8 := nm_x hx1 (k := 8) rfl
      have m1_9 := nm_x hx1 (k := 9) rfl
      have m1_10 := nm_x hx1 (k := 10) rfl
      rcases List.mem_cons.mp hx with rfl | hx
      · skip
        dsimp only at hlo1 hsk1 ⊢
        simp (config := { decide := true }) only [bnd_b, lin_b, lin_q, Nat.reduceAdd, Nat.zero_add, Nat.reduceEqDiff, reduceIte, and_true, Int.add_zero] at hb1 hl1
        obtain ⟨l10, rfl, p10⟩ := lo_ref h39 hlo1
        obtain ⟨l11, rfl, p11⟩ := lo_ref h1 p10
        obtain ⟨y12, l12, rfl, d12, p12⟩ := lo_int rfl p11
        obtain ⟨y13, l13, rfl, d13, p13⟩ := lo_int rfl p12
        obtain ⟨y14, l14, rfl, d14, p14⟩ := lo_int rfl p13
        obtain ⟨y15, l15, rfl, d15, p15⟩ := lo_int rfl p14
        obtain ⟨y16, l16, rfl, d16, p16⟩ := lo_int rfl p15
        obtain ⟨y17, l17, rfl, d17, p17⟩ := lo_int rfl p16
        cases lo_nil p17
        rw [vn_at hx1 (n := 0) (z := 0) rfl] at d12
        have e12 : zt = y12 := Int32.toInt_inj.mp (by omega)
        subst e12
        rw [vn_at hx1 (n := 3) (z := zn.toInt) rfl] at d13
        have e13 : zn = y13 := Int32.toInt_inj.mp (by omega)
        subst e13
        rw [vn_at hx1 (n := 4) (z := zv.toInt) rfl] at d14
        have e14 : zv = y14 := Int32.toInt_inj.mp (by omega)
        subst e14
        rw [vn_at hx1 (n := 7) (z := zp.toInt) rfl] at d15
        have e15 : zp = y15 := Int32.toInt_inj.mp (by omega)
        subst e15
        rw [vn_at hx1 (n := 8) (z := zs.toInt) rfl] at d16
        have e16 : zs = y16 := Int32.toInt_inj.mp (by omega)
        subst e16
        rw [vn_at hx1 (n := 10) (z := zi.toInt) rfl] at d17
        have e17 : zi = y17 := Int32.toInt_inj.mp (by omega)
        subst e17
        obtain ⟨x10, s10, rfl, c10, g10⟩ := hsk1.cons
        obtain ⟨x11, s11, rfl, c11, g11⟩ := g10.cons
        obtain ⟨x12, s12, rfl, c12, g12⟩ := g11.cons
        cases g12.nil
        obtain ⟨u10, rfl, w10⟩ := dvn c10 (hx1.at (k := 4) rfl)
        obtain ⟨u11, rfl, w11⟩ := int_any c11
        unfold vn at w11
        dsimp only at w11
        have f12 := ref_of h39 c12
        subst f12
        have eK : K = ((3 : Nat) : Int) := by omega
        exact rest ws1 u11 u10 (by rw [eK, yl_3]; omega) (by omega) hw1 hf1
      rcases List.mem_cons.mp hx with rfl | hx
      · skip
        dsimp only at hlo1 hsk1 ⊢
        simp (config := { decide := true }) only [bnd_b, lin_b, lin_q, Nat.reduceAdd, Nat.zero_add, Nat.reduceEqDiff, reduceIte, and_true, Int.add_zero] at hb1 hl1
        obtain ⟨l10, rfl, p10⟩ := lo_ref h39 hlo1
        obtain ⟨l11, rfl, p11⟩ := lo_ref h1 p10
        obtain ⟨y12, l12, rfl, d12, p12⟩ := lo_int rfl p11
        obtain ⟨y13, l13, rfl, d13, p13⟩ := lo_int rfl p12
        obtain ⟨y14, l14, rfl, d14, p14⟩ := lo_int rfl p13
        obtain ⟨y15, l15, rfl, d15, p15⟩ := lo_int rfl p14
        obtain ⟨y16, l16, rfl, d16, p16⟩ := lo_int rfl p15
        obtain ⟨y17, l17, rfl, d17, p17⟩ := lo_int rfl p16
        cases lo_nil p17
        rw [vn_at hx1 (n := 0) (z := 0) rfl] at d12
        have e12 : zt = y12 := Int32.toInt_inj.mp (by omega)
        subst e12
        rw [vn_at hx1 (n := 3) (z := zn.toInt) rfl] at d13
        have e13 : zn = y13 := Int32.toInt_inj.mp (by omega)
        subst e13
        rw [vn_at hx1 (n := 4) (z := zv.toInt) rfl] at d14
        have e14 : zv = y14 := Int32.toInt_inj.mp (by omega)
        subst e14
        rw [vn_at hx1 (n := 7) (z := zp.toInt) rfl] at d15
        have e15 : zp = y15 := Int32.toInt_inj.mp (by omega)
        subst e15
        rw [vn_at hx1 (n := 8) (z := zs.toInt) rfl] at d16
        have e16 : zs = y16 := Int32.toInt_inj.mp (by omega)
        subst e16
        rw [vn_at hx1 (n := 10) (z := zi.toInt) rfl] at d17
        have e17 : zi = y17 := Int32.toInt_inj.mp (by omega)
        subst e17
        obtain ⟨x10, s10, rfl, c10, g10⟩ := hsk1.cons
        obtain ⟨x11, s11, rfl, c11, g11⟩ := g10.cons
        obtain ⟨x12, s12, rfl, c12, g12⟩ := g11.cons
        cases g12.nil
        obtain ⟨u10, rfl, w10⟩ := dvn c10 (hx1.at (k := 4) rfl)
        obtain ⟨u11, rfl, w11⟩ := dvn c11 (hx1.at (k := 8) rfl)
        have f12 := ref_of h39 c12
        subst f12
        have eK : K = ((0 : Nat) : Int) := by omega
        exact rest ws1 u11 u10 (by rw [eK, yl_0]; omega) (by omega) hw1 hf1
      rcases List.mem_cons.mp hx with rfl | hx
      · skip
        dsimp only at hlo1 hsk1 ⊢
        simp (config := { decide := true }) only [bnd_b, lin_b, lin_q, Nat.reduceAdd, Nat.zero_add, Nat.reduceEqDiff, reduceIte, and_true, Int.add_zero] at hb1 hl1
        obtain ⟨l10, rfl, p10⟩ := lo_ref h39 hlo1
        obtain ⟨l11, rfl, p11⟩ := lo_ref h1 p10
        obtain ⟨y12, l12, rfl, d12, p12⟩ := lo_int rfl p11
        obtain ⟨y13, l13, rfl, d13, p13⟩ := lo_int rfl p12
        obtain ⟨y14, l14, rfl, d14, p14⟩ := lo_int rfl p13
        obtain ⟨y15, l15, rfl, d15, p15⟩ := lo_int rfl p14
        obtain ⟨y16, l16, rfl, d16, p16⟩ := lo_int rfl p15
        obtain ⟨y17, l17, rfl, d17, p17⟩ := lo_int rfl p16
        cases lo_nil p17
        rw [vn_at hx1 (n := 0) (z := 0) rfl] at d12
        have e12 : zt = y12 := Int32.toInt_inj.mp (by omega)
        subst e12
        rw [vn_at hx1 (n := 3) (z := zn.toInt) rfl] at d13
        have e13 : zn = y13 := Int32.toInt_inj.mp (by omega)
        subst e13
        rw [vn_at hx1 (n := 4) (z := zv.toInt) rfl] at d14
        have e14 : zv = y14 := Int32.toInt_inj.mp (by omega)
        subst e14
        rw [vn_at hx1 (n := 7) (z := zp.toInt) rfl] at d15
        have e15 : zp = y15 := Int32.toInt_inj.mp (by omega)
        subst e15
        rw [vn_at hx1 (n := 8) (z := zs.toInt) rfl] at d16
        have e16 : zs = y16 := Int32.toInt_inj.mp (by omega)
        subst e16
        rw [vn_at hx1 (n := 10) (z := zi.toInt) rfl] at d17
        have e17 : zi = y17 := Int32.toInt_inj.mp (by omega)
        subst e17
        obtain ⟨x10, s10, rfl, c10, g10⟩ := hsk1.cons
        obtain ⟨x11, s11, rfl, c11, g11⟩ := g10.cons
        obtain ⟨x12, s12, rfl, c12, g12⟩ := g11.cons
        cases g12.nil
        obtain ⟨u10, rfl, w10⟩ := dvn c10 (hx1.at (k := 4) rfl)
        obtain ⟨u11, rfl, w11⟩ := int_any c11
        unfold vn at w11
        dsimp only at w11
        have f12 := ref_of h39 c12
        subst f12
        have eK : K = ((1 : Nat) : Int) := by omega
        exact rest ws1 u11 u10 (by rw [eK, yl_1]; omega) (by omega) hw1 hf1
      have hx0 := List.mem_singleton.mp hx
      subst hx0
      dsimp only at hlo1 hsk1 ⊢
      simp (config := { decide := true }) only [bnd_b, lin_b, lin_q, Nat.reduceAdd, Nat.zero_add, Nat.reduceEqDiff, reduceIte, and_true, Int.add_zero] at hb1 hl1
      obtain ⟨l10, rfl, p10⟩ := lo_ref h39 hlo1
      obtain ⟨l11, rfl, p11⟩ := lo_ref h1 p10
      obtain ⟨y12, l12, rfl, d12, p12⟩ := lo_int rfl p11
      obtain ⟨y13, l13, rfl, d13, p13⟩ := lo_int rfl p12
      obtain ⟨y14, l14, rfl, d14, p14⟩ := lo_int rfl p13
      obtain ⟨y15, l15, rfl, d15, p15⟩ := lo_int rfl p14
      obtain ⟨y16, l16, rfl, d16, p16⟩ := lo_int rfl p15
      obtain ⟨y17, l17, rfl, d17, p17⟩ := lo_int rfl p16
      cases lo_nil p17
      rw [vn_at hx1 (n := 0) (z := 0) rfl] at d12
      have e12 : zt = y12 := Int32.toInt_inj.mp (by omega)
      subst e12
      rw [vn_at hx1 (n := 3) (z := zn.toInt) rfl] at d13
      have e13 : zn = y13 := Int32.toInt_inj.mp (by omega)
      subst e13
      rw [vn_at hx1 (n := 4) (z := zv.toInt) rfl] at d14
      have e14 : zv = y14 := Int32.toInt_inj.mp (by omega)
      subst e14
      rw [vn_at hx1 (n := 7) (z := zp.toInt) rfl] at d15
      have e15 : zp = y15 := Int32.toInt_inj.mp (by omega)
      subst e15
      rw [vn_at hx1 (n := 8) (z := zs.toInt) rfl] at d16
      have e16 : zs = y16 := Int32.toInt_inj.mp (by omega)
      subst e16
      rw [vn_at hx1 (n := 10) (z := zi.toInt) rfl] at d17
      have e17 : zi = y17 := Int32.toInt_inj.mp (by omega)
      subst e17
      obtain ⟨x10, s10, rfl, c10, g10⟩ := hsk1.cons
      obtain ⟨x11, s11, rfl, c11, g11⟩ := g10.cons
      obtain ⟨x12, s12, rfl, c12, g12⟩ := g11.cons
      cases g12.nil
      obtain ⟨u10, rfl, w10⟩ := dvn c10 (hx1.at (k := 4) rfl)
      obtain ⟨u11, rfl, w11⟩ := int_any c11
      unfold vn at w11
      dsimp only at w11
      have f12 := ref_of h39 c12
      subst f12
      have eK : K = ((2 : Nat) : Int) := by omega
      exact rest ws1 u11 u10 (by rw [eK, yl_2]; omega) (by omega) hw1 hf1
theorem sp_all {a39 a40 a1 t Z M0 : Nat} {K v PP SS : Int} {zt zn zv : Int32} {ws : va_W} (C : ai_cx tb_m18 9 p R9 s m args c D tys A9 b L sx cells slots) (h39 : ad[39]? = some a39) (h40 : ad[40]? = some a40) (h1 : ad[1]? = some a1) (bt : 0 ≤ zt.toInt ∧ zt.toInt ≤ 3) (bn : 0 ≤ zn.toInt ∧ zn.toInt ≤ 8) (bv : 0 ≤ zv.toInt ∧ zv.toInt ≤ 10) (ht4 : t < 4) (et : zt.toInt = t) (ev : zv.toInt = v) (hZ : 1 ≤ Z ∧ Z ≤ 99) (hM : M0 ≤ Z) (hK : 0 ≤ K ∧ K ≤ 3) (bP : 0 ≤ PP ∧ PP ≤ 99) (bS : 0 ≤ SS ∧ SS ≤ 20) (hw : ai_wd tb_TY ad tys ws) (k1 : vi ws 2 t K) (k2 : vi ws 3 t Z) (k3 : vi ws 4 t M0) (k4 : vi ws 5 t PP) (k5 : vi ws 1 1 SS)
    (kk : ∀ (ws' : va_W) (F : Nat → Int) (A : Int) (i f : Nat), ai_wd tb_TY ad tys ws' → ai_fr spw_W ws ws' → vi ws' 39 2 Z → ((i + f : Nat) : Int) = zn.toInt → A = tenP i → vl ws' 39 1 A → (∀ x, x < 100 → vl ws' 40 x (F x)) → (∀ x, x < 100 → 0 ≤ F x) → sumN F (Z + 1) = A → (∀ fn, tenP f * sumN (fun x => F x * fn x) (Z + 1) = wv K v Z fn zn.toInt.toNat M0 PP SS) → hG tb_m18 p l e R9 s m args below meth c D A9 cells slots Q 122 [] [] ws') : hG tb_m18 p l e R9 s m args below meth c D A9 cells slots Q 0 [(0, .ref a39), (1, .ref a1), (2, .int zt), (3, .int zn), (4, .int zv)] [] ws := by
  refine hsum (st := (0, [(0, (0, 39, 0, 0)), (1, (0, 1, 0, 0)), (2, (1, 2, 0, 0)), (3, (1, 3, 0, 0)), (4, (1, 4, 0, 0))], [], [(0, 0, false, 0, 0), (0, 2555, false, 1, 0), (0, 3, false, 2, 0), (0, 8, false, 3, 0), (0, 10, false, 4, 0)], [], [])) sp_a0 rfl C (r := [0, 0, zt.toInt, zn.toInt, zv.toInt]) ⟨en_mk (by simp only [en_b, and_true]; omega) rfl, sb0, ⟨rfl, Or.inl ⟨rfl, a39, h39, rfl⟩, rfl, Or.inl ⟨rfl, a1, h1, rfl⟩, rfl, int_dv (z := zt.toInt) rfl (by omega), rfl, int_dv (z := zn.toInt) rfl (by omega), rfl, int_dv (z := zv.toInt) rfl (by omega), trivial⟩, trivial, hw, k0, fun _ _ _ _ h => h, fun h => by cases h⟩ (fun x hx r1 lv1 st1 ws1 hx1 hb1 hl1 hs1 hlo1 hsk1 hw1 hV1 hf1 _ => ?_)
  have hx9 := List.mem_singleton.mp hx
  subst hx9
  dsimp only at hlo1 hsk1 ⊢
  obtain ⟨l10, rfl, p10⟩ := lo_ref h39 hlo1
  obtain ⟨l11, rfl, p11⟩ := lo_ref h1 p10
  obtain ⟨y12, l12, rfl, d12, p12⟩ := lo_int rfl p11
  obtain ⟨y13, l13, rfl, d13, p13⟩ := lo_int rfl p12
  obtain ⟨y14, l14, rfl, d14, p14⟩ := lo_int rfl p13
  obtain ⟨y15, l15, rfl, d15, p15⟩ := lo_int rfl p14
  cases lo_nil p15
  rw [vn_at hx1 (n := 2) (z := zt.toInt) rfl] at d12
  have e12 : zt = y12 := Int32.toInt_inj.mp (by omega)
  subst e12
  rw [vn_at hx1 (n := 3) (z := zn.toInt) rfl] at d13
  have e13 : zn = y13 := Int32.toInt_inj.mp (by omega)
  subst e13
  rw [vn_at hx1 (n := 4) (z := zv.toInt) rfl] at d14
  have e14 : zv = y14 := Int32.toInt_inj.mp (by omega)
  subst e14
  rw [vn_at hx1 (n := 0) (z := 0) rfl] at d15
  cases hsk1.nil
  refine sp_zero (ws0 := ws) C h39 h40 h1 bt bn bv (fun ws2 hw2 hf2 hz => ?_) 100 0 y15 ws1 rfl (by omega) (fun x hx => absurd hx (Nat.not_lt_zero x)) hw1 (wsub_ok (V := []) (by rfl) hf1)
  have f2 : ai_fr spw_W ws ws2 := wsub_ok (V := so_W1) (by decide) hf2
  refine hsum (st := (27, [(0, (0, 39, 0, 0)), (1, (0, 1, 0, 0)), (2, (1, 0, 0, (t : Int))), (3, (1, 3, 0, 0)), (4, (1, 4, 0, 0))], [], [(0, 0, false, 0, 0), (0, 2555, false, 1, 0), (0, 3, false, 2, 0), (0, 8, false, 3, 0), (0, 10, false, 4, 0), (1, 99, false, 5, 0), (0, 99, false, 6, 0), (0, 99, false, 7, 0), (0, 20, false, 8, 0)], [(3, t, (1, 5, 0, 0)), (4, t, (1, 6, 0, 0)), (5, t, (1, 7, 0, 0)), (1, 1, (1, 8, 0, 0))], [])) (List.all_eq_true.mp sp_a1 t (List.mem_range.mpr (by omega))) rfl C (r := [0, 0, zt.toInt, zn.toInt, zv.toInt, (Z : Int), (M0 : Int), PP, SS]) ⟨en_mk (by simp only [en_b, and_true]; omega) rfl, sb0, ⟨rfl, Or.inl ⟨rfl, a39, h39, rfl⟩, rfl, Or.inl ⟨rfl, a1, h1, rfl⟩, rfl, int_dv (z := 0) rfl (by omega), rfl, int_dv (z := zn.toInt) rfl (by omega), rfl, int_dv (z := zv.toInt) rfl (by omega), trivial⟩, trivial, hw2, kc ((k2.fr f2 rfl).kn (n := 5) (t := (Z : Int)) rfl (by omega)) (kc ((k3.fr f2 rfl).kn (n := 6) (t := (M0 : Int)) rfl (by omega)) (kc ((k4.fr f2 rfl).kn (n := 7) (t := PP) rfl (by omega)) (kc ((k5.fr f2 rfl).kn (n := 8) (t := SS) rfl (by omega)) (k0)))), fun _ _ _ _ h => h, fun h => by cases h⟩ (fun x hx r3 lv3 st3 ws3 hx3 hb3 hl3 hs3 hlo3 hsk3 hw3 hV3 hf3 _ => ?_)
  have hx9 := List.mem_singleton.mp hx
  subst hx9
  dsimp only at hlo3 hsk3 ⊢
  obtain ⟨q3, -⟩ := hV3
  obtain ⟨l30, rfl, p30⟩ := lo_ref h39 hlo3
  obtain ⟨l31, rfl, p31⟩ := lo_ref h1 p30
  obtain ⟨y32, l32, rfl, d32, p32⟩ := lo_int rfl p31
  obtain ⟨y33, l33, rfl, d33, p33⟩ := lo_int rfl p32
  obtain ⟨y34, l34, rfl, d34, p34⟩ := lo_int rfl p33
  cases lo_nil p34
  rw [vn_at hx3 (n := 0) (z := 0) rfl] at d32
  have e32 : zt = y32 := Int32.toInt_inj.mp (by omega)
  subst e32
  rw [vn_at hx3 (n := 3) (z := zn.toInt) rfl] at d33
  have e33 : zn = y33 := Int32.toInt_inj.mp (by omega)
  subst e33
  rw [vn_at hx3 (n := 4) (z := zv.toInt) rfl] at d34
  have e34 : zv = y34 := Int32.toInt_inj.mp (by omega)
  subst e34
  obtain ⟨x30, s30, rfl, c30, g30⟩ := hsk3.cons
  obtain ⟨x31, s31, rfl, c31, g31⟩ := g30.cons
  obtain ⟨x32, s32, rfl, c32, g32⟩ := g31.cons
  cases g32.nil
  obtain ⟨u30, rfl, w30⟩ := dvl c30 (hx3.at (k := 0) rfl)
  obtain ⟨u31, rfl, w31⟩ := dvn c31 (hx3.at (k := 6) rfl)
  have f32 := ref_of h40 c32
  subst f32
  have t3 : vi ws3 39 2 Z := q3.eq (by rw [nm_x hx3 (k := 5) rfl]; exact Int.add_zero _)
  have e31 : u31.toInt.toNat = M0 := by omega
  refine hlast (c0 := 40) (n := 100) (F := []) C (tv_m18.1.1.1 (48, .lastore, 1) (List.mem_of_getElem? (i := 27) rfl)) rfl hw3 h40 (by omega) (by omega) (fun ws4 hw4 hf4 hv4 => ?_)
  rw [e31] at hf4 hv4
  have hF4 := up_vl (F := fun _ => 0) (fun x hx => (hz x hx).fr hf3 rfl) hf4 (hv4.eq (show _ = (1 : Int) by omega))
  have nn4 := up_nn (f := M0) (y := 1) (F := fun _ => 0) (fun x _ => Int.le_refl 0) (by decide)
  have f4 : ai_fr spw_W ws ws4 := (f2.tr (wsub_ok (V := [(39, 2, 3)]) (by decide) hf3)).tr (wsub_ok (V := so_W1) (by decide) (so_w1 (by omega) hf4))
  refine hsum (st := (49, [(0, (0, 39, 0, 0)), (1, (0, 1, 0, 0)), (2, (1, 0, 0, (t : Int))), (3, (1, 3, 0, 0)), (4, (1, 4, 0, 0))], [], [(0, 0, false, 0, 0), (0, 2555, false, 1, 0), (0, 3, false, 2, 0), (0, 8, false, 3, 0), (0, 10, false, 4, 0), (1, 99, false, 5, 0), (0, 99, false, 6, 0), (0, 99, false, 7, 0), (0, 20, false, 8, 0)], [], [])) (List.all_eq_true.mp sp_a2 t (List.mem_range.mpr (by omega))) rfl C (r := [0, 0, zt.toInt, zn.toInt, zv.toInt, (Z : Int), (M0 : Int), PP, SS]) ⟨en_mk (by simp only [en_b, and_true]; omega) rfl, sb0, ⟨rfl, Or.inl ⟨rfl, a39, h39, rfl⟩, rfl, Or.inl ⟨rfl, a1, h1, rfl⟩, rfl, int_dv (z := 0) rfl (by omega), rfl, int_dv (z := zn.toInt) rfl (by omega), rfl, int_dv (z := zv.toInt) rfl (by omega), trivial⟩, trivial, hw4, k0, fun _ _ _ _ h => h, fun h => by cases h⟩ (fun x hx r5 lv5 st5 ws5 hx5 hb5 hl5 hs5 hlo5 hsk5 hw5 hV5 hf5 _ => ?_)
  have hx9 := List.mem_singleton.mp hx
  subst hx9
  dsimp only at hlo5 hsk5 ⊢
  obtain ⟨l50, rfl, p50⟩ := lo_ref h39 hlo5
  obtain ⟨l51, rfl, p51⟩ := lo_ref h1 p50
  obtain ⟨y52, l52, rfl, d52, p52⟩ := lo_int rfl p51
  obtain ⟨y53, l53, rfl, d53, p53⟩ := lo_int rfl p52
  obtain ⟨y54, l54, rfl, d54, p54⟩ := lo_int rfl p53
  cases lo_nil p54
  rw [vn_at hx5 (n := 0) (z := 0) rfl] at d52
  have e52 : zt = y52 := Int32.toInt_inj.mp (by omega)
  subst e52
  rw [vn_at hx5 (n := 3) (z := zn.toInt) rfl] at d53
  have e53 : zn = y53 := Int32.toInt_inj.mp (by omega)
  subst e53
  rw [vn_at hx5 (n := 4) (z := zv.toInt) rfl] at d54
  have e54 : zv = y54 := Int32.toInt_inj.mp (by omega)
  subst e54
  obtain ⟨x50, s50, rfl, c50, g50⟩ := hsk5.cons
  obtain ⟨x51, s51, rfl, c51, g51⟩ := g50.cons
  cases g51.nil
  obtain ⟨u50, rfl, w50⟩ := dvl c50 (hx5.at (k := 0) rfl)
  have f51 := ref_of h39 c51
  subst f51
  refine hlput (c0 := 39) (ci := 1) (i := 1) C (tv_m18.1.1.1 (51, .putfield 28, 3) (List.mem_of_getElem? (i := 30) rfl)) (tv_m18.1.1.2.2.1 (28, 1, 1, 2) (List.mem_of_getElem? (i := 1) rfl)) rfl rfl rfl hw5 h39 (fun ws6 hw6 hf6 hv6 => ?_)
  have f6 : ai_fr spw_W ws ws6 := (f4.tr (wsub_ok (V := []) (by rfl) hf5)).tr (wsub_ok (V := [(39, 1, 2)]) (by decide) hf6)
  refine hsum (st := (54, [(0, (0, 39, 0, 0)), (1, (0, 1, 0, 0)), (2, (1, 0, 0, (t : Int))), (3, (1, 3, 0, 0)), (4, (1, 4, 0, 0))], [], [(0, 0, false, 0, 0), (0, 2555, false, 1, 0), (0, 3, false, 2, 0), (0, 8, false, 3, 0), (0, 10, false, 4, 0), (1, 99, false, 5, 0), (0, 99, false, 6, 0), (0, 99, false, 7, 0), (0, 20, false, 8, 0)], [(3, t, (1, 5, 0, 0)), (4, t, (1, 6, 0, 0)), (5, t, (1, 7, 0, 0)), (1, 1, (1, 8, 0, 0))], [])) (List.all_eq_true.mp sp_a3 t (List.mem_range.mpr (by omega))) rfl C (r := [0, 0, zt.toInt, zn.toInt, zv.toInt, (Z : Int), (M0 : Int), PP, SS]) ⟨en_mk (by simp only [en_b, and_true]; omega) rfl, sb0, ⟨rfl, Or.inl ⟨rfl, a39, h39, rfl⟩, rfl, Or.inl ⟨rfl, a1, h1, rfl⟩, rfl, int_dv (z := 0) rfl (by omega), rfl, int_dv (z := zn.toInt) rfl (by omega), rfl, int_dv (z := zv.toInt) rfl (by omega), trivial⟩, trivial, hw6, kc ((k2.fr f6 rfl).kn (n := 5) (t := (Z : Int)) rfl (by omega)) (kc ((k3.fr f6 rfl).kn (n := 6) (t := (M0 : Int)) rfl (by omega)) (kc ((k4.fr f6 rfl).kn (n := 7) (t := PP) rfl (by omega)) (kc ((k5.fr f6 rfl).kn (n := 8) (t := SS) rfl (by omega)) (k0)))), fun _ _ _ _ h => h, fun h => by cases h⟩ (fun x hx r7 lv7 st7 ws7 hx7 hb7 hl7 hs7 hlo7 hsk7 hw7 hV7 hf7 _ => ?_)
  have hx9 := List.mem_singleton.mp hx
  subst hx9
  dsimp only at hlo7 hsk7 ⊢
  obtain ⟨l70, rfl, p70⟩ := lo_ref h39 hlo7
  obtain ⟨l71, rfl, p71⟩ := lo_ref h1 p70
  obtain ⟨y72, l72, rfl, d72, p72⟩ := lo_int rfl p71
  obtain ⟨y73, l73, rfl, d73, p73⟩ := lo_int rfl p72
  obtain ⟨y74, l74, rfl, d74, p74⟩ := lo_int rfl p73
  obtain ⟨y75, l75, rfl, d75, p75⟩ := lo_int rfl p74
  obtain ⟨y76, l76, rfl, d76, p76⟩ := lo_int rfl p75
  obtain ⟨y77, l77, rfl, d77, p77⟩ := lo_int rfl p76
  cases lo_nil p77
  rw [vn_at hx7 (n := 0) (z := 0) rfl] at d72
  have e72 : zt = y72 := Int32.toInt_inj.mp (by omega)
  subst e72
  rw [vn_at hx7 (n := 3) (z := zn.toInt) rfl] at d73
  have e73 : zn = y73 := Int32.toInt_inj.mp (by omega)
  subst e73
  rw [vn_at hx7 (n := 4) (z := zv.toInt) rfl] at d74
  have e74 : zv = y74 := Int32.toInt_inj.mp (by omega)
  subst e74
  rw [vn_at hx7 (n := 7) (z := PP) rfl] at d75
  rw [vn_at hx7 (n := 8) (z := SS) rfl] at d76
  rw [vn_at hx7 (n := 0) (z := 0) rfl] at d77
  cases hsk7.nil
  have t7 : vi ws7 39 2 Z := (((t3.fr hf4 rfl).fr hf5 rfl).fr hf6 rfl).fr hf7 rfl
  have eP : y75.toInt = PP := by omega
  have eS : y76.toInt = SS := by omega
  have f7 : ai_fr spw_W ws ws7 := f6.tr (wsub_ok (V := []) (by rfl) hf7)
  have hone : ∀ g : Nat → Int, sumN (fun x => upN (fun _ => 0) M0 1 x * g x) (Z + 1) = g M0 := fun g => by
    rw [sumN_up _ g M0 1 (by omega), sumN_ext (k := Z + 1) (h := fun _ => 0) (fun x _ => Int.zero_mul _), sumN_0]
    show 0 + (1 - 0) * g M0 = g M0
    omega
  refine sp_loop (ws0 := ws7) (R := fun fn => wv K v Z fn zn.toInt.toNat M0 PP SS) C h39 h40 h1 bt bn bv et ev hZ hK (k1.fr f7 rfl) t7 (fun w F A i f q1 q2 q3 q4 q5 q6 q7 q8 q9 => kk w F A i f q1 (f7.tr (wsub_ok (V := so_W) (by decide) q2)) (t7.fr q2 rfl) q3 q4 q5 q6 q7 q8 q9) zn.toInt.toNat 0 _ y75 y76 y77 ws7 (by omega) (by omega) (by omega) (by omega) ((hv6.eq (show _ = (1 : Int) by omega)).fr hf7 rfl) (fun x hx => (((hF4 x hx).fr hf5 rfl).fr hf6 (nowr_ok (c := 40) rfl x x)).fr hf7 rfl) nn4 ?_ (fun fn => ?_) hw7 (fun _ _ _ _ h => h)
  · rw [show sumN (upN (fun _ => 0) M0 1) (Z + 1) = sumN (fun x => upN (fun _ => 0) M0 1 x * (fun _ => 1) x) (Z + 1) from sumN_ext fun x _ => (Int.mul_one _).symm, hone]
    rfl
  · rw [hone, eP, eS]
end XSP
section XWW
variable {ad : List Nat} {M : ai_m} {d : Nat} {p : Program} {l : Launch} {e : Env} {R9 : Room} {s : State} {m : MethodId} {args : Array Value} {below : List Frame} {meth : Method} {c : Code} {D : va_G} {tys : ai_ty} {A9 : Nat → Prop} {b L : Nat} {sx : Nat → Int32} {cells slots : Nat} {Q : State → Prop}
theorem ww_all {a39 a40 Z : Nat} {F : Nat → Int} {ws : va_W} (C : ai_cx tb_m20 9 p R9 s m args c D tys A9 b L sx cells slots) (h39 : ad[39]? = some a39) (h40 : ad[40]? = some a40) (hZ : 1 ≤ Z ∧ Z ≤ 99) (ht : vi ws 39 2 Z) (hF : ∀ x, x < 100 → vl ws 40 x (F x)) (hw : ai_wd tb_TY ad tys ws)
    (kk : ∀ (ws' : va_W) (z : Int64) (lv' : List (Nat × Value)), ai_wd tb_TY ad tys ws' → ai_fr [] ws ws' → z.toInt = F Z → hG tb_m20 p l e R9 s m args below meth c D A9 cells slots Q 9 lv' [.long z] ws') : hG tb_m20 p l e R9 s m args below meth c D A9 cells slots Q 0 [(0, .ref a39)] [] ws := by
  refine hsum (st := (0, [(0, (0, 39, 0, 0))], [], [(0, 0, false, 0, 0), (0, 2555, false, 1, 0), (1, 99, false, 2, 0)], [(39, 2, (1, 2, 0, 0))], [])) ww_1 rfl C (r := [0, 0, (Z : Int)]) ⟨en_mk (by simp only [en_b, and_true]; omega) rfl, sb0, ⟨rfl, Or.inl ⟨rfl, a39, h39, rfl⟩, trivial⟩, trivial, hw, kc (ht.kn (n := 2) (t := (Z : Int)) rfl (by omega)) (k0), fun _ _ _ _ h => h, fun h => by cases h⟩ (fun x hx r1 lv1 st1 ws1 hx1 hb1 hl1 hs1 hlo1 hsk1 hw1 hV1 hf1 _ => ?_)
  have hx9 := List.mem_singleton.mp hx
  subst hx9
  dsimp only at hlo1 hsk1 ⊢
  cases lo_nil hlo1
  obtain ⟨x10, s10, rfl, c10, g10⟩ := hsk1.cons
  obtain ⟨x11, s11, rfl, c11, g11⟩ := g10.cons
  cases g11.nil
  obtain ⟨u10, rfl, w10⟩ := dvn c10 (hx1.at (k := 2) rfl)
  have f11 := ref_of h40 c11
  subst f11
  have e10 : u10.toInt.toNat = Z := by omega
  refine hlald (c0 := 40) (n := 100) (F := []) C (tv_m20.1.1.1 (8, .laload, 1) (List.mem_of_getElem? (i := 4) rfl)) rfl hw1 h40 (by omega) (by omega) (by rw [e10]; exact (hF Z (by omega)).fr hf1 rfl) (fun z1 ez1 => ?_)
  exact kk ws1 z1 [] hw1 hf1 ez1
theorem mw_loop {a39 a40 Z : Nat} {A : Int} {F : Nat → Int} {ws0 : va_W} (C : ai_cx tb_m21 9 p R9 s m args c D tys A9 b L sx cells slots) (h39 : ad[39]? = some a39) (h40 : ad[40]? = some a40) (hZ : 1 ≤ Z ∧ Z ≤ 99) (ht : vi ws0 39 2 Z) (hF : ∀ x, x < 100 → vl ws0 40 x (F x)) (nn : ∀ x, x < 100 → 0 ≤ F x) (hS : sumN F (Z + 1) = A) (hA : A ≤ 100000000)
    (kk : ∀ (ws' : va_W) (z : Int64) (lv' : List (Nat × Value)), ai_wd tb_TY ad tys ws' → ai_fr [] ws0 ws' → z.toInt = sumN (fun x => F x * (x : Int)) (Z + 1) → hG tb_m21 p l e R9 s m args below meth c D A9 cells slots Q 31 lv' [.long z] ws') :
    ∀ (f i : Nat) (zs : Int64) (zm : Int32) (ws : va_W), i + f = Z + 1 → zm.toInt = i → zs.toInt = sumN (fun x => F x * (x : Int)) i → ai_wd tb_TY ad tys ws → ai_fr [] ws0 ws → hG tb_m21 p l e R9 s m args below meth c D A9 cells slots Q 4 [(0, .ref a39), (1, .long zs), (3, .int zm)] [] ws := by
  have bF : ∀ x, x ≤ Z → 0 ≤ F x * (x : Int) ∧ F x * (x : Int) ≤ 9900000000 := fun x hx => by
    have h1 : F x ≤ A := by
      rw [← hS]
      exact sumN_at (fun y hy => nn y (by omega)) (by omega)
    have := mulB (nn x (by omega)) (show F x ≤ 100000000 by omega) (show (0 : Int) ≤ (x : Int) by omega) (show (x : Int) ≤ 99 by omega)
    omega
  have bS : ∀ i, i ≤ Z + 1 → 0 ≤ sumN (fun x => F x * (x : Int)) i ∧ sumN (fun x => F x * (x : Int)) i ≤ 9900000000 * (i : Int) := fun i => by
    induction i with
    | zero => exact fun _ => ⟨Int.le_refl 0, Int.le_refl 0⟩
    | succ i ih =>
      intro hi
      have h1 := ih (by omega)
      have h2 := bF i (by omega)
      show 0 ≤ sumN (fun x => F x * (x : Int)) i + F i * (i : Int) ∧ sumN (fun x => F x * (x : Int)) i + F i * (i : Int) ≤ _
      omega
  intro f
  induction f with
  | zero =>
    intro i zs zm ws hf em es hw hfr
    have h9 := bS i (by omega)
    refine hild2 (j := 3) (x := zm) C (tv_m21.1.1.1 (4, .iload_n 3, 1) (List.mem_of_getElem? (i := 4) rfl)) (List.mem_of_getElem? (i := 2) rfl) ?_
    have b9 := ai_lrg zs
    have sba : ai_sb ws [0, 0, (Z : Int), zs.toInt, zm.toInt] [(5, 4, 2, 4, 1)] := fun q hq => by
      rw [List.mem_singleton.mp hq]
      refine ⟨zm.toInt, (Z : Int), zm.toInt, rfl, rfl, rfl, fun h0 => ?_, fun h0 => ?_, fun h0 => ?_, fun h0 => ?_, fun h0 => ?_, fun h0 => ?_⟩
      all_goals dsimp only at h0 ⊢
      all_goals omega
    refine hsum (st := (5, [(0, (0, 39, 0, 0)), (1, (2, 3, 0, 0)), (3, (1, 4, 0, 0))], [(1, 4, 0, 0)], [(0, 0, false, 0, 0), (0, 2555, false, 1, 0), (1, 99, false, 2, 0), (-9223372036854775808, 9223372036854775807, false, 3, 0), (0, 100, false, 4, 0)], [(39, 2, (1, 2, 0, 0))], [(5, 4, 2, 4, 1)])) mw_x rfl C (r := [0, 0, (Z : Int), zs.toInt, zm.toInt]) ⟨en_mk (by simp only [en_b, and_true]; omega) rfl, sba, ⟨rfl, Or.inl ⟨rfl, a39, h39, rfl⟩, rfl, lng_dv (z := zs.toInt) rfl (by omega), rfl, int_dv (z := zm.toInt) rfl (by omega), trivial⟩, ⟨int_dv (z := zm.toInt) rfl (by omega), trivial⟩, hw, kc ((ht.fr hfr rfl).kn (n := 2) (t := (Z : Int)) rfl (by omega)) (k0), fun _ _ _ _ h => h, fun h => by cases h⟩ (fun x hx r1 lv1 st1 ws1 hx1 hb1 hl1 hs1 hlo1 hsk1 hw1 hV1 hf1 _ => ?_)
    unfold mw_x_S at hx
    have m1_2 := nm_x hx1 (k := 2) rfl
    have m1_3 := nm_x hx1 (k := 3) rfl
    have m1_4 := nm_x hx1 (k := 4) rfl
    have hx0 := List.mem_singleton.mp hx
    subst hx0
    dsimp only at hlo1 hsk1 ⊢
    simp (config := { decide := true }) only [bnd_b, lin_b, lin_q, Nat.reduceAdd, Nat.zero_add, Nat.reduceEqDiff, reduceIte, and_true, Int.add_zero] at hb1 hl1
    obtain ⟨z, rfl, hz⟩ := skl rfl hsk1
    rw [vnl_at hx1 (n := 3) (z := zs.toInt) rfl] at hz
    exact kk ws1 z lv1 hw1 (hfr.tr hf1) (by rw [show Z + 1 = i by omega]; omega)
  | succ f ih =>
    intro i zs zm ws hf em es hw hfr
    have h9 := bS i (by omega)
    have h8 := bF i (by omega)
    refine hild2 (j := 3) (x := zm) C (tv_m21.1.1.1 (4, .iload_n 3, 1) (List.mem_of_getElem? (i := 4) rfl)) (List.mem_of_getElem? (i := 2) rfl) ?_
    have b9 := ai_lrg zs
    have sbb : ai_sb ws [0, 0, (Z : Int), zs.toInt, zm.toInt] [(4, 4, 2, 4, 1)] := fun q hq => by
      rw [List.mem_singleton.mp hq]
      refine ⟨zm.toInt, (Z : Int), zm.toInt, rfl, rfl, rfl, fun h0 => ?_, fun h0 => ?_, fun h0 => ?_, fun h0 => ?_, fun h0 => ?_, fun h0 => ?_⟩
      all_goals dsimp only at h0 ⊢
      all_goals omega
    refine hsum (st := (5, [(0, (0, 39, 0, 0)), (1, (2, 3, 0, 0)), (3, (1, 4, 0, 0))], [(1, 4, 0, 0)], [(0, 0, false, 0, 0), (0, 2555, false, 1, 0), (1, 99, false, 2, 0), (-9223372036854775808, 9223372036854775807, false, 3, 0), (0, 100, false, 4, 0)], [(39, 2, (1, 2, 0, 0))], [(4, 4, 2, 4, 1)])) mw_m rfl C (r := [0, 0, (Z : Int), zs.toInt, zm.toInt]) ⟨en_mk (by simp only [en_b, and_true]; omega) rfl, sbb, ⟨rfl, Or.inl ⟨rfl, a39, h39, rfl⟩, rfl, lng_dv (z := zs.toInt) rfl (by omega), rfl, int_dv (z := zm.toInt) rfl (by omega), trivial⟩, ⟨int_dv (z := zm.toInt) rfl (by omega), trivial⟩, hw, kc ((ht.fr hfr rfl).kn (n := 2) (t := (Z : Int)) rfl (by omega)) (k0), fun _ _ _ _ h => h, fun h => by cases h⟩ (fun x hx r1 lv1 st1 ws1 hx1 hb1 hl1 hs1 hlo1 hsk1 hw1 hV1 hf1 _ => ?_)
    unfold mw_m_S at hx
    have m1_2 := nm_x hx1 (k := 2) rfl
    have m1_3 := nm_x hx1 (k := 3) rfl
    have m1_4 := nm_x hx1 (k := 4) rfl
    have hx0 := List.mem_singleton.mp hx
    subst hx0
    dsimp only at hlo1 hsk1 ⊢
    simp (config := { decide := true }) only [bnd_b, lin_b, lin_q, Nat.reduceAdd, Nat.zero_add, Nat.reduceEqDiff, reduceIte, and_true, Int.add_zero] at hb1 hl1
    obtain ⟨l10, rfl, p10⟩ := lo_ref h39 hlo1
    obtain ⟨y11, l11, rfl, d11, p11⟩ := lo_lng rfl p10
    obtain ⟨y12, l12, rfl, d12, p12⟩ := lo_int rfl p11
    cases lo_nil p12
    rw [vnl_at hx1 (n := 3) (z := zs.toInt) rfl] at d11
    have e11 : zs = y11 := Int64.toInt_inj.mp (by omega)
    subst e11
    rw [vn_at hx1 (n := 4) (z := zm.toInt) rfl] at d12
    have e12 : zm = y12 := Int32.toInt_inj.mp (by omega)
    subst e12
    obtain ⟨x10, s10, rfl, c10, g10⟩ := hsk1.cons
    obtain ⟨x11, s11, rfl, c11, g11⟩ := g10.cons
    obtain ⟨x12, s12, rfl, c12, g12⟩ := g11.cons
    obtain ⟨x13, s13, rfl, c13, g13⟩ := g12.cons
    cases g13.nil
    obtain ⟨u10, rfl, w10⟩ := dvn c10 (hx1.at (k := 4) rfl)
    have f11 := ref_of h40 c11
    subst f11
    obtain ⟨u12, rfl, w12⟩ := dvl c12 (hx1.at (k := 4) rfl)
    obtain ⟨u13, rfl, w13⟩ := dvl c13 (hx1.at (k := 3) rfl)
    have e10 : u10.toInt.toNat = i := by omega
    refine hlald (c0 := 40) (n := 100) (F := []) C (tv_m21.1.1.1 (20, .laload, 1) (List.mem_of_getElem? (i := 14) rfl)) rfl hw1 h40 (by omega) (by omega) (by rw [e10]; exact ((hF i (by omega)).fr hfr rfl).fr hf1 rfl) (fun z1 ez1 => ?_)
    have e12 : u12.toInt = (i : Int) := by omega
    have e13 : u13.toInt = sumN (fun x => F x * (x : Int)) i := by omega
    refine hlmul C (tv_m21.1.1.1 (21, .lmul, 1) (List.mem_of_getElem? (i := 15) rfl)) (by rw [e12, ez1, Int.mul_comm]; omega) (fun z2 e2 => ?_)
    rw [e12, ez1, Int.mul_comm] at e2
    refine hladd C (tv_m21.1.1.1 (22, .ladd, 1) (List.mem_of_getElem? (i := 16) rfl)) (by rw [e13, e2]; omega) (fun z3 e3 => ?_)
    rw [e13, e2] at e3
    have b3 := ai_lrg z3
    refine hsum (st := (23, [(0, (0, 39, 0, 0)), (1, (2, 3, 0, 0)), (3, (1, 4, 0, 0))], [(2, 5, 0, 0)], [(0, 0, false, 0, 0), (0, 2555, false, 1, 0), (1, 99, false, 2, 0), (-9223372036854775808, 9223372036854775807, false, 3, 0), (0, 99, false, 4, 0), (-9223372036854775808, 9223372036854775807, false, 5, 0)], [], [])) mw_n rfl C (r := [0, 0, (Z : Int), zs.toInt, zm.toInt, z3.toInt]) ⟨en_mk (by simp only [en_b, and_true]; omega) rfl, sb0, ⟨rfl, Or.inl ⟨rfl, a39, h39, rfl⟩, rfl, lng_dv (z := zs.toInt) rfl (by omega), rfl, int_dv (z := zm.toInt) rfl (by omega), trivial⟩, ⟨lng_dv (z := z3.toInt) rfl (by omega), trivial⟩, hw1, k0, fun _ _ _ _ h => h, fun h => by cases h⟩ (fun x hx r2 lv2 st2 ws2 hx2 hb2 hl2 hs2 hlo2 hsk2 hw2 hV2 hf2 _ => ?_)
    have hx9 := List.mem_singleton.mp hx
    subst hx9
    dsimp only at hlo2 hsk2 ⊢
    obtain ⟨l20, rfl, p20⟩ := lo_ref h39 hlo2
    obtain ⟨y21, l21, rfl, d21, p21⟩ := lo_lng rfl p20
    obtain ⟨y22, l22, rfl, d22, p22⟩ := lo_int rfl p21
    cases lo_nil p22
    rw [vnl_at hx2 (n := 5) (z := z3.toInt) rfl] at d21
    rw [vn_at hx2 (n := 4) (z := zm.toInt) rfl] at d22
    cases hsk2.nil
    exact ih (i + 1) y21 y22 ws2 (by omega) (by omega) (by show y21.toInt = sumN (fun x => F x * (x : Int)) i + F i * (i : Int); omega) hw2 ((hfr.tr hf1).tr hf2)
theorem mw_all {a39 a40 Z : Nat} {A : Int} {F : Nat → Int} {ws : va_W} (C : ai_cx tb_m21 9 p R9 s m args c D tys A9 b L sx cells slots) (h39 : ad[39]? = some a39) (h40 : ad[40]? = some a40) (hZ : 1 ≤ Z ∧ Z ≤ 99) (ht : vi ws 39 2 Z) (hF : ∀ x, x < 100 → vl ws 40 x (F x)) (nn : ∀ x, x < 100 → 0 ≤ F x) (hS : sumN F (Z + 1) = A) (hA : A ≤ 100000000) (hw : ai_wd tb_TY ad tys ws)
    (kk : ∀ (ws' : va_W) (z : Int64) (lv' : List (Nat × Value)), ai_wd tb_TY ad tys ws' → ai_fr [] ws ws' → z.toInt = sumN (fun x => F x * (x : Int)) (Z + 1) → hG tb_m21 p l e R9 s m args below meth c D A9 cells slots Q 31 lv' [.long z] ws') : hG tb_m21 p l e R9 s m args below meth c D A9 cells slots Q 0 [(0, .ref a39)] [] ws := by
  refine hsum (st := (0, [(0, (0, 39, 0, 0))], [], [(0, 0, false, 0, 0), (0, 2555, false, 1, 0)], [], [])) mw_0 rfl C (r := [0, 0]) ⟨en_mk (by simp only [en_b, and_true]; omega) rfl, sb0, ⟨rfl, Or.inl ⟨rfl, a39, h39, rfl⟩, trivial⟩, trivial, hw, k0, fun _ _ _ _ h => h, fun h => by cases h⟩ (fun x hx r1 lv1 st1 ws1 hx1 hb1 hl1 hs1 hlo1 hsk1 hw1 hV1 hf1 _ => ?_)
  have hx9 := List.mem_singleton.mp hx
  subst hx9
  dsimp only at hlo1 hsk1 ⊢
  obtain ⟨l10, rfl, p10⟩ := lo_ref h39 hlo1
  obtain ⟨y11, l11, rfl, d11, p11⟩ := lo_lng rfl p10
  obtain ⟨y12, l12, rfl, d12, p12⟩ := lo_int rfl p11
  cases lo_nil p12
  rw [vnl_at hx1 (n := 0) (z := 0) rfl] at d11
  rw [vn_at hx1 (n := 0) (z := 0) rfl] at d12
  cases hsk1.nil
  exact mw_loop (ws0 := ws) C h39 h40 hZ ht hF nn hS hA kk (Z + 1) 0 y11 y12 ws1 (by omega) (by omega) (by show _ = (0 : Int); omega) hw1 hf1
end XWW
section XLO
variable {ad : List Nat} {M : ai_m} {d : Nat} {p : Program} {l : Launch} {e : Env} {R9 : Room} {s : State} {m : MethodId} {args : Array Value} {below : List Frame} {meth : Method} {c : Code} {D : va_G} {tys : ai_ty} {A9 : Nat → Prop} {b L : Nat} {sx : Nat → Int32} {cells slots : Nat} {Q : State → Prop}
theorem ow_all {a39 u w : Nat} {A : Int} {zu : Int64} {zw : Int32} {ws : va_W} (C : ai_cx tb_m22 9 p R9 s m args c D tys A9 b L sx cells slots) (h39 : ad[39]? = some a39) (eu : zu.toInt = u) (eA : A = w) (hA : 1 ≤ A ∧ A ≤ 100000000) (bw : 0 ≤ zw.toInt ∧ zw.toInt ≤ 1) (hw : ai_wd tb_TY ad tys ws) (hv : vl ws 39 1 A)
    (kk : ∀ (ws' : va_W) (z : Int64) (lv' : List (Nat × Value)), ai_wd tb_TY ad tys ws' → ai_fr [] ws ws' → z.toInt = ansF u w zw.toInt → hG tb_m22 p l e R9 s m args below meth c D A9 cells slots Q 39 lv' [.long z] ws') : hG tb_m22 p l e R9 s m args below meth c D A9 cells slots Q 0 [(0, .ref a39), (1, .long zu), (3, .int zw)] [] ws := by
  have bu := ai_lrg zu
  refine hsum (st := (0, [(0, (0, 39, 0, 0)), (1, (2, 2, 0, 0)), (3, (1, 3, 0, 0))], [], [(0, 0, false, 0, 0), (0, 2555, false, 1, 0), (-9223372036854775808, 9223372036854775807, false, 2, 0), (0, 1, false, 3, 0)], [], [])) ow_0 rfl C (r := [0, 0, zu.toInt, zw.toInt]) ⟨en_mk (by simp only [en_b, and_true]; omega) rfl, sb0, ⟨rfl, Or.inl ⟨rfl, a39, h39, rfl⟩, rfl, lng_dv (z := zu.toInt) rfl (by omega), rfl, int_dv (z := zw.toInt) rfl (by omega), trivial⟩, trivial, hw, k0, fun _ _ _ _ h => h, fun h => by cases h⟩ (fun x hx r1 lv1 st1 ws1 hx1 hb1 hl1 hs1 hlo1 hsk1 hw1 hV1 hf1 _ => ?_)
  have hx9 := List.mem_singleton.mp hx
  subst hx9
  dsimp only at hlo1 hsk1 ⊢
  obtain ⟨l10, rfl, p10⟩ := lo_ref h39 hlo1
  obtain ⟨y11, l11, rfl, d11, p11⟩ := lo_lng rfl p10
  obtain ⟨y12, l12, rfl, d12, p12⟩ := lo_int rfl p11
  cases lo_nil p12
  rw [vnl_at hx1 (n := 2) (z := zu.toInt) rfl] at d11
  have e11 : zu = y11 := Int64.toInt_inj.mp (by omega)
  subst e11
  rw [vn_at hx1 (n := 3) (z := zw.toInt) rfl] at d12
  have e12 : zw = y12 := Int32.toInt_inj.mp (by omega)
  subst e12
  obtain ⟨x10, s10, rfl, c10, g10⟩ := hsk1.cons
  obtain ⟨x11, s11, rfl, c11, g11⟩ := g10.cons
  cases g11.nil
  have f10 := ref_of h39 c10
  subst f10
  obtain ⟨u11, rfl, w11⟩ := dvl c11 (hx1.at (k := 2) rfl)
  refine hlget (c0 := 39) (ci := 1) (i := 1) C (tv_m22.1.1.1 (2, .getfield 28, 3) (List.mem_of_getElem? (i := 2) rfl)) (tv_m22.1.1.2.1 (28, 1, 1) (List.mem_of_getElem? (i := 4) rfl)) rfl hw1 h39 (hv.fr hf1 rfl) (fun zA eA1 => ?_)
  refine hcallSJ (q := (57, 1, 23, 2, 0)) (M' := tb_m23) (As := [.long u11, .long zA]) (rest := []) (rets := [47]) (P := fun w' z => ai_wd tb_TY ad tys w' ∧ ai_fr [] ws1 w' ∧ z.toInt = ((Nat.gcd u w : Nat) : Int)) C (by decide) (tv_m22.1.1.1 (5, .invokestatic 57, 3) (List.mem_of_getElem? (i := 3) rfl)) (tv_m22.2 _ (List.mem_of_getElem? (i := 2) rfl)) (Or.inl rfl) rfl rfl rfl (Nat.le_of_ble_eq_true rfl) (Nat.le_of_ble_eq_true rfl) rfl (Nat.le_of_ble_eq_true rfl) ?_ ?_ ?_
  · intro pcr hp
    rw [List.mem_singleton.mp hp]
    exact tv_m23.1.1.1 (47, .lreturn, 1) (List.mem_of_getElem? (i := 24) rfl)
  · intro p2 e2 R2 s2 m2 args2 below2 meth2 c2 Q2 C2 kk2
    exact gc_all C2 (u := u) (v := w) (by omega) (by omega) (by omega) (by omega) (fun z lv2 h => kk2 47 ws1 z lv2 (by decide) ⟨hw1, fun _ _ _ _ h => h, h⟩)
  · intro ws2 zd hP
    obtain ⟨hw2, hf2, ed⟩ := hP
    have gp : 0 < Nat.gcd u w := Nat.gcd_pos_of_pos_right _ (by omega)
    have gl : Nat.gcd u w ≤ w := Nat.gcd_le_right _ (by omega)
    have hd0 : ¬ zd = 0 := fun q => by
      have := (lz ed).mp q
      omega
    have v2 : vl ws2 39 1 A := (hv.fr hf1 rfl).fr hf2 rfl
    have bd := ai_lrg zd
    refine hsum (st := (8, [(0, (0, 39, 0, 0)), (1, (2, 2, 0, 0)), (3, (1, 3, 0, 0))], [(2, 4, 0, 0)], [(0, 0, false, 0, 0), (0, 2555, false, 1, 0), (-9223372036854775808, 9223372036854775807, false, 2, 0), (0, 1, false, 3, 0), (1, 9223372036854775807, false, 4, 0)], [], [])) ow_1 rfl C (r := [0, 0, zu.toInt, zw.toInt, zd.toInt]) ⟨en_mk (by simp only [en_b, and_true]; omega) rfl, sb0, ⟨rfl, Or.inl ⟨rfl, a39, h39, rfl⟩, rfl, lng_dv (z := zu.toInt) rfl (by omega), rfl, int_dv (z := zw.toInt) rfl (by omega), trivial⟩, ⟨lng_dv (z := zd.toInt) rfl (by omega), trivial⟩, hw2, k0, fun _ _ _ _ h => h, fun h => by cases h⟩ (fun x hx r3 lv3 st3 ws3 hx3 hb3 hl3 hs3 hlo3 hsk3 hw3 hV3 hf3 _ => ?_)
    unfold ow_1_S at hx
    have m3_2 := nm_x hx3 (k := 2) rfl
    have m3_3 := nm_x hx3 (k := 3) rfl
    have m3_4 := nm_x hx3 (k := 4) rfl
    rcases List.mem_cons.mp hx with rfl | hx
    · skip
      dsimp only at hlo3 hsk3 ⊢
      simp (config := { decide := true }) only [bnd_b, lin_b, lin_q, Nat.reduceAdd, Nat.zero_add, Nat.reduceEqDiff, reduceIte, and_true, Int.add_zero] at hb3 hl3
      obtain ⟨l30, rfl, p30⟩ := lo_ref h39 hlo3
      obtain ⟨y31, l31, rfl, d31, p31⟩ := lo_lng rfl p30
      obtain ⟨y32, l32, rfl, d32, p32⟩ := lo_int rfl p31
      obtain ⟨y33, l33, rfl, d33, p33⟩ := lo_lng rfl p32
      cases lo_nil p33
      rw [vnl_at hx3 (n := 2) (z := zu.toInt) rfl] at d31
      have e31 : zu = y31 := Int64.toInt_inj.mp (by omega)
      subst e31
      rw [vn_at hx3 (n := 3) (z := zw.toInt) rfl] at d32
      have e32 : zw = y32 := Int32.toInt_inj.mp (by omega)
      subst e32
      rw [vnl_at hx3 (n := 4) (z := zd.toInt) rfl] at d33
      obtain ⟨x30, s30, rfl, c30, g30⟩ := hsk3.cons
      cases g30.nil
      have f30 := ref_of h39 c30
      subst f30
      refine hlget (c0 := 39) (ci := 1) (i := 1) C (tv_m22.1.1.1 (33, .getfield 28, 3) (List.mem_of_getElem? (i := 18) rfl)) (tv_m22.1.1.2.1 (28, 1, 1) (List.mem_of_getElem? (i := 4) rfl)) rfl hw3 h39 (v2.fr hf3 rfl) (fun zB eB => ?_)
      have bB := ai_lrg zB
      refine hsum (st := (36, [(0, (0, 39, 0, 0)), (1, (2, 2, 0, 0)), (3, (1, 3, 0, 0)), (4, (2, 4, 0, 0))], [(2, 5, 0, 0)], [(0, 0, false, 0, 0), (0, 2555, false, 1, 0), (-9223372036854775808, 9223372036854775807, false, 2, 0), (0, 1, false, 3, 0), (1, 9223372036854775807, false, 4, 0), (-9223372036854775808, 9223372036854775807, false, 5, 0)], [], [])) ow_3 rfl C (r := [0, 0, zu.toInt, zw.toInt, zd.toInt, zB.toInt]) ⟨en_mk (by simp only [en_b, and_true]; omega) rfl, sb0, ⟨rfl, Or.inl ⟨rfl, a39, h39, rfl⟩, rfl, lng_dv (z := zu.toInt) rfl (by omega), rfl, int_dv (z := zw.toInt) rfl (by omega), rfl, lng_dv (z := zd.toInt) rfl (by omega), trivial⟩, ⟨lng_dv (z := zB.toInt) rfl (by omega), trivial⟩, hw3, k0, fun _ _ _ _ h => h, fun h => by cases h⟩ (fun x hx r4 lv4 st4 ws4 hx4 hb4 hl4 hs4 hlo4 hsk4 hw4 hV4 hf4 _ => ?_)
      have hx9 := List.mem_singleton.mp hx
      subst hx9
      dsimp only at hlo4 hsk4 ⊢
      cases lo_nil hlo4
      obtain ⟨x40, s40, rfl, c40, g40⟩ := hsk4.cons
      obtain ⟨x41, s41, rfl, c41, g41⟩ := g40.cons
      cases g41.nil
      obtain ⟨u40, rfl, w40⟩ := dvl c40 (hx4.at (k := 4) rfl)
      obtain ⟨u41, rfl, w41⟩ := dvl c41 (hx4.at (k := 5) rfl)
      have e40 : u40 = zd := Int64.toInt_inj.mp (by omega)
      rw [e40]
      refine hldiv C (tv_m22.1.1.1 (38, .ldiv, 1) (List.mem_of_getElem? (i := 20) rfl)) hd0 ?_
      have hq := lg_div (show u41.toInt = ((w : Nat) : Int) by omega) ed
      refine kk ws4 _ [] hw4 (((hf1.tr hf2).tr hf3).tr hf4) ?_
      rw [hq]
      unfold ansF
      rw [if_neg (by omega)]
    have hx0 := List.mem_singleton.mp hx
    subst hx0
    dsimp only at hlo3 hsk3 ⊢
    simp (config := { decide := true }) only [bnd_b, lin_b, lin_q, Nat.reduceAdd, Nat.zero_add, Nat.reduceEqDiff, reduceIte, and_true, Int.add_zero] at hb3 hl3
    obtain ⟨l30, rfl, p30⟩ := lo_ref h39 hlo3
    obtain ⟨y31, l31, rfl, d31, p31⟩ := lo_lng rfl p30
    obtain ⟨y32, l32, rfl, d32, p32⟩ := lo_int rfl p31
    obtain ⟨y33, l33, rfl, d33, p33⟩ := lo_lng rfl p32
    cases lo_nil p33
    rw [vnl_at hx3 (n := 2) (z := zu.toInt) rfl] at d31
    have e31 : zu = y31 := Int64.toInt_inj.mp (by omega)
    subst e31
    rw [vn_at hx3 (n := 3) (z := zw.toInt) rfl] at d32
    have e32 : zw = y32 := Int32.toInt_inj.mp (by omega)
    subst e32
    rw [vnl_at hx3 (n := 4) (z := zd.toInt) rfl] at d33
    obtain ⟨x30, s30, rfl, c30, g30⟩ := hsk3.cons
    obtain ⟨x31, s31, rfl, c31, g31⟩ := g30.cons
    cases g31.nil
    obtain ⟨u30, rfl, w30⟩ := dvl c30 (hx3.at (k := 4) rfl)
    obtain ⟨u31, rfl, w31⟩ := dvl c31 (hx3.at (k := 2) rfl)
    have e30 : u30 = zd := Int64.toInt_inj.mp (by omega)
    rw [e30]
    refine hldiv C (tv_m22.1.1.1 (28, .ldiv, 1) (List.mem_of_getElem? (i := 15) rfl)) hd0 ?_
    have hq := lg_div (show u31.toInt = ((u : Nat) : Int) by omega) ed
    have bq := ai_lrg (u31 / zd)
    refine hG_sub (lv2 := []) (fun q hq => by cases hq) ?_
    refine hsum (st := (29, [], [(2, 2, 0, 0)], [(0, 0, false, 0, 0), (0, 2555, false, 1, 0), (-9223372036854775808, 9223372036854775807, false, 2, 0)], [], [])) ow_2 rfl C (r := [0, 0, (u31 / zd).toInt]) ⟨en_mk (by simp only [en_b, and_true]; omega) rfl, sb0, trivial, ⟨lng_dv (z := (u31 / zd).toInt) rfl (by omega), trivial⟩, hw3, k0, fun _ _ _ _ h => h, fun h => by cases h⟩ (fun x hx r4 lv4 st4 ws4 hx4 hb4 hl4 hs4 hlo4 hsk4 hw4 hV4 hf4 _ => ?_)
    unfold ow_2_S at hx
    have m4_2 := nm_x hx4 (k := 2) rfl
    have hx0 := List.mem_singleton.mp hx
    subst hx0
    dsimp only at hlo4 hsk4 ⊢
    simp (config := { decide := true }) only [bnd_b, lin_b, lin_q, Nat.reduceAdd, Nat.zero_add, Nat.reduceEqDiff, reduceIte, and_true, Int.add_zero] at hb4 hl4
    obtain ⟨z, rfl, hz⟩ := skl rfl hsk4
    rw [vnl_at hx4 (n := 2) (z := (u31 / zd).toInt) rfl] at hz
    refine kk ws4 z lv4 hw4 (((hf1.tr hf2).tr hf3).tr hf4) ?_
    unfold ansF
    rw [if_pos (by omega)]
    omega
end XLO
