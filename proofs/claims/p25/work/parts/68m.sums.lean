/-! pulls that slip: sums, both ways -/
def sumN (g : Nat → Int) : Nat → Int
  | 0 => 0
  | k + 1 => sumN g k + g k
theorem sumN_ext {g h : Nat → Int} : ∀ {k : Nat}, (∀ x, x < k → g x = h x) → sumN g k = sumN h k
  | 0, _ => rfl
  | k + 1, e => by
    show sumN g k + g k = sumN h k + h k
    rw [sumN_ext (k := k) (fun x hx => e x (by omega)), e k (by omega)]
theorem sumN_mul (c : Int) (g : Nat → Int) : ∀ k, sumN (fun x => c * g x) k = c * sumN g k
  | 0 => (Int.mul_zero c).symm
  | k + 1 => by
    show sumN (fun x => c * g x) k + c * g k = c * (sumN g k + g k)
    rw [sumN_mul c g k, Int.mul_add]
theorem sumN_add (g h : Nat → Int) : ∀ k, sumN (fun x => g x + h x) k = sumN g k + sumN h k
  | 0 => rfl
  | k + 1 => by
    show sumN (fun x => g x + h x) k + (g k + h k) = (sumN g k + g k) + (sumN h k + h k)
    rw [sumN_add g h k]
    omega
theorem sumN_0 : ∀ k, sumN (fun _ => 0) k = 0
  | 0 => rfl
  | k + 1 => by
    show sumN (fun _ => 0) k + 0 = 0
    rw [sumN_0 k]
    rfl
theorem sumN_nn {g : Nat → Int} : ∀ {k : Nat}, (∀ x, x < k → 0 ≤ g x) → 0 ≤ sumN g k
  | 0, _ => Int.le_refl 0
  | k + 1, h => by
    have h1 := sumN_nn (k := k) (fun x hx => h x (by omega))
    have h2 := h k (by omega)
    show 0 ≤ sumN g k + g k
    omega
theorem sumN_at {g : Nat → Int} : ∀ {k a : Nat}, (∀ x, x < k → 0 ≤ g x) → a < k → g a ≤ sumN g k
  | 0, _, _, h => absurd h (by omega)
  | k + 1, a, h, ha => by
    have h1 := sumN_nn (g := g) (k := k) (fun x hx => h x (by omega))
    have h2 := h k (by omega)
    show g a ≤ sumN g k + g k
    by_cases e : a = k
    · rw [e]
      omega
    · have := sumN_at (g := g) (k := k) (a := a) (fun x hx => h x (by omega)) (by omega)
      omega
theorem sumN_le {g h : Nat → Int} : ∀ {k : Nat}, (∀ x, x < k → g x ≤ h x) → sumN g k ≤ sumN h k
  | 0, _ => Int.le_refl 0
  | k + 1, e => by
    have h1 := sumN_le (k := k) (fun x hx => e x (by omega))
    have h2 := e k (by omega)
    show sumN g k + g k ≤ sumN h k + h k
    omega
/-- one place changed -/
def upN (g : Nat → Int) (a : Nat) (y : Int) (x : Nat) : Int := if x = a then y else g x
theorem upN_at (g : Nat → Int) (a : Nat) (y : Int) : upN g a y a = y := if_pos rfl
theorem upN_ne {g : Nat → Int} {a x : Nat} {y : Int} (h : x ≠ a) : upN g a y x = g x := if_neg h
theorem sumN_up (g : Nat → Int) (c : Nat → Int) (a : Nat) (y : Int) : ∀ {k : Nat}, a < k → sumN (fun x => upN g a y x * c x) k = sumN (fun x => g x * c x) k + (y - g a) * c a
  | 0, h => absurd h (by omega)
  | k + 1, h => by
    show sumN (fun x => upN g a y x * c x) k + upN g a y k * c k = sumN (fun x => g x * c x) k + g k * c k + (y - g a) * c a
    by_cases e : a = k
    · subst e
      rw [upN_at, sumN_ext (k := a) (h := fun x => g x * c x) (fun x hx => by rw [upN_ne (by omega)]), Int.sub_mul]
      omega
    · rw [sumN_up g c a y (k := k) (by omega), upN_ne (by omega)]
      omega
/-- of the ways, one place's weight changed -/
theorem sumN_cw (g : Nat → Int) (c c' : Nat → Int) (a : Nat) (he : ∀ x, x ≠ a → c' x = c x) {k : Nat} (h : a < k) : sumN (fun x => g x * c' x) k = sumN (fun x => g x * c x) k + g a * (c' a - c a) := by
  have e : sumN (fun x => g x * c' x) k = sumN (fun x => upN c a (c' a) x * g x) k := sumN_ext (fun x _ => by
    by_cases hx : x = a
    · rw [hx, upN_at, Int.mul_comm]
    · rw [upN_ne hx, he x hx, Int.mul_comm])
  rw [e, sumN_up c g a (c' a) h, Int.mul_comm (c' a - c a)]
  rw [sumN_ext (k := k) (g := fun x => c x * g x) (h := fun x => g x * c x) (fun x _ => Int.mul_comm _ _)]
def tenP : Nat → Int
  | 0 => 1
  | i + 1 => 10 * tenP i
theorem tenP_pos : ∀ i, 1 ≤ tenP i
  | 0 => Int.le_refl 1
  | i + 1 => by
    have := tenP_pos i
    show 1 ≤ 10 * tenP i
    omega
theorem tenP_add (a : Nat) : ∀ b, tenP (a + b) = tenP a * tenP b
  | 0 => (Int.mul_one _).symm
  | b + 1 => by
    show 10 * tenP (a + b) = tenP a * (10 * tenP b)
    rw [tenP_add a b, ← Int.mul_assoc, ← Int.mul_assoc, Int.mul_comm 10]
theorem tenP_8 : ∀ i, i ≤ 8 → tenP i ≤ 100000000 := by decide
/-- what a test's state is worth when i pulls are to come: v slips of ten -/
def wv (k v : Int) (Z : Nat) (f : Nat → Int) : Nat → Nat → Int → Int → Int
  | 0, m, _, _ => f m
  | i + 1, m, p, s => if m < Z ∧ 1 ≤ s then v * wv k v Z f i m (min 99 (p + 1)) (s - 1) + (10 - v) * wv k v Z f i (min Z (m + (yl k s p).toNat)) (min 99 (p + 1)) (s - 1) else 10 * wv k v Z f i m p s
theorem wv_y {k v : Int} {Z : Nat} {f : Nat → Int} {i m : Nat} {p s : Int} (h : m < Z ∧ 1 ≤ s) : wv k v Z f (i + 1) m p s = v * wv k v Z f i m (min 99 (p + 1)) (s - 1) + (10 - v) * wv k v Z f i (min Z (m + (yl k s p).toNat)) (min 99 (p + 1)) (s - 1) := if_pos h
theorem wv_n {k v : Int} {Z : Nat} {f : Nat → Int} {i m : Nat} {p s : Int} (h : ¬ (m < Z ∧ 1 ≤ s)) : wv k v Z f (i + 1) m p s = 10 * wv k v Z f i m p s := if_neg h
theorem wv_stop {k v : Int} {Z : Nat} {f : Nat → Int} {m : Nat} {p s : Int} (h : ¬ (m < Z ∧ 1 ≤ s)) : ∀ i, wv k v Z f i m p s = tenP i * f m
  | 0 => (Int.one_mul _).symm
  | i + 1 => by
    rw [wv_n h, wv_stop h i, ← Int.mul_assoc]
    rfl
/-- the ways by masks: first the lowest bit -/
def mkF (k v : Int) (Z : Nat) (f : Nat → Int) : Nat → Nat → Int → Nat → Int → Int → Int
  | 0, _, o, m, _, _ => o * f m
  | i + 1, q, o, m, p, s => if m < Z ∧ 1 ≤ s then (if q % 2 = 1 then mkF k v Z f i (q / 2) (o * v) m (min 99 (p + 1)) (s - 1) else mkF k v Z f i (q / 2) (o * (10 - v)) (min Z (m + (yl k s p).toNat)) (min 99 (p + 1)) (s - 1)) else (if q % 2 = 1 then mkF k v Z f i (q / 2) (o * v) m p s else mkF k v Z f i (q / 2) (o * (10 - v)) m p s)
theorem sumN_2 (g : Nat → Int) : ∀ k, sumN g (2 * k) = sumN (fun q => g (2 * q)) k + sumN (fun q => g (2 * q + 1)) k
  | 0 => rfl
  | k + 1 => by
    show sumN g (2 * k + 1) + g (2 * k + 1) = (sumN (fun q => g (2 * q)) k + g (2 * k)) + (sumN (fun q => g (2 * q + 1)) k + g (2 * k + 1))
    show sumN g (2 * k) + g (2 * k) + g (2 * k + 1) = _
    rw [sumN_2 g k]
    omega
theorem mk_sum (k v : Int) (Z : Nat) (f : Nat → Int) : ∀ (i : Nat) (o : Int) (m : Nat) (p s : Int), sumN (fun q => mkF k v Z f i q o m p s) (2 ^ i) = o * wv k v Z f i m p s
  | 0, o, m, p, s => by
    show 0 + o * f m = o * f m
    omega
  | i + 1, o, m, p, s => by
    rw [show 2 ^ (i + 1) = 2 * 2 ^ i by rw [Nat.pow_succ]; omega, sumN_2]
    have d0 : ∀ q : Nat, (2 * q) % 2 = 0 := fun q => by omega
    have d1 : ∀ q : Nat, (2 * q + 1) % 2 = 1 := fun q => by omega
    have e0 : ∀ q : Nat, (2 * q) / 2 = q := fun q => by omega
    have e1 : ∀ q : Nat, (2 * q + 1) / 2 = q := fun q => by omega
    by_cases h : m < Z ∧ 1 ≤ s
    · have a0 : ∀ q, mkF k v Z f (i + 1) (2 * q) o m p s = mkF k v Z f i q (o * (10 - v)) (min Z (m + (yl k s p).toNat)) (min 99 (p + 1)) (s - 1) := fun q => by
        show (if m < Z ∧ 1 ≤ s then (if (2 * q) % 2 = 1 then _ else mkF k v Z f i ((2 * q) / 2) _ _ _ _) else _) = _
        rw [if_pos h, d0, if_neg (by decide), e0]
      have a1 : ∀ q, mkF k v Z f (i + 1) (2 * q + 1) o m p s = mkF k v Z f i q (o * v) m (min 99 (p + 1)) (s - 1) := fun q => by
        show (if m < Z ∧ 1 ≤ s then (if (2 * q + 1) % 2 = 1 then mkF k v Z f i ((2 * q + 1) / 2) _ _ _ _ else _) else _) = _
        rw [if_pos h, d1, if_pos rfl, e1]
      rw [sumN_ext (fun q _ => a0 q), sumN_ext (fun q _ => a1 q), mk_sum k v Z f i, mk_sum k v Z f i, wv_y h, Int.mul_add, Int.mul_assoc, Int.mul_assoc]
      omega
    · have a0 : ∀ q, mkF k v Z f (i + 1) (2 * q) o m p s = mkF k v Z f i q (o * (10 - v)) m p s := fun q => by
        show (if m < Z ∧ 1 ≤ s then _ else (if (2 * q) % 2 = 1 then _ else mkF k v Z f i ((2 * q) / 2) _ _ _ _)) = _
        rw [if_neg h, d0, if_neg (by decide), e0]
      have a1 : ∀ q, mkF k v Z f (i + 1) (2 * q + 1) o m p s = mkF k v Z f i q (o * v) m p s := fun q => by
        show (if m < Z ∧ 1 ≤ s then _ else (if (2 * q + 1) % 2 = 1 then mkF k v Z f i ((2 * q + 1) / 2) _ _ _ _ else _)) = _
        rw [if_neg h, d1, if_pos rfl, e1]
      rw [sumN_ext (fun q _ => a0 q), sumN_ext (fun q _ => a1 q), mk_sum k v Z f i, mk_sum k v Z f i, wv_n h, ← Int.add_mul, ← Int.mul_add, show (10 - v : Int) + v = 10 by omega, Int.mul_assoc]
/-- a row of ways, spread once: places below i are still to be spread -/
def potF (v : Int) (Z g i : Nat) (w : Nat → Int) (x : Nat) : Int := if x < i then v * w x + (10 - v) * w (min Z (x + g)) else w x
theorem pot_step {v : Int} {Z g m : Nat} (hm : m < Z) (F : Nat → Int) (w : Nat → Int) :
    sumN (fun x => upN (upN F m (F m * v)) (min Z (m + g)) (upN F m (F m * v) (min Z (m + g)) + F m * (10 - v)) x * potF v Z g m w x) (Z + 1) = sumN (fun x => F x * potF v Z g (m + 1) w x) (Z + 1) := by
  have hi : m ≤ min Z (m + g) := by omega
  have hz : min Z (m + g) < Z + 1 := by omega
  have p1 : potF v Z g m w (min Z (m + g)) = w (min Z (m + g)) := if_neg (by omega)
  have p2 : potF v Z g m w m = w m := if_neg (by omega)
  have p3 : potF v Z g (m + 1) w m = v * w m + (10 - v) * w (min Z (m + g)) := if_pos (by omega)
  have hc : ∀ x, x ≠ m → potF v Z g m w x = potF v Z g (m + 1) w x := fun x hx => by
    unfold potF
    by_cases h : x < m
    · rw [if_pos h, if_pos (by omega)]
    · rw [if_neg h, if_neg (by omega)]
  rw [sumN_up _ _ _ _ hz, sumN_up _ _ _ _ (show m < Z + 1 by omega), sumN_cw F _ _ m hc (show m < Z + 1 by omega), p1, p2, p3]
  generalize F m = b
  generalize w m = A
  generalize w (min Z (m + g)) = B
  generalize upN F m (b * v) (min Z (m + g)) = u
  generalize sumN (fun x => F x * potF v Z g (m + 1) w x) (Z + 1) = S
  have e1 : (u + b * (10 - v) - u) * B = b * ((10 - v) * B) := by
    rw [show u + b * (10 - v) - u = b * (10 - v) by omega, Int.mul_assoc]
  have e2 : (b * v - b) * A = b * (v * A) - b * A := by
    rw [Int.sub_mul, Int.mul_assoc]
  have e3 : b * (A - (v * A + (10 - v) * B)) = b * A - (b * (v * A) + b * ((10 - v) * B)) := by
    rw [Int.mul_sub, Int.mul_add]
  rw [e1, e2, e3]
  omega
