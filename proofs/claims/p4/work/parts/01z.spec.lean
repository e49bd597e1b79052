/-! what a text's tokens are, over a tape g of n bytes: places from p on -/
def tp_i (x lo hi : Int) : Bool := decide (lo ≤ x) && decide (x ≤ hi)
theorem tp_i_iff {x lo hi : Int} : tp_i x lo hi = true ↔ lo ≤ x ∧ x ≤ hi := by
  unfold tp_i
  rw [Bool.and_eq_true, decide_eq_true_eq, decide_eq_true_eq]
/-- the first place from p on, below n, that has no byte of lo to hi (n - p steps at most) -/
def tp_sk (g : Nat → Int) (lo hi : Int) : Nat → Nat → Nat
  | 0, p => p
  | f + 1, p => if tp_i (g p) lo hi = true then tp_sk g lo hi f (p + 1) else p
def tp_skip (g : Nat → Int) (n : Nat) (lo hi : Int) (p : Nat) : Nat := tp_sk g lo hi (n - p) p
theorem tp_skip_in {g : Nat → Int} {n p : Nat} {lo hi : Int} (h : p < n) (h1 : lo ≤ g p) (h2 : g p ≤ hi) : tp_skip g n lo hi p = tp_skip g n lo hi (p + 1) := by
  unfold tp_skip
  rw [show n - p = (n - (p + 1)) + 1 by omega]
  show (if tp_i (g p) lo hi = true then tp_sk g lo hi (n - (p + 1)) (p + 1) else p) = _
  rw [if_pos (tp_i_iff.mpr ⟨h1, h2⟩)]
theorem tp_skip_out {g : Nat → Int} {n p : Nat} {lo hi : Int} (h : n ≤ p ∨ g p < lo ∨ hi < g p) : tp_skip g n lo hi p = p := by
  unfold tp_skip
  by_cases hp : n ≤ p
  · rw [show n - p = 0 by omega]
    rfl
  · rw [show n - p = (n - (p + 1)) + 1 by omega]
    show (if tp_i (g p) lo hi = true then tp_sk g lo hi (n - (p + 1)) (p + 1) else p) = _
    rw [if_neg (fun hc => by have := tp_i_iff.mp hc; omega)]
theorem tp_sk_le {g : Nat → Int} {lo hi : Int} : ∀ (f p : Nat), p ≤ tp_sk g lo hi f p ∧ tp_sk g lo hi f p ≤ p + f
  | 0, p => ⟨Nat.le_refl _, Nat.le_refl _⟩
  | f + 1, p => by
    show p ≤ (if tp_i (g p) lo hi = true then tp_sk g lo hi f (p + 1) else p) ∧ (if tp_i (g p) lo hi = true then tp_sk g lo hi f (p + 1) else p) ≤ p + (f + 1)
    split
    · have := tp_sk_le (g := g) (lo := lo) (hi := hi) f (p + 1)
      omega
    · omega
theorem tp_skip_le {g : Nat → Int} {n p : Nat} {lo hi : Int} : p ≤ tp_skip g n lo hi p ∧ (p ≤ n → tp_skip g n lo hi p ≤ n) := by
  have := tp_sk_le (g := g) (lo := lo) (hi := hi) (n - p) p
  unfold tp_skip
  omega
def tp_num (g : Nat → Int) (f e : Nat) : Int := if e = f + 1 then g f - 48 else 10 * (g f - 48) + (g (f + 1) - 48)
/-- kind (0 the end, 1 a NAME, 2 a NUMBER, 3 a stop, 4 none), its first byte, the byte behind it, its number -/
def sp_tok (g : Nat → Int) (n p : Nat) : Nat × Nat × Nat × Int :=
  if n ≤ tp_skip g n 32 32 p then (0, tp_skip g n 32 32 p, tp_skip g n 32 32 p, 0)
  else if g (tp_skip g n 32 32 p) = 59 then (3, tp_skip g n 32 32 p, tp_skip g n 32 32 p + 1, 0)
  else if tp_i (g (tp_skip g n 32 32 p)) 97 122 = true then (1, tp_skip g n 32 32 p, tp_skip g n 97 122 (tp_skip g n 32 32 p), 0)
  else if tp_i (g (tp_skip g n 32 32 p)) 48 57 = true then
    (if 2 < tp_skip g n 48 57 (tp_skip g n 32 32 p) - tp_skip g n 32 32 p then (4, tp_skip g n 32 32 p, tp_skip g n 48 57 (tp_skip g n 32 32 p), 0)
     else (2, tp_skip g n 32 32 p, tp_skip g n 48 57 (tp_skip g n 32 32 p), tp_num g (tp_skip g n 32 32 p) (tp_skip g n 48 57 (tp_skip g n 32 32 p))))
  else (4, tp_skip g n 32 32 p, tp_skip g n 32 32 p, 0)
/-- the words, and which one stands from f to e (7: none) -/
def sp_W : List (List Int) := [[112, 108, 97, 105, 110], [115, 110, 97, 107, 101], [115, 101, 97], [97, 103, 101], [103, 117, 101, 115, 116], [108, 97, 117, 103, 104, 115], [112, 108, 97, 110]]
def sp_is (g : Nat → Int) (f e : Nat) (w : List Int) : Bool := decide (e - f = w.length) && (List.range w.length).all fun k => decide (w[k]? = some (g (f + k)))
def sp_word (g : Nat → Int) (f e : Nat) : Nat := (sp_W.findIdx? (sp_is g f e)).getD 7
/-- the int at a place of a row of ints, in a world -/
def fx_o (w : va_W) (c i : Nat) : Option Int := match w[c]? with
  | some (_, .inl (_, n, .inl f)) => if i < n then some (f i).toInt else none
  | _ => none
def fx_at (w : va_W) (c i : Nat) : Int := (fx_o w c i).getD 0
