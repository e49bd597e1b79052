/-! what a text's tokens are, over a tape g of n bytes: places from p on -/
def tp_i (x lo hi : Int) : Bool := decide (lo ≤ x) && decide (x ≤ hi)
theorem tp_i_iff {x lo hi : Int} : tp_i x lo hi = true ↔ lo ≤ x ∧ x ≤ hi := by
  unfold tp_i
  rw [Bool.and_eq_true, decide_eq_true_eq, decide_eq_true_eq]
/-- the first place from p on, below n, that has no byte of lo to hi (n - p steps at most) -/
def tp_sk (g : Nat → Int) (lo hi : Int) : Nat → Nat → Nat
  | 0, p => p
  | f + 1, p => if tp_i (g p) lo hi = true then tp_sk g lo hi f (p + 1) else p
def tp_skip (g : Nat → Int) (n : Nat) (lo hi : Int) (p : Nat) : Nat := tp_sk g lo hi (n - p) p
theorem tp_skip_in {g : Nat → Int} {n p : Nat} {lo hi : Int} (h : p < n) (h1 : lo ≤ g p) (h2 : g p ≤ hi) : tp_skip g n lo hi p = tp_skip g n lo hi (p + 1) := by
  unfold tp_skip
  rw [show n - p = (n - (p + 1)) + 1 by omega]
  show (if tp_i (g p) lo hi = true then tp_sk g lo hi (n - (p + 1)) (p + 1) else p) = _
  rw [if_pos (tp_i_iff.mpr ⟨h1, h2⟩)]
theorem tp_skip_out {g : Nat → Int} {n p : Nat} {lo hi : Int} (h : n ≤ p ∨ g p < lo ∨ hi < g p) : tp_skip g n lo hi p = p := by
  unfold tp_skip
  by_cases hp : n ≤ p
  · rw [show n - p = 0 by omega]
    rfl
  · rw [show n - p = (n - (p + 1)) + 1 by omega]
    show (if tp_i (g p) lo hi = true then tp_sk g lo hi (n - (p + 1)) (p + 1) else p) = _
    rw [if_neg (fun hc => by have := tp_i_iff.mp hc; omega)]
theorem tp_sk_le {g : Nat → Int} {lo hi : Int} : ∀ (f p : Nat), p ≤ tp_sk g lo hi f p ∧ tp_sk g lo hi f p ≤ p + f
  | 0, p => ⟨Nat.le_refl _, Nat.le_refl _⟩
  | f + 1, p => by
    show p ≤ (if tp_i (g p) lo hi = true then tp_sk g lo hi f (p + 1) else p) ∧ (if tp_i (g p) lo hi = true then tp_sk g lo hi f (p + 1) else p) ≤ p + (f + 1)
    split
    · have := tp_sk_le (g := g) (lo := lo) (hi := hi) f (p + 1)
      omega
    · omega
theorem tp_skip_le {g : Nat → Int} {n p : Nat} {lo hi : Int} : p ≤ tp_skip g n lo hi p ∧ (p ≤ n → tp_skip g n lo hi p ≤ n) := by
  have := tp_sk_le (g := g) (lo := lo) (hi := hi) (n - p) p
  unfold tp_skip
  omega
def tp_num (g : Nat → Int) (f e : Nat) : Int := if e ≤ f then 0 else if e = f + 1 then g f - 48 else 10 * (g f - 48) + (g (f + 1) - 48)
/-- kind (0 the end, 1 a NAME, 2 a NUMBER, 3 a stop, 4 none), its first byte, the byte behind it, its number -/
def sp_tok (g : Nat → Int) (n p : Nat) : Nat × Nat × Nat × Int :=
  if n ≤ tp_skip g n 32 32 p then (0, tp_skip g n 32 32 p, tp_skip g n 32 32 p, 0)
  else if g (tp_skip g n 32 32 p) = 59 then (3, tp_skip g n 32 32 p, tp_skip g n 32 32 p + 1, 0)
  else if tp_i (g (tp_skip g n 32 32 p)) 97 122 = true then (1, tp_skip g n 32 32 p, tp_skip g n 97 122 (tp_skip g n 32 32 p), 0)
  else if tp_i (g (tp_skip g n 32 32 p)) 48 57 = true then
    (if 2 < tp_skip g n 48 57 (tp_skip g n 32 32 p) - tp_skip g n 32 32 p then (4, tp_skip g n 32 32 p, tp_skip g n 48 57 (tp_skip g n 32 32 p), 0)
     else (2, tp_skip g n 32 32 p, tp_skip g n 48 57 (tp_skip g n 32 32 p), tp_num g (tp_skip g n 32 32 p) (tp_skip g n 48 57 (tp_skip g n 32 32 p))))
  else (4, tp_skip g n 32 32 p, tp_skip g n 32 32 p, 0)
/-- the words, and which one stands from f to e (7: none) -/
def sp_W : List (List Int) := [[112, 108, 97, 105, 110], [115, 110, 97, 107, 101], [115, 101, 97], [97, 103, 101], [103, 117, 101, 115, 116], [108, 97, 117, 103, 104, 115], [112, 108, 97, 110]]
def sp_is (g : Nat → Int) (f e : Nat) (w : List Int) : Bool := decide (e - f = w.length) && (List.range w.length).all fun k => decide (w[k]? = some (g (f + k)))
def sp_word (g : Nat → Int) (f e : Nat) : Nat := (sp_W.findIdx? (sp_is g f e)).getD 7
/-- the int at a place of a row of ints, in a world -/
def fx_o (w : va_W) (c i : Nat) : Option Int := match w[c]? with
  | some (_, .inl (_, n, .inl f)) => if i < n then some (f i).toInt else none
  | _ => none
def fx_at (w : va_W) (c i : Nat) : Int := (fx_o w c i).getD 0
/-- a plan's numbers from a token on: how it ends (0 another token, 5 a 9th act, 3 out of bounds), the acts, the token there -/
def sp_plan (g : Nat → Int) (n : Nat) : Nat → Nat × Nat × Nat × Int → List Int → Nat × List Int × (Nat × Nat × Nat × Int)
  | 0, tk, as => (0, as, tk)
  | f + 1, tk, as => if tk.1 = 2 then (if 8 ≤ as.length then (5, as, tk) else if tp_i tk.2.2.2 0 4 = true then sp_plan g n f (sp_tok g n tk.2.2.1) (as ++ [tk.2.2.2]) else (3, as, tk)) else (0, as, tk)
/-- the highest act below 4 (-1: none) -/
def sp_high (as : List Int) : Int := as.foldl (fun h a => if a < 4 ∧ h < a then a else h) (-1)
/-- the tape of a world: row 27 -/
def fx_tape (w0 : va_W) (g : Nat → Int) : Prop := ∀ i, i < 160 → fx_o w0 27 i = some (g i)
def fx_lo (j : Nat) : Int := if j = 0 then 32 else if j = 1 then 97 else 48
def fx_hi (j : Nat) : Int := if j = 0 then 32 else if j = 1 then 122 else 57
/-- what is wrong with a token that isn't the one asked for -/
def sp_ft (k : Nat) : Nat := if k = 4 then 1 else 2
abbrev sp_T : Type := Nat × Nat × Nat × Int
/-- between two lines: the token, how many tests, what is told (bits 4, 5, 6), the acts -/
abbrev sp_S : Type := sp_T × Nat × Nat × List Int
abbrev sp_R : Type := (Nat × Nat) ⊕ sp_S
/-- a line's end: a stop, or a fault (what, where) -/
def sp_stop (g : Nat → Int) (n tests told : Nat) (as : List Int) (tk : sp_T) : sp_R :=
  if tk.1 = 3 then .inr (sp_tok g n tk.2.2.1, tests, told, as) else .inl (sp_ft tk.1, tk.2.1)
def sp_t3 (g : Nat → Int) (n tests told : Nat) (as : List Int) (t3 : sp_T) : sp_R :=
  if t3.1 = 2 then (if 0 ≤ t3.2.2.2 ∧ t3.2.2.2 ≤ 99 then sp_stop g n tests told as (sp_tok g n t3.2.2.1) else .inl (3, t3.2.1)) else sp_stop g n tests told as t3
def sp_t2 (g : Nat → Int) (n tests told : Nat) (as : List Int) (size : Int) (t2 : sp_T) : sp_R :=
  if t2.1 = 2 then (if 0 ≤ t2.2.2.2 ∧ t2.2.2.2 ≤ size then sp_t3 g n tests told as (sp_tok g n t2.2.2.1) else .inl (3, t2.2.1)) else sp_stop g n tests told as t2
def sp_t1 (g : Nat → Int) (n tests told : Nat) (as : List Int) (t1 : sp_T) : sp_R :=
  if t1.1 = 2 then (if 1 ≤ t1.2.2.2 ∧ t1.2.2.2 ≤ 99 then sp_t2 g n (tests + 1) told as t1.2.2.2 (sp_tok g n t1.2.2.1) else .inl (3, t1.2.1)) else .inl (sp_ft t1.1, t1.2.1)
def sp_o1 (g : Nat → Int) (n tests told : Nat) (as : List Int) (most : Int) (t1 : sp_T) : sp_R :=
  if t1.1 = 2 then (if 0 ≤ t1.2.2.2 ∧ t1.2.2.2 ≤ most then sp_stop g n tests told as (sp_tok g n t1.2.2.1) else .inl (3, t1.2.1)) else .inl (sp_ft t1.1, t1.2.1)
def sp_p1 (g : Nat → Int) (n tests told : Nat) (pl : Nat × List Int × sp_T) : sp_R :=
  if pl.1 = 0 then sp_stop g n tests told pl.2.1 pl.2.2 else .inl (pl.1, pl.2.2.2.1)
def sp_word1 (g : Nat → Int) (n w : Nat) (S : sp_S) : sp_R :=
  if w = 7 then .inl (2, S.1.2.1)
  else if w < 4 then (if 4 ≤ S.2.1 then .inl (5, S.1.2.1) else sp_t1 g n S.2.1 S.2.2.1 S.2.2.2 (sp_tok g n S.1.2.2.1))
  else if S.2.2.1 / 2 ^ w % 2 = 1 then .inl (4, S.1.2.1)
  else if w = 6 then sp_p1 g n S.2.1 (S.2.2.1 + 2 ^ w) (sp_plan g n 9 (sp_tok g n S.1.2.2.1) [])
  else sp_o1 g n S.2.1 (S.2.2.1 + 2 ^ w) S.2.2.2 (if w = 4 then 20 else 99) (sp_tok g n S.1.2.2.1)
def sp_line (g : Nat → Int) (n : Nat) (S : sp_S) : sp_R :=
  if S.1.1 = 1 then sp_word1 g n (sp_word g S.1.2.1 S.1.2.2.1) S else .inl (sp_ft S.1.1, S.1.2.1)
/-- all lines: a fault, or what there is at the end and how many lines -/
def sp_run (g : Nat → Int) (n : Nat) : Nat → Nat → sp_S → (Nat × Nat) ⊕ (sp_S × Nat)
  | 0, l, S => .inr (S, l)
  | f + 1, l, S => if S.1.1 = 0 then .inr (S, l) else match sp_line g n S with
    | .inl x => .inl x
    | .inr S' => sp_run g n f (l + 1) S'
/-- the fault of a text (0: none), its place, its lines -/
def sp_text (g : Nat → Int) (n : Nat) : Nat × Nat × Nat := match sp_run g n 161 0 (sp_tok g n 0, 0, 0, []) with
  | .inl x => (x.1, x.2, 0)
  | .inr (S, l) => if (S.2.1 : Int) ≤ sp_high S.2.2.2 then (6, n, 0) else (0, 0, l)
def sp_ret (g : Nat → Int) (n : Nat) : Int := if (sp_text g n).1 = 0 then ((sp_text g n).2.2 : Int) else -10 - ((sp_text g n).2.1 : Int)
/-- how many tests a text tells (0: it has a fault) -/
def sp_cnt (g : Nat → Int) (n : Nat) : Nat := match sp_run g n 161 0 (sp_tok g n 0, 0, 0, []) with
  | .inl _ => 0
  | .inr (S, _) => S.2.1
/-- how many acts -/
def sp_acn (g : Nat → Int) (n : Nat) : Nat := match sp_run g n 161 0 (sp_tok g n 0, 0, 0, []) with
  | .inl _ => 0
  | .inr (S, _) => S.2.2.2.length
/-- a plan's end (400 + 10 * t + k, f, n, h, k0): h the highest act, h + 1, h + 2, h + 3 the token there, of kind k; (499, n, n, v, 0): v is what a text of n bytes answers, v + 1 its fault, v + 2 its tests -/
def fx_ps (g : Nat → Int) (r : List Int) (q : Nat × Nat × Nat × Nat × Int) : Prop :=
  if q.1 = 499 then ∃ zn zr zf zc zd : Int, r[q.2.1]? = some zn ∧ r[q.2.2.2.1]? = some zr ∧ r[q.2.2.2.1 + 1]? = some zf ∧ r[q.2.2.2.1 + 2]? = some zc ∧ r[q.2.2.2.1 + 3]? = some zd ∧ 0 ≤ zn ∧ zr = sp_ret g zn.toNat ∧ zf = (((sp_text g zn.toNat).1 : Nat) : Int) ∧ zc = ((sp_cnt g zn.toNat : Nat) : Int) ∧ zd = ((sp_acn g zn.toNat : Nat) : Int)
  else ∃ (zf ze zv zn zh yf ye yv : Int) (as : List Int), r[q.2.1]? = some zf ∧ r[q.2.1 + 1]? = some ze ∧ r[q.2.1 + 2]? = some zv ∧ r[q.2.2.1]? = some zn ∧ r[q.2.2.2.1]? = some zh ∧ r[q.2.2.2.1 + 1]? = some yf ∧ r[q.2.2.2.1 + 2]? = some ye ∧ r[q.2.2.2.1 + 3]? = some yv ∧ 0 ≤ zf ∧ 0 ≤ ze ∧ 0 ≤ yf ∧ 0 ≤ ye ∧ zh = sp_high as ∧
    sp_plan g zn.toNat 9 (q.2.2.2.2.toNat, zf.toNat, ze.toNat, zv) [] = ((q.1 - 400) / 10, as, ((q.1 - 400) % 10, yf.toNat, ye.toNat, yv))
/-- ghost facts over the tape g, of names r: (300 + k, p, n, f, o) the token at p and o (n bytes) is of kind k, its from, next, number are the names f, f + 1, f + 2; (310 + w, f, e, e, 0) the word from f to e is w (4 to 7), (310, f, e, v, 0) it is v, below 4; (320 + j, p, n, v, o) v is where bytes of sort j (0 blanks, 1 letters, 2 figures) end from p and o on; (330, f, e, v, 0) the number of the figures from f to e is v; (400 + 10 * t + k, f, n, h, k0) the plan that begins with the token (k0, f, f + 1, f + 2) ends as t; how many acts: h, the acts h + 1 .. h + 8, the highest h + 9, the token there of kind k, h + 10, h + 11, h + 12 -/
def fx_sem (g : Nat → Int) (r : List Int) (q : Nat × Nat × Nat × Nat × Int) : Prop :=
  (300 ≤ q.1 → q.1 < 305 → ∃ za zn zf ze zv : Int, r[q.2.1]? = some za ∧ r[q.2.2.1]? = some zn ∧ r[q.2.2.2.1]? = some zf ∧ r[q.2.2.2.1 + 1]? = some ze ∧ r[q.2.2.2.1 + 2]? = some zv ∧ 0 ≤ za + q.2.2.2.2 ∧ 0 ≤ zf ∧ 0 ≤ ze ∧ sp_tok g zn.toNat (za + q.2.2.2.2).toNat = (q.1 - 300, zf.toNat, ze.toNat, zv)) ∧
  (310 ≤ q.1 → q.1 < 318 → ∃ zf ze : Int, r[q.2.1]? = some zf ∧ r[q.2.2.1]? = some ze ∧ 0 ≤ zf ∧ 0 ≤ ze ∧ (if q.1 = 310 then ∃ zw : Int, r[q.2.2.2.1]? = some zw ∧ zw = ((sp_word g zf.toNat ze.toNat : Nat) : Int) ∧ zw < 4 else sp_word g zf.toNat ze.toNat = q.1 - 310)) ∧
  (320 ≤ q.1 → q.1 < 323 → ∃ za zn zr : Int, r[q.2.1]? = some za ∧ r[q.2.2.1]? = some zn ∧ r[q.2.2.2.1]? = some zr ∧ 0 ≤ za + q.2.2.2.2 ∧ 0 ≤ zr ∧ zr.toNat = tp_skip g zn.toNat (fx_lo (q.1 - 320)) (fx_hi (q.1 - 320)) (za + q.2.2.2.2).toNat) ∧
  (400 ≤ q.1 → q.1 < 500 → fx_ps g r q) ∧
  (q.1 = 330 → ∃ zf ze zv : Int, r[q.2.1]? = some zf ∧ r[q.2.2.1]? = some ze ∧ r[q.2.2.2.1]? = some zv ∧ 0 ≤ zf ∧ 0 ≤ ze ∧ zv = tp_num g zf.toNat ze.toNat)
/-- bits: (100 + w, a, a, v, 0) v is a shifted down by w; (200 + w, a, a, v, o) v and o is the bit w of a; products: (500 + k, a, a, v, o) v is k times a and o; (140, a, b, a, o) a isn't b and o -/
def fx_bit (r : List Int) (q : Nat × Nat × Nat × Nat × Int) : Prop := ∃ za zr : Int, r[q.2.1]? = some za ∧ r[q.2.2.2.1]? = some zr ∧ (q.1 < 132 → zr = za / 2 ^ (q.1 - 100)) ∧ (200 ≤ q.1 → q.1 < 232 → zr + q.2.2.2.2 = za / 2 ^ (q.1 - 200) % 2) ∧ (500 ≤ q.1 → zr = ((q.1 - 500 : Nat) : Int) * (za + q.2.2.2.2)) ∧ (q.1 = 140 → ∃ zb : Int, r[q.2.2.1]? = some zb ∧ za ≠ zb + q.2.2.2.2) ∧ (q.1 = 141 → ∃ zb : Int, r[q.2.2.1]? = some zb ∧ zr = min za (zb + q.2.2.2.2)) ∧ (q.1 = 142 → ∃ zb : Int, r[q.2.2.1]? = some zb ∧ zr = max za (zb + q.2.2.2.2)) ∧ (150 ≤ q.1 → q.1 < 200 → zr = (za + q.2.2.2.2) / ((q.1 - 150 : Nat) : Int))
