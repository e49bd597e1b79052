section
/-! what a text's tokens are, over a tape g of n bytes: places from p on -/
def tp_i (x lo hi : Int) : Bool := decide (lo ≤ x) && decide (x ≤ hi)
theorem tp_i_iff {x lo hi : Int} : tp_i x lo hi = true ↔ lo ≤ x ∧ x ≤ hi := by
  unfold tp_i
  rw [Bool.and_eq_true, decide_eq_true_eq, decide_eq_true_eq]
/-- the first place from p on, below n, that has no byte of lo to hi (n - p steps at most) -/
def tp_sk (g : Nat → Int) (lo hi : Int) : Nat → Nat → Nat
  | 0, p => p
  | f + 1, p => if tp_i (g p) lo hi = true then tp_sk g lo hi f (p + 1) else p
def tp_skip (g : Nat → Int) (n : Nat) (lo hi : Int) (p : Nat) : Nat := tp_sk g lo hi (n - p) p
theorem tp_skip_in {g : Nat → Int} {n p : Nat} {lo hi : Int} (h : p < n) (h1 : lo ≤ g p) (h2 : g p ≤ hi) : tp_skip g n lo hi p = tp_skip g n lo hi (p + 1) := by
  unfold tp_skip
  rw [show n - p = (n - (p + 1)) + 1 by omega]
  show (if tp_i (g p) lo hi = true then tp_sk g lo hi (n - (p + 1)) (p + 1) else p) = _
  rw [if_pos (tp_i_iff.mpr ⟨h1, h2⟩)]
theorem tp_skip_out {g : Nat → Int} {n p : Nat} {lo hi : Int} (h : n ≤ p ∨ g p < lo ∨ hi < g p) : tp_skip g n lo hi p = p := by
  unfold tp_skip
  by_cases hp : n ≤ p
  · rw [show n - p = 0 by omega]
    rfl
  · rw [show n - p = (n - (p + 1)) + 1 by omega]
    show (if tp_i (g p) lo hi = true then tp_sk g lo hi (n - (p + 1)) (p + 1) else p) = _
    rw [if_neg (fun hc => by have := tp_i_iff.mp hc; omega)]
theorem tp_sk_le {g : Nat → Int} {lo hi : Int} : ∀ (f p : Nat), p ≤ tp_sk g lo hi f p ∧ tp_sk g lo hi f p ≤ p + f
  | 0, p => ⟨Nat.le_refl _, Nat.le_refl _⟩
  | f + 1, p => by
    show p ≤ (if tp_i (g p) lo hi = true then tp_sk g lo hi f (p + 1) else p) ∧ (if tp_i (g p) lo hi = true then tp_sk g lo hi f (p + 1) else p) ≤ p + (f + 1)
    split
    · have := tp_sk_le (g := g) (lo := lo) (hi := hi) f (p + 1)
      omega
    · omega
theorem tp_skip_le {g : Nat → Int} {n p : Nat} {lo hi : Int} : p ≤ tp_skip g n lo hi p ∧ (p ≤ n → tp_skip g n lo hi p ≤ n) := by
  have := tp_sk_le (g := g) (lo := lo) (hi := hi) (n - p) p
  unfold tp_skip
  omega
def tp_num (g : Nat → Int) (f e : Nat) : Int := if e ≤ f then 0 else if e = f + 1 then g f - 48 else 10 * (g f - 48) + (g (f + 1) - 48)
/-- kind (0 the end, 1 a NAME, 2 a NUMBER, 3 a stop, 4 none), its first byte, the byte behind it, its number -/
def sp_tok (g : Nat → Int) (n p : Nat) : Nat × Nat × Nat × Int :=
  if n ≤ tp_skip g n 32 32 p then (0, tp_skip g n 32 32 p, tp_skip g n 32 32 p, 0)
  else if g (tp_skip g n 32 32 p) = 59 then (3, tp_skip g n 32 32 p, tp_skip g n 32 32 p + 1, 0)
  else if tp_i (g (tp_skip g n 32 32 p)) 97 122 = true then (1, tp_skip g n 32 32 p, tp_skip g n 97 122 (tp_skip g n 32 32 p), 0)
  else if tp_i (g (tp_skip g n 32 32 p)) 48 57 = true then
    (if 2 < tp_skip g n 48 57 (tp_skip g n 32 32 p) - tp_skip g n 32 32 p then (4, tp_skip g n 32 32 p, tp_skip g n 48 57 (tp_skip g n 32 32 p), 0)
     else (2, tp_skip g n 32 32 p, tp_skip g n 48 57 (tp_skip g n 32 32 p), tp_num g (tp_skip g n 32 32 p) (tp_skip g n 48 57 (tp_skip g n 32 32 p))))
  else (4, tp_skip g n 32 32 p, tp_skip g n 32 32 p, 0)
/-- the words, and which one stands from f to e (7: none) -/
def sp_W : List (List Int) := [[112, 108, 97, 105, 110], [115, 110, 97, 107, 101], [115, 101, 97], [97, 103, 101], [103, 117, 101, 115, 116], [108, 97, 117, 103, 104, 115], [112, 108, 97, 110]]
def sp_is (g : Nat → Int) (f e : Nat) (w : List Int) : Bool := decide (e - f = w.length) && (List.range w.length).all fun k => decide (w[k]? = some (g (f + k)))
def sp_word (g : Nat → Int) (f e : Nat) : Nat := (sp_W.findIdx? (sp_is g f e)).getD 7
/-- the int at a place of a row of ints, in a world -/
def fx_o (w : va_W) (c i : Nat) : Option Int := match w[c]? with
  | some (_, .inl (_, n, .inl f)) => if i < n then some (f i).toInt else none
  | _ => none
def fx_at (w : va_W) (c i : Nat) : Int := (fx_o w c i).getD 0
/-- a plan's numbers from a token on: how it ends (0 another token, 5 a 9th act, 3 out of bounds), the acts, the token there -/
def sp_plan (g : Nat → Int) (n : Nat) : Nat → Nat × Nat × Nat × Int → List Int → Nat × List Int × (Nat × Nat × Nat × Int)
  | 0, tk, as => (0, as, tk)
  | f + 1, tk, as => if tk.1 = 2 then (if 8 ≤ as.length then (5, as, tk) else if tp_i tk.2.2.2 0 4 = true then sp_plan g n f (sp_tok g n tk.2.2.1) (as ++ [tk.2.2.2]) else (3, as, tk)) else (0, as, tk)
/-- the highest act below 4 (-1: none) -/
def sp_high (as : List Int) : Int := as.foldl (fun h a => if a < 4 ∧ h < a then a else h) (-1)
/-- the tape of a world: row 27 -/
def fx_tape (w0 : va_W) (g : Nat → Int) : Prop := ∀ i, i < 160 → fx_o w0 27 i = some (g i)
def fx_lo (j : Nat) : Int := if j = 0 then 32 else if j = 1 then 97 else 48
def fx_hi (j : Nat) : Int := if j = 0 then 32 else if j = 1 then 122 else 57
/-- what is wrong with a token that isn't the one asked for -/
def sp_ft (k : Nat) : Nat := if k = 4 then 1 else 2
abbrev sp_T : Type := Nat × Nat × Nat × Int
/-- between two lines: the token, how many tests, what is told (bits 4, 5, 6), the acts -/
abbrev sp_S : Type := sp_T × Nat × Nat × List Int
abbrev sp_R : Type := (Nat × Nat) ⊕ sp_S
/-- a line's end: a stop, or a fault (what, where) -/
def sp_stop (g : Nat → Int) (n tests told : Nat) (as : List Int) (tk : sp_T) : sp_R :=
  if tk.1 = 3 then .inr (sp_tok g n tk.2.2.1, tests, told, as) else .inl (sp_ft tk.1, tk.2.1)
def sp_t3 (g : Nat → Int) (n tests told : Nat) (as : List Int) (t3 : sp_T) : sp_R :=
  if t3.1 = 2 then (if 0 ≤ t3.2.2.2 ∧ t3.2.2.2 ≤ 99 then sp_stop g n tests told as (sp_tok g n t3.2.2.1) else .inl (3, t3.2.1)) else sp_stop g n tests told as t3
def sp_t2 (g : Nat → Int) (n tests told : Nat) (as : List Int) (size : Int) (t2 : sp_T) : sp_R :=
  if t2.1 = 2 then (if 0 ≤ t2.2.2.2 ∧ t2.2.2.2 ≤ size then sp_t3 g n tests told as (sp_tok g n t2.2.2.1) else .inl (3, t2.2.1)) else sp_stop g n tests told as t2
def sp_t1 (g : Nat → Int) (n tests told : Nat) (as : List Int) (t1 : sp_T) : sp_R :=
  if t1.1 = 2 then (if 1 ≤ t1.2.2.2 ∧ t1.2.2.2 ≤ 99 then sp_t2 g n (tests + 1) told as t1.2.2.2 (sp_tok g n t1.2.2.1) else .inl (3, t1.2.1)) else .inl (sp_ft t1.1, t1.2.1)
def sp_o1 (g : Nat → Int) (n tests told : Nat) (as : List Int) (most : Int) (t1 : sp_T) : sp_R :=
  if t1.1 = 2 then (if 0 ≤ t1.2.2.2 ∧ t1.2.2.2 ≤ most then sp_stop g n tests told as (sp_tok g n t1.2.2.1) else .inl (3, t1.2.1)) else .inl (sp_ft t1.1, t1.2.1)
def sp_p1 (g : Nat → Int) (n tests told : Nat) (pl : Nat × List Int × sp_T) : sp_R :=
  if pl.1 = 0 then sp_stop g n tests told pl.2.1 pl.2.2 else .inl (pl.1, pl.2.2.2.1)
def sp_word1 (g : Nat → Int) (n w : Nat) (S : sp_S) : sp_R :=
  if w = 7 then .inl (2, S.1.2.1)
  else if w < 4 then (if 4 ≤ S.2.1 then .inl (5, S.1.2.1) else sp_t1 g n S.2.1 S.2.2.1 S.2.2.2 (sp_tok g n S.1.2.2.1))
  else if S.2.2.1 / 2 ^ w % 2 = 1 then .inl (4, S.1.2.1)
  else if w = 6 then sp_p1 g n S.2.1 (S.2.2.1 + 2 ^ w) (sp_plan g n 9 (sp_tok g n S.1.2.2.1) [])
  else sp_o1 g n S.2.1 (S.2.2.1 + 2 ^ w) S.2.2.2 (if w = 4 then 20 else 99) (sp_tok g n S.1.2.2.1)
def sp_line (g : Nat → Int) (n : Nat) (S : sp_S) : sp_R :=
  if S.1.1 = 1 then sp_word1 g n (sp_word g S.1.2.1 S.1.2.2.1) S else .inl (sp_ft S.1.1, S.1.2.1)
/-- all lines: a fault, or what there is at the end and how many lines -/
def sp_run (g : Nat → Int) (n : Nat) : Nat → Nat → sp_S → (Nat × Nat) ⊕ (sp_S × Nat)
  | 0, l, S => .inr (S, l)
  | f + 1, l, S => if S.1.1 = 0 then .inr (S, l) else match sp_line g n S with
    | .inl x => .inl x
    | .inr S' => sp_run g n f (l + 1) S'
/-- the fault of a text (0: none), its place, its lines -/
def sp_text (g : Nat → Int) (n : Nat) : Nat × Nat × Nat := match sp_run g n 161 0 (sp_tok g n 0, 0, 0, []) with
  | .inl x => (x.1, x.2, 0)
  | .inr (S, l) => if (S.2.1 : Int) ≤ sp_high S.2.2.2 then (6, n, 0) else (0, 0, l)
def sp_ret (g : Nat → Int) (n : Nat) : Int := if (sp_text g n).1 = 0 then ((sp_text g n).2.2 : Int) else -10 - ((sp_text g n).2.1 : Int)
/-- how many tests a text tells (0: it has a fault) -/
def sp_cnt (g : Nat → Int) (n : Nat) : Nat := match sp_run g n 161 0 (sp_tok g n 0, 0, 0, []) with
  | .inl _ => 0
  | .inr (S, _) => S.2.1
/-- how many acts -/
def sp_acn (g : Nat → Int) (n : Nat) : Nat := match sp_run g n 161 0 (sp_tok g n 0, 0, 0, []) with
  | .inl _ => 0
  | .inr (S, _) => S.2.2.2.length
/-- a plan's end (400 + 10 * t + k, f, n, h, k0): h the highest act, h + 1, h + 2, h + 3 the token there, of kind k; (499, n, n, v, 0): v is what a text of n bytes answers, v + 1 its fault, v + 2 its tests -/
def fx_ps (g : Nat → Int) (r : List Int) (q : Nat × Nat × Nat × Nat × Int) : Prop :=
  if q.1 = 499 then ∃ zn zr zf zc zd : Int, r[q.2.1]? = some zn ∧ r[q.2.2.2.1]? = some zr ∧ r[q.2.2.2.1 + 1]? = some zf ∧ r[q.2.2.2.1 + 2]? = some zc ∧ r[q.2.2.2.1 + 3]? = some zd ∧ 0 ≤ zn ∧ zr = sp_ret g zn.toNat ∧ zf = (((sp_text g zn.toNat).1 : Nat) : Int) ∧ zc = ((sp_cnt g zn.toNat : Nat) : Int) ∧ zd = ((sp_acn g zn.toNat : Nat) : Int)
  else ∃ (zf ze zv zn zh yf ye yv : Int) (as : List Int), r[q.2.1]? = some zf ∧ r[q.2.1 + 1]? = some ze ∧ r[q.2.1 + 2]? = some zv ∧ r[q.2.2.1]? = some zn ∧ r[q.2.2.2.1]? = some zh ∧ r[q.2.2.2.1 + 1]? = some yf ∧ r[q.2.2.2.1 + 2]? = some ye ∧ r[q.2.2.2.1 + 3]? = some yv ∧ 0 ≤ zf ∧ 0 ≤ ze ∧ 0 ≤ yf ∧ 0 ≤ ye ∧ zh = sp_high as ∧
    sp_plan g zn.toNat 9 (q.2.2.2.2.toNat, zf.toNat, ze.toNat, zv) [] = ((q.1 - 400) / 10, as, ((q.1 - 400) % 10, yf.toNat, ye.toNat, yv))
/-- ghost facts over the tape g, of names r: (300 + k, p, n, f, o) the token at p and o (n bytes) is of kind k, its from, next, number are the names f, f + 1, f + 2; (310 + w, f, e, e, 0) the word from f to e is w (4 to 7), (310, f, e, v, 0) it is v, below 4; (320 + j, p, n, v, o) v is where bytes of sort j (0 blanks, 1 letters, 2 figures) end from p and o on; (330, f, e, v, 0) the number of the figures from f to e is v; (400 + 10 * t + k, f, n, h, k0) the plan that begins with the token (k0, f, f + 1, f + 2) ends as t; how many acts: h, the acts h + 1 .. h + 8, the highest h + 9, the token there of kind k, h + 10, h + 11, h + 12 -/
def fx_sem (g : Nat → Int) (r : List Int) (q : Nat × Nat × Nat × Nat × Int) : Prop :=
  (300 ≤ q.1 → q.1 < 305 → ∃ za zn zf ze zv : Int, r[q.2.1]? = some za ∧ r[q.2.2.1]? = some zn ∧ r[q.2.2.2.1]? = some zf ∧ r[q.2.2.2.1 + 1]? = some ze ∧ r[q.2.2.2.1 + 2]? = some zv ∧ 0 ≤ za + q.2.2.2.2 ∧ 0 ≤ zf ∧ 0 ≤ ze ∧ sp_tok g zn.toNat (za + q.2.2.2.2).toNat = (q.1 - 300, zf.toNat, ze.toNat, zv)) ∧
  (310 ≤ q.1 → q.1 < 318 → ∃ zf ze : Int, r[q.2.1]? = some zf ∧ r[q.2.2.1]? = some ze ∧ 0 ≤ zf ∧ 0 ≤ ze ∧ (if q.1 = 310 then ∃ zw : Int, r[q.2.2.2.1]? = some zw ∧ zw = ((sp_word g zf.toNat ze.toNat : Nat) : Int) ∧ zw < 4 else sp_word g zf.toNat ze.toNat = q.1 - 310)) ∧
  (320 ≤ q.1 → q.1 < 323 → ∃ za zn zr : Int, r[q.2.1]? = some za ∧ r[q.2.2.1]? = some zn ∧ r[q.2.2.2.1]? = some zr ∧ 0 ≤ za + q.2.2.2.2 ∧ 0 ≤ zr ∧ zr.toNat = tp_skip g zn.toNat (fx_lo (q.1 - 320)) (fx_hi (q.1 - 320)) (za + q.2.2.2.2).toNat) ∧
  (400 ≤ q.1 → q.1 < 500 → fx_ps g r q) ∧
  (q.1 = 330 → ∃ zf ze zv : Int, r[q.2.1]? = some zf ∧ r[q.2.2.1]? = some ze ∧ r[q.2.2.2.1]? = some zv ∧ 0 ≤ zf ∧ 0 ≤ ze ∧ zv = tp_num g zf.toNat ze.toNat)
/-- bits: (100 + w, a, a, v, 0) v is a shifted down by w; (200 + w, a, a, v, o) v and o is the bit w of a; products: (500 + k, a, a, v, o) v is k times a and o; (140, a, b, a, o) a isn't b and o -/
def fx_bit (r : List Int) (q : Nat × Nat × Nat × Nat × Int) : Prop := ∃ za zr : Int, r[q.2.1]? = some za ∧ r[q.2.2.2.1]? = some zr ∧ (q.1 < 132 → zr = za / 2 ^ (q.1 - 100)) ∧ (200 ≤ q.1 → q.1 < 232 → zr + q.2.2.2.2 = za / 2 ^ (q.1 - 200) % 2) ∧ (500 ≤ q.1 → zr = ((q.1 - 500 : Nat) : Int) * (za + q.2.2.2.2)) ∧ (q.1 = 140 → ∃ zb : Int, r[q.2.2.1]? = some zb ∧ za ≠ zb + q.2.2.2.2) ∧ (q.1 = 141 → ∃ zb : Int, r[q.2.2.1]? = some zb ∧ zr = min za (zb + q.2.2.2.2)) ∧ (q.1 = 142 → ∃ zb : Int, r[q.2.2.1]? = some zb ∧ zr = max za (zb + q.2.2.2.2)) ∧ (150 ≤ q.1 → q.1 < 200 → zr = (za + q.2.2.2.2) / ((q.1 - 150 : Nat) : Int))
end
section
/-! AN INTERPRETER OF BOUNDS over the machine: values are names with offsets, names have bounds; cells have fixed kinds. -/
abbrev ai_v : Type := Nat × Nat × Nat × Int
abbrev ai_e : Type := Int × Int × Bool × Nat × Int
abbrev ai_k : Type := Nat × Nat × ai_v
/-- what is told of three names a, b, r: (0, ..) a less b is r and o; (1, ..) a and b and o is r, but for turns of 2^32; (2, ..) a and b and o is r; (4, ..) a is less than b and o; (5, ..) a isn't -/
abbrev ai_b : Type := Nat × Nat × Nat × Nat × Int
abbrev ai_s : Type := Nat × List (Nat × ai_v) × List ai_v × List ai_e × List ai_k × List ai_b
abbrev ai_c : Type := Nat × Nat × List (Nat × Nat × Int × Int)
/-- what a value is: 0 a cell, 1 an int, 2 a long, 3 how two longs compare, 4 the script -/
def ai_dv (ad : List Nat) (b : Nat) (r : List Int) (v : ai_v) (x : Value) : Prop :=
  (v.1 = 0 ∧ ∃ q, ad[v.2.1]? = some q ∧ x = .ref q) ∨
  (v.1 = 1 ∧ ∃ (z : Int) (i : Int32), r[v.2.1]? = some z ∧ x = .int i ∧ i.toInt = z + v.2.2.2) ∨
  (v.1 = 2 ∧ ∃ (z : Int) (i : Int64), r[v.2.1]? = some z ∧ x = .long i ∧ i.toInt = z + v.2.2.2) ∨
  (v.1 = 3 ∧ ∃ (z w : Int) (i : Int32), r[v.2.1]? = some z ∧ r[v.2.2.1]? = some w ∧ x = .int i ∧ (i < 0 ↔ z < w + v.2.2.2) ∧ (i = 0 ↔ z = w + v.2.2.2)) ∨
  (v.1 = 4 ∧ x = .ref b)
def ai_oe (r : List Int) (z : Int) (e : ai_e) : Prop := e.1 ≤ z ∧ z ≤ e.2.1 ∧ (e.2.2.1 = true → z ≠ 0) ∧ ∃ w, r[e.2.2.2.1]? = some w ∧ w + e.2.2.2.2 ≤ z
def ai_ok (r : List Int) (en : List ai_e) : Prop := r.length = en.length ∧ ∀ (k : Nat) (z : Int) (e : ai_e), r[k]? = some z → en[k]? = some e → ai_oe r z e
/-- a ghost fact: (1000 + c, p, p, v, o) the place p and o of row c, in the world w0, has v; bits; what fx_sem says, over w0's tape; (350, n, n, n, 0) the two tapes (rows 27, 52) are alike below n -/
def fx_fact (w0 : va_W) (r : List Int) (q : ai_b) : Prop :=
  (1000 ≤ q.1 → ∃ za zr : Int, r[q.2.1]? = some za ∧ r[q.2.2.2.1]? = some zr ∧ 0 ≤ za + q.2.2.2.2 ∧ ∀ t, fx_o w0 (q.1 - 1000) (za + q.2.2.2.2).toNat = some t → zr = t) ∧ (q.1 < 300 ∨ (500 ≤ q.1 ∧ q.1 < 1000) → fx_bit r q) ∧ (∀ g : Nat → Int, fx_tape w0 g → fx_sem g r q) ∧ (q.1 = 350 → ∃ (zn : Int) (g : Nat → Int), r[q.2.1]? = some zn ∧ fx_tape w0 g ∧ ∀ i, i < zn.toNat → fx_o w0 52 i = some (g i))
def ai_sb (w0 : va_W) (r : List Int) (sb : List ai_b) : Prop := ∀ q ∈ sb, ∃ za zb zr : Int, r[q.2.1]? = some za ∧ r[q.2.2.1]? = some zb ∧ r[q.2.2.2.1]? = some zr ∧ (q.1 = 0 → za - zb = zr + q.2.2.2.2) ∧ (q.1 = 1 → (za + zb + q.2.2.2.2 - zr) % 4294967296 = 0) ∧ (q.1 = 2 → za + zb + q.2.2.2.2 = zr) ∧ (q.1 = 4 → za < zb + q.2.2.2.2) ∧ (q.1 = 5 → zb + q.2.2.2.2 ≤ za) ∧ (100 ≤ q.1 → fx_fact w0 r q)
theorem ai_beq {a b : Nat} : Nat.beq a b = true ↔ a = b := ⟨Nat.eq_of_beq_eq_true, fun h => by subst h; exact Nat.beq_refl a⟩
def ai_x (r r' : List Int) : Prop := ∃ t, r' = r ++ t
theorem ai_x.rf {r : List Int} : ai_x r r := ⟨[], by simp⟩
theorem ai_x.tr {a b c : List Int} (h : ai_x a b) (k : ai_x b c) : ai_x a c := by
  obtain ⟨t, rfl⟩ := h
  obtain ⟨u, rfl⟩ := k
  exact ⟨t ++ u, by simp⟩
theorem ai_x.push {r : List Int} {z : Int} : ai_x r (r ++ [z]) := ⟨[z], rfl⟩
theorem ai_x.at {r r' : List Int} (h : ai_x r r') {k : Nat} {z : Int} (hk : r[k]? = some z) : r'[k]? = some z := by
  obtain ⟨t, rfl⟩ := h
  rw [List.getElem?_append_left (List.getElem?_eq_some_iff.mp hk).1]
  exact hk
theorem ai_dv.mono {ad : List Nat} {b : Nat} {r r' : List Int} {v : ai_v} {x : Value} (h : ai_dv ad b r v x) (e : ai_x r r') : ai_dv ad b r' v x := by
  rcases h with h | ⟨h, z, i, h1, h2⟩ | ⟨h, z, i, h1, h2⟩ | ⟨h, z, w, i, h1, h2, h3⟩ | h
  · exact Or.inl h
  · exact Or.inr (Or.inl ⟨h, z, i, e.at h1, h2⟩)
  · exact Or.inr (Or.inr (Or.inl ⟨h, z, i, e.at h1, h2⟩))
  · exact Or.inr (Or.inr (Or.inr (Or.inl ⟨h, z, w, i, e.at h1, e.at h2, h3⟩)))
  · exact Or.inr (Or.inr (Or.inr (Or.inr h)))
theorem fx_fact.mono {w0 : va_W} {r r' : List Int} {q : ai_b} (h : fx_fact w0 r q) (e : ai_x r r') : fx_fact w0 r' q := by
  obtain ⟨h1, h2, h3, h4⟩ := h
  refine ⟨fun a => ?_, fun a => ?_, fun g hg => ?_, fun a => ?_⟩
  · obtain ⟨za, zr, e1, e2, e3⟩ := h1 a
    exact ⟨za, zr, e.at e1, e.at e2, e3⟩
  · obtain ⟨za, zr, e1, e2, e3, e4, e5, e6, e7, e8, e9⟩ := h2 a
    refine ⟨za, zr, e.at e1, e.at e2, e3, e4, e5, fun h => ?_, fun h => ?_, fun h => ?_, e9⟩
    · obtain ⟨zb, x1, x2⟩ := e6 h
      exact ⟨zb, e.at x1, x2⟩
    · obtain ⟨zb, x1, x2⟩ := e7 h
      exact ⟨zb, e.at x1, x2⟩
    · obtain ⟨zb, x1, x2⟩ := e8 h
      exact ⟨zb, e.at x1, x2⟩
  · obtain ⟨k1, k2, k3, k4, k5⟩ := h3 g hg
    refine ⟨fun a b => ?_, fun a b => ?_, fun a b => ?_, fun a b => ?_, fun a => ?_⟩
    · obtain ⟨za, zn, zf, ze, zv, e1, e2, e3, e4, e5, e6⟩ := k1 a b
      exact ⟨za, zn, zf, ze, zv, e.at e1, e.at e2, e.at e3, e.at e4, e.at e5, e6⟩
    · obtain ⟨zf, ze, e1, e2, e3, e4, e5⟩ := k2 a b
      refine ⟨zf, ze, e.at e1, e.at e2, e3, e4, ?_⟩
      by_cases hq : q.1 = 310
      · rw [if_pos hq] at e5 ⊢
        obtain ⟨zw, e6, e7⟩ := e5
        exact ⟨zw, e.at e6, e7⟩
      · rw [if_neg hq] at e5 ⊢
        exact e5
    · obtain ⟨za, zn, zr, e1, e2, e3, e4⟩ := k3 a b
      exact ⟨za, zn, zr, e.at e1, e.at e2, e.at e3, e4⟩
    · have k6 := k4 a b
      unfold fx_ps at k6 ⊢
      by_cases hq : q.1 = 499
      · rw [if_pos hq] at k6 ⊢
        obtain ⟨zn, zr, zf, zc, zd, e1, e2, e3, e4, e5, e6⟩ := k6
        exact ⟨zn, zr, zf, zc, zd, e.at e1, e.at e2, e.at e3, e.at e4, e.at e5, e6⟩
      · rw [if_neg hq] at k6 ⊢
        obtain ⟨zf, ze, zv, zn, zh, yf, ye, yv, as, e1, e2, e3, e4, e5, e6, e7, e8, e9⟩ := k6
        exact ⟨zf, ze, zv, zn, zh, yf, ye, yv, as, e.at e1, e.at e2, e.at e3, e.at e4, e.at e5, e.at e6, e.at e7, e.at e8, e9⟩
    · obtain ⟨zf, ze, zv, e1, e2, e3, e4⟩ := k5 a
      exact ⟨zf, ze, zv, e.at e1, e.at e2, e.at e3, e4⟩
  · obtain ⟨zn, g, e1, e2⟩ := h4 a
    exact ⟨zn, g, e.at e1, e2⟩
theorem ai_sb.mono {w0 : va_W} {r r' : List Int} {sb : List ai_b} (h : ai_sb w0 r sb) (e : ai_x r r') : ai_sb w0 r' sb := fun q hq => by
  obtain ⟨za, zb, zr, h1, h2, h3, h4, h5, h6, h7, h8, h9⟩ := h q hq
  exact ⟨za, zb, zr, e.at h1, e.at h2, e.at h3, h4, h5, h6, h7, h8, fun k => (h9 k).mono e⟩
theorem ai_ok.get {r : List Int} {en : List ai_e} (h : ai_ok r en) {k : Nat} {z : Int} (hk : r[k]? = some z) : ∃ e, en[k]? = some e ∧ ai_oe r z e := by
  have hl : k < en.length := by rw [← h.1]; exact (List.getElem?_eq_some_iff.mp hk).1
  exact ⟨en[k], List.getElem?_eq_getElem hl, h.2 k z _ hk (List.getElem?_eq_getElem hl)⟩
theorem ai_ok.name {r : List Int} {en : List ai_e} (h : ai_ok r en) {k : Nat} {e : ai_e} (hk : en[k]? = some e) : ∃ z, r[k]? = some z ∧ ai_oe r z e := by
  have hl : k < r.length := by rw [h.1]; exact (List.getElem?_eq_some_iff.mp hk).1
  exact ⟨r[k], List.getElem?_eq_getElem hl, h.2 k _ e (List.getElem?_eq_getElem hl) hk⟩
theorem ai_oe.mono {r r' : List Int} {z : Int} {e : ai_e} (h : ai_oe r z e) (x : ai_x r r') : ai_oe r' z e := by
  obtain ⟨h1, h2, h3, w, h4, h5⟩ := h
  exact ⟨h1, h2, h3, w, x.at h4, h5⟩
theorem ai_ok.push {r : List Int} {en : List ai_e} {z : Int} {e : ai_e} (h : ai_ok r en) (hz : ai_oe (r ++ [z]) z e) : ai_ok (r ++ [z]) (en ++ [e]) := by
  refine ⟨by simp [h.1], fun k y f h1 h2 => ?_⟩
  by_cases hk : k < r.length
  · rw [List.getElem?_append_left hk] at h1
    rw [List.getElem?_append_left (by rw [← h.1]; exact hk)] at h2
    exact (h.2 k y f h1 h2).mono ai_x.push
  · rw [List.getElem?_append_right (by omega)] at h1
    rw [List.getElem?_append_right (by rw [← h.1]; omega)] at h2
    have e0 : k - r.length = 0 := by
      have := (List.getElem?_eq_some_iff.mp h1).1
      simp at this
      omega
    rw [e0] at h1
    rw [← h.1, e0] at h2
    cases h1
    cases h2
    exact hz
theorem ai_last {r : List Int} {z : Int} {n : Nat} (h : r.length = n) : (r ++ [z])[n]? = some z := by
  subst h
  simp
/-- a new name with bounds -/
def ai_nu (en : List ai_e) (lo hi : Int) : List ai_e := en ++ [(lo, hi, false, en.length, 0)]
theorem ai_ok.nu {r : List Int} {en : List ai_e} {z lo hi : Int} (h : ai_ok r en) (h1 : lo ≤ z) (h2 : z ≤ hi) : ai_ok (r ++ [z]) (ai_nu en lo hi) :=
  h.push ⟨h1, h2, fun q => (by cases q), z, ai_last h.1, by show z + 0 ≤ z; omega⟩
/-- an int's bounds, a long's -/
def ai_i (en : List ai_e) (v : ai_v) : Option (Int × Int) := if v.1 = 1 then (en[v.2.1]?).map fun e => (e.1 + v.2.2.2, e.2.1 + v.2.2.2) else none
def ai_l (en : List ai_e) (v : ai_v) : Option (Int × Int) := if v.1 = 2 then (en[v.2.1]?).map fun e => (e.1 + v.2.2.2, e.2.1 + v.2.2.2) else none
theorem ai_i_ok {ad : List Nat} {b : Nat} {r : List Int} {en : List ai_e} {v : ai_v} {x : Value} {p : Int × Int} (h : ai_ok r en) (hv : ai_dv ad b r v x) (hp : ai_i en v = some p) :
    v.1 = 1 ∧ ∃ (z : Int) (i : Int32), r[v.2.1]? = some z ∧ x = .int i ∧ i.toInt = z + v.2.2.2 ∧ p.1 ≤ i.toInt ∧ i.toInt ≤ p.2 := by
  unfold ai_i at hp
  split at hp
  · rename_i h1
    obtain ⟨e, he, rfl⟩ := Option.map_eq_some_iff.mp hp
    rcases hv with ⟨q, -⟩ | ⟨-, z, i, g1, g2, g3⟩ | ⟨q, -⟩ | ⟨q, -⟩ | ⟨q, -⟩
    · omega
    · have := h.2 _ _ _ g1 he
      refine ⟨h1, z, i, g1, g2, g3, ?_, ?_⟩
      · have := this.1
        show e.1 + v.2.2.2 ≤ _
        omega
      · have := this.2.1
        show _ ≤ e.2.1 + v.2.2.2
        omega
    all_goals omega
  · cases hp
theorem ai_l_ok {ad : List Nat} {b : Nat} {r : List Int} {en : List ai_e} {v : ai_v} {x : Value} {p : Int × Int} (h : ai_ok r en) (hv : ai_dv ad b r v x) (hp : ai_l en v = some p) :
    v.1 = 2 ∧ ∃ (z : Int) (i : Int64), r[v.2.1]? = some z ∧ x = .long i ∧ i.toInt = z + v.2.2.2 ∧ p.1 ≤ i.toInt ∧ i.toInt ≤ p.2 := by
  unfold ai_l at hp
  split at hp
  · rename_i h1
    obtain ⟨e, he, rfl⟩ := Option.map_eq_some_iff.mp hp
    rcases hv with ⟨q, -⟩ | ⟨q, -⟩ | ⟨-, z, i, g1, g2, g3⟩ | ⟨q, -⟩ | ⟨q, -⟩
    · omega
    · omega
    · have := h.2 _ _ _ g1 he
      refine ⟨h1, z, i, g1, g2, g3, ?_, ?_⟩
      · have := this.1
        show e.1 + v.2.2.2 ≤ _
        omega
      · have := this.2.1
        show _ ≤ e.2.1 + v.2.2.2
        omega
    all_goals omega
  · cases hp
/-- name 0 is 0 -/
def ai_z (en : List ai_e) : Bool := match en[0]? with
  | some e => decide (e.1 = 0) && decide (e.2.1 = 0)
  | none => false
theorem ai_z_ok {r : List Int} {en : List ai_e} (h : ai_ok r en) (hz : ai_z en = true) : r[0]? = some 0 := by
  unfold ai_z at hz
  split at hz
  · rename_i e he
    obtain ⟨z, h1, h2⟩ := h.name he
    simp only [Bool.and_eq_true, decide_eq_true_eq] at hz
    have a1 := h2.1
    have a2 := h2.2.1
    have : z = 0 := by omega
    rw [h1, this]
  · cases hz
def ai_ir (lo hi : Int) : Bool := decide (-2147483648 ≤ lo) && decide (hi ≤ 2147483647)
def ai_lr (lo hi : Int) : Bool := decide (-9223372036854775808 ≤ lo) && decide (hi ≤ 9223372036854775807)
theorem ai_irg (i : Int32) : -2147483648 ≤ i.toInt ∧ i.toInt ≤ 2147483647 := by
  have h1 := Int32.le_toInt i
  have h2 := Int32.toInt_lt i
  omega
theorem ai_lrg (i : Int64) : -9223372036854775808 ≤ i.toInt ∧ i.toInt ≤ 9223372036854775807 := by
  have h1 := Int64.le_toInt i
  have h2 := Int64.toInt_lt i
  omega
/-- an int of bounds, as a value: a constant, or a new name -/
def ai_mi (en : List ai_e) (lo hi : Int) : List ai_e × ai_v :=
  if ai_ir lo hi = true then (if lo = hi ∧ ai_z en = true then (en, (1, 0, 0, lo)) else (ai_nu en lo hi, (1, en.length, 0, 0)))
  else (ai_nu en (-2147483648) 2147483647, (1, en.length, 0, 0))
theorem ai_mi_ok {ad : List Nat} {b : Nat} {r : List Int} {en : List ai_e} {lo hi : Int} (h : ai_ok r en) (i : Int32) (hi' : ai_ir lo hi = true → lo ≤ i.toInt ∧ i.toInt ≤ hi) :
    ∃ r', ai_x r r' ∧ ai_ok r' (ai_mi en lo hi).1 ∧ ai_dv ad b r' (ai_mi en lo hi).2 (.int i) := by
  unfold ai_mi
  split
  · rename_i hr
    obtain ⟨g1, g2⟩ := hi' hr
    split
    · rename_i hc
      obtain ⟨c1, c2⟩ := hc
      exact ⟨r, ai_x.rf, h, Or.inr (Or.inl ⟨rfl, 0, i, ai_z_ok h c2, rfl, by show i.toInt = 0 + lo; omega⟩)⟩
    · exact ⟨r ++ [i.toInt], ai_x.push, h.nu g1 g2, Or.inr (Or.inl ⟨rfl, i.toInt, i, ai_last h.1, rfl, by show i.toInt = i.toInt + 0; omega⟩)⟩
  · exact ⟨r ++ [i.toInt], ai_x.push, h.nu (ai_irg i).1 (ai_irg i).2, Or.inr (Or.inl ⟨rfl, i.toInt, i, ai_last h.1, rfl, by show i.toInt = i.toInt + 0; omega⟩)⟩
def ai_ml (en : List ai_e) (lo hi : Int) : List ai_e × ai_v :=
  if ai_lr lo hi = true then (if lo = hi ∧ ai_z en = true then (en, (2, 0, 0, lo)) else (ai_nu en lo hi, (2, en.length, 0, 0)))
  else (ai_nu en (-9223372036854775808) 9223372036854775807, (2, en.length, 0, 0))
theorem ai_ml_ok {ad : List Nat} {b : Nat} {r : List Int} {en : List ai_e} {lo hi : Int} (h : ai_ok r en) (i : Int64) (hi' : ai_lr lo hi = true → lo ≤ i.toInt ∧ i.toInt ≤ hi) :
    ∃ r', ai_x r r' ∧ ai_ok r' (ai_ml en lo hi).1 ∧ ai_dv ad b r' (ai_ml en lo hi).2 (.long i) := by
  unfold ai_ml
  split
  · rename_i hr
    obtain ⟨g1, g2⟩ := hi' hr
    split
    · rename_i hc
      obtain ⟨c1, c2⟩ := hc
      exact ⟨r, ai_x.rf, h, Or.inr (Or.inr (Or.inl ⟨rfl, 0, i, ai_z_ok h c2, rfl, by show i.toInt = 0 + lo; omega⟩))⟩
    · exact ⟨r ++ [i.toInt], ai_x.push, h.nu g1 g2, Or.inr (Or.inr (Or.inl ⟨rfl, i.toInt, i, ai_last h.1, rfl, by show i.toInt = i.toInt + 0; omega⟩))⟩
  · exact ⟨r ++ [i.toInt], ai_x.push, h.nu (ai_lrg i).1 (ai_lrg i).2, Or.inr (Or.inr (Or.inl ⟨rfl, i.toInt, i, ai_last h.1, rfl, by show i.toInt = i.toInt + 0; omega⟩))⟩
end
