/-! the evening that a text tells: a page E of ints: kind t, size 4 + t, moved 8 + t, pulled 12 + t, strength 16, laughs 17 -/
def ev_up (E : Nat → Int) (i : Nat) (v : Int) : Nat → Int := fun j => if j = i then v else E j
def ev_test (E : Nat → Int) (t : Nat) (k s m p : Int) : Nat → Int := fun j => if j = t then k else if j = 4 + t then s else if j = 8 + t then m else if j = 12 + t then p else E j
theorem ev_up_at {E : Nat → Int} {i : Nat} {v : Int} : ev_up E i v i = v := if_pos rfl
theorem ev_up_ne {E : Nat → Int} {i j : Nat} {v : Int} (h : j ≠ i) : ev_up E i v j = E j := if_neg h
section EVT
variable {E : Nat → Int} {t : Nat} {k s m p : Int}
theorem ev_test_k : ev_test E t k s m p t = k := if_pos rfl
theorem ev_test_s : ev_test E t k s m p (4 + t) = s := by
  unfold ev_test
  rw [if_neg (by omega), if_pos rfl]
theorem ev_test_m : ev_test E t k s m p (8 + t) = m := by
  unfold ev_test
  rw [if_neg (by omega), if_neg (by omega), if_pos rfl]
theorem ev_test_p : ev_test E t k s m p (12 + t) = p := by
  unfold ev_test
  rw [if_neg (by omega), if_neg (by omega), if_neg (by omega), if_pos rfl]
theorem ev_test_ne {j : Nat} (h1 : j ≠ t) (h2 : j ≠ 4 + t) (h3 : j ≠ 8 + t) (h4 : j ≠ 12 + t) : ev_test E t k s m p j = E j := by
  unfold ev_test
  rw [if_neg h1, if_neg h2, if_neg h3, if_neg h4]
end EVT
/-- how much a test's line tells as moved, as pulled, from its first number's token on -/
def ev_m (g : Nat → Int) (n : Nat) (t1 : sp_T) : Int := if (sp_tok g n t1.2.2.1).1 = 2 then (sp_tok g n t1.2.2.1).2.2.2 else 0
def ev_p (g : Nat → Int) (n : Nat) (t1 : sp_T) : Int := if (sp_tok g n t1.2.2.1).1 = 2 ∧ (sp_tok g n (sp_tok g n t1.2.2.1).2.2.1).1 = 2 then (sp_tok g n (sp_tok g n t1.2.2.1).2.2.1).2.2.2 else 0
def ev_word (g : Nat → Int) (n w : Nat) (S : sp_S) (E : Nat → Int) : Nat → Int :=
  if w < 4 then ev_test E S.2.1 (w : Int) (sp_tok g n S.1.2.2.1).2.2.2 (ev_m g n (sp_tok g n S.1.2.2.1)) (ev_p g n (sp_tok g n S.1.2.2.1))
  else if w = 4 then ev_up E 16 (sp_tok g n S.1.2.2.1).2.2.2 else if w = 5 then ev_up E 17 (sp_tok g n S.1.2.2.1).2.2.2 else E
def ev_line (g : Nat → Int) (n : Nat) (S : sp_S) (E : Nat → Int) : Nat → Int := ev_word g n (sp_word g S.1.2.1 S.1.2.2.1) S E
def ev_run (g : Nat → Int) (n : Nat) : Nat → sp_S → (Nat → Int) → Nat → Int
  | 0, _, E => E
  | f + 1, S, E => if S.1.1 = 0 then E else match sp_line g n S with
    | .inl _ => E
    | .inr S' => ev_run g n f S' (ev_line g n S E)
def ev_0 : Nat → Int := fun j => if j = 16 then 10 else 0
def ev_text (g : Nat → Int) (n : Nat) : Nat → Int := ev_run g n 161 (sp_tok g n 0, 0, 0, []) ev_0
/-- the acts that a text tells -/
def ev_acts (g : Nat → Int) (n : Nat) : List Int := match sp_run g n 161 0 (sp_tok g n 0, 0, 0, []) with
  | .inl _ => []
  | .inr (S, _) => S.2.2.2
def lkq (x : ai_s) (k i : Nat) (v : ai_v) : Bool := decide (ai_lk x.2.2.2.2.1 k i = some v)
/-- a test's four places, out of the facts of a walk's end, behind the token k1 -/
def sy_ev1 (x : ai_s) (n : Nat) (k1 : Nat × Nat) (w : ai_v) (a b c d : Nat × Nat) : Bool := (sy_tk x n (k1.2 + 1)).any fun k2 => lkq x a.1 a.2 w && (lkq x b.1 b.2 (1, k1.2 + 2, 0, 0) &&
  if k2.1 = 2 then lkq x c.1 c.2 (1, k2.2 + 2, 0, 0) && (sy_tk x n (k2.2 + 1)).any fun k3 => lkq x d.1 d.2 (if k3.1 = 2 then (1, k3.2 + 2, 0, 0) else (1, 0, 0, 0)) else lkq x c.1 c.2 (1, 0, 0, 0) && lkq x d.1 d.2 (1, 0, 0, 0))
def sy_ev (x : ai_s) (n p : Nat) (w : ai_v) (a b c d : Nat × Nat) : Bool := (sy_tk x n p).any fun k1 => sy_ev1 x n k1 w a b c d
/-- the number of the token at a name -/
def sy_num (x : ai_s) (n p : Nat) (a : Nat × Nat) (o : Int) : Bool := (sy_tk x n p).any fun k1 => lkq x a.1 a.2 (1, k1.2 + 2, 0, o)
