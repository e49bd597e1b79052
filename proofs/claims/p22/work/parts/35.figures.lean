/-! literal states, made quickly -/
def en_b : List Int → List ai_e → Prop
  | [], [] => True
  | z :: r, e :: en => (e.1 ≤ z ∧ z ≤ e.2.1) ∧ en_b r en
  | _, _ => False
theorem en_b_len : ∀ {r : List Int} {en : List ai_e}, en_b r en → r.length = en.length
  | [], [], _ => rfl
  | [], _ :: _, h => h.elim
  | _ :: _, [], h => h.elim
  | _ :: r, _ :: en, h => by
    show r.length + 1 = en.length + 1
    rw [en_b_len h.2]
theorem en_b_get : ∀ {r : List Int} {en : List ai_e} {k : Nat} {z : Int} {e : ai_e}, en_b r en → r[k]? = some z → en[k]? = some e → e.1 ≤ z ∧ z ≤ e.2.1
  | [], _, _, _, _, _, h1, _ => by cases h1
  | _ :: _, [], _, _, _, h, _, _ => h.elim
  | y :: r, f :: en, 0, z, e, h, h1, h2 => by
    cases h1
    cases h2
    exact h.1
  | y :: r, f :: en, k + 1, z, e, h, h1, h2 => en_b_get (r := r) (en := en) (k := k) h.2 h1 h2
def en_s (en : List ai_e) : Bool := (List.range en.length).all fun k => (en[k]?).all fun e => !e.2.2.1 && (Nat.beq e.2.2.2.1 k && decide (e.2.2.2.2 = 0))
theorem en_mk {r : List Int} {en : List ai_e} (h : en_b r en) (s : en_s en = true) : ai_ok r en := by
  refine ⟨en_b_len h, fun k z e hz he => ?_⟩
  obtain ⟨b1, b2⟩ := en_b_get h hz he
  have hk : k < en.length := (List.getElem?_eq_some_iff.mp he).1
  have s1 := List.all_eq_true.mp s k (List.mem_range.mpr hk)
  rw [he] at s1
  have s1 : (!e.2.2.1 && (Nat.beq e.2.2.2.1 k && decide (e.2.2.2.2 = 0))) = true := s1
  rw [Bool.and_eq_true, Bool.and_eq_true, ai_beq, decide_eq_true_eq, Bool.not_eq_true'] at s1
  obtain ⟨s2, s3, s4⟩ := s1
  exact ⟨b1, b2, fun h => (by rw [s2] at h; cases h), z, by rw [s3]; exact hz, by omega⟩
theorem k0 {ad : List Nat} {b : Nat} {r : List Int} {ws : va_W} : ai_kn ad b r ws [] := fun q h => by cases h
theorem kc {ad : List Nat} {b : Nat} {r : List Int} {ws : va_W} {q : ai_k} {kn : List ai_k} (h : ∃ x, ai_sl ws q.1 q.2.1 x ∧ ai_dv ad b r q.2.2 x) (t : ai_kn ad b r ws kn) : ai_kn ad b r ws (q :: kn) := fun k hk => by
  rcases List.mem_cons.mp hk with rfl | hk
  · exact h
  · exact t k hk
/-! the reference's step: the loop of figures, in three states of it -/
/-- the byte of row 52 at name a and o is told, with bounds -/
def mg (x : ai_s) (a : Nat) (o : Int) (h : Nat → ai_e → Bool) : Bool := x.2.2.2.2.2.any fun q => Nat.beq q.1 1052 && (Nat.beq q.2.1 a && (decide (q.2.2.2.2 = o) && (x.2.2.2.1[q.2.2.2.1]?).any (h q.2.2.2.1)))
theorem mg_ok {w0 : va_W} {r : List Int} {x : ai_s} {a : Nat} {o za t : Int} {h : Nat → ai_e → Bool} (g1 : ai_ok r x.2.2.2.1) (g2 : ai_sb w0 r x.2.2.2.2.2) (ha : r[a]? = some za) (ht : fx_o w0 52 (za + o).toNat = some t) (hh : mg x a o h = true) : ∃ (v : Nat) (e : ai_e), h v e = true ∧ r[v]? = some t ∧ e.1 ≤ t ∧ t ≤ e.2.1 := by
  obtain ⟨q, hq, hh⟩ := List.any_eq_true.mp hh
  rw [Bool.and_eq_true, Bool.and_eq_true, Bool.and_eq_true, ai_beq, ai_beq, decide_eq_true_eq] at hh
  obtain ⟨a1, a2, a3, a4⟩ := hh
  obtain ⟨ya, yb, yr, -, -, -, -, -, -, -, -, e9⟩ := g2 q hq
  obtain ⟨z1, z2, f1, f2, f3, f4⟩ := (e9 (by omega)).1 (by omega)
  rw [a2, ha] at f1
  cases f1
  rw [a1, a3, show 1052 - 1000 = 52 from rfl] at f4
  have f5 := f4 t ht
  subst f5
  obtain ⟨e, b1, b2, b3⟩ := ai_any g1 f2 a4
  exact ⟨_, e, b1, f2, b2, b3⟩
def mg_out (x : ai_s) (a : Nat) (o : Int) : Bool := mg x a o fun _ e => decide (e.2.1 < 48) || decide (57 < e.1)
def mg_in (x : ai_s) (a : Nat) (o : Int) : Bool := mg x a o fun _ e => decide (48 ≤ e.1) && decide (e.2.1 ≤ 57)
theorem mg_outok {w0 : va_W} {r : List Int} {x : ai_s} {a : Nat} {o za t : Int} (g1 : ai_ok r x.2.2.2.1) (g2 : ai_sb w0 r x.2.2.2.2.2) (ha : r[a]? = some za) (ht : fx_o w0 52 (za + o).toNat = some t) (hh : mg_out x a o = true) : t < 48 ∨ 57 < t := by
  obtain ⟨v, e, b1, -, b2, b3⟩ := mg_ok g1 g2 ha ht hh
  rw [Bool.or_eq_true, decide_eq_true_eq, decide_eq_true_eq] at b1
  omega
theorem mg_inok {w0 : va_W} {r : List Int} {x : ai_s} {a : Nat} {o za t : Int} (g1 : ai_ok r x.2.2.2.1) (g2 : ai_sb w0 r x.2.2.2.2.2) (ha : r[a]? = some za) (ht : fx_o w0 52 (za + o).toNat = some t) (hh : mg_in x a o = true) : 48 ≤ t ∧ t ≤ 57 := by
  obtain ⟨v, e, b1, -, b2, b3⟩ := mg_ok g1 g2 ha ht hh
  rw [Bool.and_eq_true, decide_eq_true_eq, decide_eq_true_eq] at b1
  omega
def mf_WR : List (Nat × Nat × Nat) := [(49, 11, 12), (49, 14, 15)]
def mf_e : List ai_e := [(0, 0, false, 0, 0), (0, 2555, false, 1, 0), (0, 160, false, 2, 0), (0, 160, false, 3, 0)]
def mf_A : ai_s := (140, ms_lo, [], mf_e, [(49, 7, (1, 2, 0, 0)), (49, 12, (1, 3, 0, 0)), (49, 11, (1, 3, 0, 0)), (49, 14, (1, 0, 0, 0))], [])
def mf_B : ai_s := (140, ms_lo, [], mf_e ++ [(0, 9, false, 4, 0)], [(49, 7, (1, 2, 0, 0)), (49, 12, (1, 3, 0, 0)), (49, 11, (1, 3, 0, 1)), (49, 14, (1, 4, 0, 0))], [])
def mf_C : ai_s := (140, ms_lo, [], mf_e ++ [(0, 160, false, 4, 0), (-2147483648, 2147483647, false, 5, 0)], [(49, 7, (1, 2, 0, 0)), (49, 12, (1, 3, 0, 0)), (49, 11, (1, 4, 0, 0)), (49, 14, (1, 5, 0, 0))], [(5, 4, 3, 4, 2)])
def mf_lk (x : ai_s) (v : ai_v) : Bool := decide (ai_lk x.2.2.2.2.1 49 11 = some v)
def mf_lv (x : ai_s) (v : ai_v) : Bool := decide (ai_lk x.2.2.2.2.1 49 14 = some v)
def mf_bad (x : ai_s) (o : Int) : Bool := x.2.2.2.2.2.any fun q => Nat.beq q.1 0 && (Nat.beq q.2.1 3 && (Nat.beq q.2.2.1 3 && (decide (q.2.2.2.2 = o) && (x.2.2.2.1[q.2.2.2.1]?).any fun e => decide (2 ≤ e.1))))
theorem mf_badok {w0 : va_W} {r : List Int} {x : ai_s} {o za : Int} (g1 : ai_ok r x.2.2.2.1) (g2 : ai_sb w0 r x.2.2.2.2.2) (h3 : r[3]? = some za) (ho : -1 ≤ o) (h : mf_bad x o = true) : False := by
  obtain ⟨q, hq, hox⟩ := List.any_eq_true.mp h
  rw [Bool.and_eq_true, Bool.and_eq_true, Bool.and_eq_true, Bool.and_eq_true, ai_beq, ai_beq, ai_beq, decide_eq_true_eq] at hox
  obtain ⟨a1, a2, a3, a4, a5⟩ := hox
  obtain ⟨ya, yb, yr, e1, e2, e3, e4, -⟩ := g2 q hq
  rw [a2, h3] at e1
  rw [a3, h3] at e2
  cases e1
  cases e2
  have e5 := e4 a1
  obtain ⟨e0, b1, b2, b3⟩ := ai_any g1 e3 a5
  rw [decide_eq_true_eq] at b1
  omega
def mf_okA (x : ai_s) : Bool := x.2.2.1.isEmpty && (mf_bad x 0 ||
  ((Nat.beq x.1 217 && (mf_lk x (1, 3, 0, 0) && (mf_lv x (1, 0, 0, 0) && (decide (x.2.1 = ms_lo) && (av_f x 5 3 2 none 0 || (av_f x 4 3 2 none 0 && mg_out x 3 0)))))) ||
   (Nat.beq x.1 214 && (mf_lk x (1, 3, 0, 1) && (decide (x.2.1 = ms_lo) && (av_f x 4 3 2 none 0 && (mg_in x 3 0 && (ai_lk x.2.2.2.2.1 49 14).any fun v => decide (v = (1, v.2.1, 0, -48)) && mg x 3 0 fun n _ => Nat.beq n v.2.1)))))))
def mf_okB (x : ai_s) : Bool := x.2.2.1.isEmpty && (mf_bad x (-1) ||
  ((Nat.beq x.1 217 && (mf_lk x (1, 3, 0, 1) && (mf_lv x (1, 4, 0, 0) && (decide (x.2.1 = ms_lo) && (av_f x 5 3 2 none (-1) || (av_f x 4 3 2 none (-1) && mg_out x 3 1)))))) ||
   (Nat.beq x.1 214 && (mf_lk x (1, 3, 0, 2) && (decide (x.2.1 = ms_lo) && (av_f x 4 3 2 none (-1) && (mg_in x 3 1 && (ai_lk x.2.2.2.2.1 49 14).any fun v => decide (v = (1, v.2.1, 0, -48)) && (((x.2.2.2.1[v.2.1]?).any fun e => decide (-1000 ≤ e.1) && decide (e.2.1 ≤ 1000)) && x.2.2.2.2.2.any fun q => Nat.beq q.1 1 && (Nat.beq q.2.2.2.1 v.2.1 && (decide (q.2.2.2.2 = 0) && ((mg x 3 1 fun n _ => Nat.beq n q.2.2.1) && av_f x 510 4 4 (some q.2.1) 0)))))))))))
def mf_okC (x : ai_s) : Bool := x.2.2.1.isEmpty && ((x.2.2.2.2.2.any fun q => Nat.beq q.1 0 && (Nat.beq q.2.1 4 && (Nat.beq q.2.2.1 3 && (decide (q.2.2.2.2 = 0) && (x.2.2.2.1[q.2.2.2.1]?).any fun e => decide (e.2.1 ≤ 1))))) ||
  ((Nat.beq x.1 217 && (mf_lk x (1, 4, 0, 0) && (mf_lv x (1, 5, 0, 0) && (decide (x.2.1 = ms_lo) && (av_f x 5 4 2 none 0 || (av_f x 4 4 2 none 0 && mg_out x 4 0)))))) ||
   (Nat.beq x.1 214 && (mf_lk x (1, 4, 0, 1) && (mf_lv x (1, 5, 0, 0) && (decide (x.2.1 = ms_lo) && (av_f x 4 4 2 none 0 && mg_in x 4 0)))))))
theorem mf_rA : ((ai_ex (hk mf_WR) 200 104 tb_m104 5 [214, 217] mf_A).any fun xs => xs.all mf_okA) = true := by decide +kernel
theorem mf_rB : ((ai_ex (hk mf_WR) 200 104 tb_m104 5 [214, 217] mf_B).any fun xs => xs.all mf_okB) = true := by decide +kernel
theorem mf_rC : ((ai_ex (hk mf_WR) 200 104 tb_m104 5 [214, 217] mf_C).any fun xs => xs.all mf_okC) = true := by decide +kernel
