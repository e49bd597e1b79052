/-! the state of a walk, and what it stands for -/
def ai_sk (ad : List Nat) (b : Nat) (r : List Int) : List ai_v → List Value → Prop
  | [], [] => True
  | v :: vs, x :: xs => ai_dv ad b r v x ∧ ai_sk ad b r vs xs
  | _, _ => False
def ai_lo (ad : List Nat) (b : Nat) (r : List Int) : List (Nat × ai_v) → List (Nat × Value) → Prop
  | [], [] => True
  | q :: qs, y :: ys => q.1 = y.1 ∧ ai_dv ad b r q.2 y.2 ∧ ai_lo ad b r qs ys
  | _, _ => False
theorem ai_sk.mono {ad : List Nat} {b : Nat} {r r' : List Int} (e : ai_x r r') : ∀ {vs : List ai_v} {xs : List Value}, ai_sk ad b r vs xs → ai_sk ad b r' vs xs
  | [], [], _ => trivial
  | _ :: _, _ :: _, h => ⟨h.1.mono e, ai_sk.mono e h.2⟩
  | [], _ :: _, h => h.elim
  | _ :: _, [], h => h.elim
theorem ai_lo.mono {ad : List Nat} {b : Nat} {r r' : List Int} (e : ai_x r r') : ∀ {vs : List (Nat × ai_v)} {xs : List (Nat × Value)}, ai_lo ad b r vs xs → ai_lo ad b r' vs xs
  | [], [], _ => trivial
  | _ :: _, _ :: _, h => ⟨h.1, h.2.1.mono e, ai_lo.mono e h.2.2⟩
  | [], _ :: _, h => h.elim
  | _ :: _, [], h => h.elim
theorem ai_sk.cons {ad : List Nat} {b : Nat} {r : List Int} {v : ai_v} {vs : List ai_v} {xs : List Value} (h : ai_sk ad b r (v :: vs) xs) : ∃ (x : Value) (ys : List Value), xs = x :: ys ∧ ai_dv ad b r v x ∧ ai_sk ad b r vs ys := by
  cases xs with
  | nil => exact h.elim
  | cons x ys => exact ⟨x, ys, rfl, h.1, h.2⟩
theorem ai_sk.nil {ad : List Nat} {b : Nat} {r : List Int} {xs : List Value} (h : ai_sk ad b r [] xs) : xs = [] := by
  cases xs with
  | nil => rfl
  | cons x ys => exact h.elim
theorem ai_dv.cat {ad : List Nat} {b : Nat} {r : List Int} {v : ai_v} {x : Value} (h : ai_dv ad b r v x) : x.category = if v.1 = 2 then 2 else 1 := by
  rcases h with ⟨h, q, -, rfl⟩ | ⟨h, z, i, -, rfl, -⟩ | ⟨h, z, i, -, rfl, -⟩ | ⟨h, z, w, i, -, -, rfl, -⟩ | ⟨h, rfl⟩ <;> rw [h] <;> rfl
def ai_get (lo : List (Nat × ai_v)) (i : Nat) : Option ai_v := (lo.find? fun q => Nat.beq q.1 i).map fun q => q.2
theorem ai_get_ok {ad : List Nat} {b : Nat} {r : List Int} {i : Nat} {v : ai_v} : ∀ {lo : List (Nat × ai_v)} {lv : List (Nat × Value)}, ai_lo ad b r lo lv → ai_get lo i = some v → ∃ (k : Nat) (x : Value), lv[k]? = some (i, x) ∧ ai_dv ad b r v x
  | [], [], _, hg => by cases hg
  | [], _ :: _, h, _ => h.elim
  | _ :: _, [], h, _ => h.elim
  | q :: qs, y :: ys, h, hg => by
    obtain ⟨h1, h2, h3⟩ := h
    unfold ai_get at hg
    rw [List.find?_cons] at hg
    by_cases hq : q.1 = i
    · rw [ai_beq.mpr hq] at hg
      cases hg
      exact ⟨0, y.2, by rw [← hq, h1]; rfl, h2⟩
    · rw [show Nat.beq q.1 i = false from Bool.eq_false_iff.mpr fun h => hq (ai_beq.mp h)] at hg
      obtain ⟨k, x, k1, k2⟩ := ai_get_ok h3 hg
      exact ⟨k + 1, x, k1, k2⟩
theorem ai_lo.filter {ad : List Nat} {b : Nat} {r : List Int} {f : Nat × ai_v → Bool} {g : Nat × Value → Bool} (hfg : ∀ (q : Nat × ai_v) (y : Nat × Value), q.1 = y.1 → ai_dv ad b r q.2 y.2 → f q = g y) : ∀ {lo : List (Nat × ai_v)} {lv : List (Nat × Value)}, ai_lo ad b r lo lv → ai_lo ad b r (lo.filter f) (lv.filter g)
  | [], [], _ => trivial
  | [], _ :: _, h => h.elim
  | _ :: _, [], h => h.elim
  | q :: qs, y :: ys, h => by
    obtain ⟨h1, h2, h3⟩ := h
    rw [List.filter_cons, List.filter_cons, hfg q y h1 h2]
    by_cases hg : g y = true
    · rw [if_pos hg, if_pos hg]
      exact ⟨h1, h2, ai_lo.filter hfg h3⟩
    · rw [if_neg hg, if_neg hg]
      exact ai_lo.filter hfg h3
/-- a store of one word, of two -/
def ai_st1 (lo : List (Nat × ai_v)) (i : Nat) (v : ai_v) : List (Nat × ai_v) := (i, v) :: lo.filter fun q => !(q.1 == i) && !(q.1 + 1 == i && q.2.1 == 2)
def ai_st2 (lo : List (Nat × ai_v)) (i : Nat) (v : ai_v) : List (Nat × ai_v) := (i, v) :: lo.filter fun q => !(q.1 == i) && (!(q.1 == i + 1) && !(q.1 + 1 == i && q.2.1 == 2))
theorem ai_cat2 {ad : List Nat} {b : Nat} {r : List Int} {v : ai_v} {x : Value} (h : ai_dv ad b r v x) : (v.1 == 2) = (x.category == 2) := by
  rw [h.cat]
  by_cases hv : v.1 = 2
  · rw [hv]; rfl
  · rw [if_neg hv]
    simp [hv]
theorem ai_st1_ok {ad : List Nat} {b : Nat} {r : List Int} {lo : List (Nat × ai_v)} {lv : List (Nat × Value)} {i : Nat} {v : ai_v} {x : Value} (h : ai_lo ad b r lo lv) (hv : ai_dv ad b r v x) : ai_lo ad b r (ai_st1 lo i v) ((i, x) :: lv.filter (fun q => !(q.1 == i) && !(q.1 + 1 == i && q.2.category == 2))) :=
  ⟨rfl, hv, ai_lo.filter (fun q y h1 h2 => by rw [h1, ai_cat2 h2]) h⟩
theorem ai_st2_ok {ad : List Nat} {b : Nat} {r : List Int} {lo : List (Nat × ai_v)} {lv : List (Nat × Value)} {i : Nat} {v : ai_v} {x : Value} (h : ai_lo ad b r lo lv) (hv : ai_dv ad b r v x) : ai_lo ad b r (ai_st2 lo i v) ((i, x) :: lv.filter (fun q => !(q.1 == i) && (!(q.1 == i + 1) && !(q.1 + 1 == i && q.2.category == 2)))) :=
  ⟨rfl, hv, ai_lo.filter (fun q y h1 h2 => by rw [h1, ai_cat2 h2]) h⟩
/-- what a loop's head forgets: (kind, place, place, least, greatest, not 0, not below what it was), the locals and ranges of places that it drops, the measure, whether it grows -/
abbrev ai_a : Type := List (Nat × Nat × Nat × Int × Int × Bool × Bool) × List Nat × List (Nat × Nat × Nat) × Nat × Bool
/-- a method: its name, code, number of locals, answer's type, whether it reads the script, its instructions; its class's links: fields read, fields written, ints, longs, methods -/
abbrev ai_t : Type := List (Nat × Instr × Nat) × List (Nat × Nat × Nat) × List (Nat × Nat × Nat × Nat) × List (Nat × Int) × List (Nat × Int) × List (Nat × Nat × Nat × Nat × Nat) × List (Nat × ai_a)
abbrev ai_m : Type := MethodName × ByteArray × Nat × Option FieldType × Bool × ai_t
def ai_GT : List Cond := lw_tbl.filter goodWord
def ai_NW : List Cond := lw_tbl.filter fun w => match w with
  | .methodLinkNest _ _ _ _ => true
  | _ => false
def ai_JL : List Nat := [5, 5, 3, 3, 5, 6, 4]
def ai_JB : List (List Int32) := [[112, 108, 97, 105, 110], [115, 110, 97, 107, 101], [115, 101, 97], [97, 103, 101], [103, 117, 101, 115, 116], [108, 97, 117, 103, 104, 115], [112, 108, 97, 110]]
def ai_JX : List (Nat × String) := [(149, "plain"), (151, "snake"), (153, "sea"), (155, "age"), (157, "guest"), (159, "laughs"), (160, "plan")]
/-- the words' letters, and what the machine's own strings want -/
def ai_jt (adK adV : Nat → Nat) (A : Nat → Prop) (U : State) : Prop := vk_S 7 ai_JL ai_JB adK adV A U U.heap ∧ (∀ (i : Nat) (x : Nat × String), ai_JX[i]? = some x → vk_R RX2 x.1 x.2 (adK i) U) ∧ va_Z "java/lang/String" "COMPACT_STRINGS" "Z" (.int 1) A U U.heap ∧ va_Zq "jdk/internal/util/Preconditions" "SIOOBE_FORMATTER" "Ljava/util/function/BiFunction;" A U U.heap
theorem ai_jt.moved {adK adV : Nat → Nat} {A : Nat → Prop} {s U : State} {locs : List Loc} (hW : s.WarmedH U.vm) (hS : va_S A s.heap U.heap locs) (h : ai_jt adK adV A s) : ai_jt adK adV A U :=
  ⟨(h.1.kept hS.2.1).moved hW.alike, fun i x hx => (h.2.1 i x hx).warm hW, (h.2.2.1.kept hS.2.1).moved hW.alike, (h.2.2.2.kept hS.2.1).moved hW.alike⟩
theorem ai_jt.same {adK adV : Nat → Nat} {A : Nat → Prop} {s U : State} (hv : U.vm = s.vm) (hh : U.heap = s.heap) (h : ai_jt adK adV A s) : ai_jt adK adV A U := by
  have hal : s.vm.Alike U.vm := by rw [hv]; exact Vm.Alike.refl s.vm
  refine ⟨?_, fun i x hx => (h.2.1 i x hx).same hv, ?_, ?_⟩
  · rw [hh]; exact h.1.moved hal
  · rw [hh]; exact h.2.2.1.moved hal
  · rw [hh]; exact h.2.2.2.moved hal
def ai_nj (A : Nat → Prop) (U : State) : Prop := (∀ w ∈ ai_NW, va_Nw w U) ∧ ∃ adK adV : Nat → Nat, ai_jt adK adV A U
def ai_cx (M : ai_m) (d : Nat) (p : Program) (R : Room) (s : State) (m : MethodId) (args : Array Value) (c : Code) (D : va_G) (tys : ai_ty) (A : Nat → Prop) (b L : Nat) (xs : Nat → Int32) (cells slots : Nat) : Prop :=
  p.tables.exec = Jvm.exec ∧ c.code = M.2.1 ∧ c.maxLocals = M.2.2.1 ∧ s.vm.findClass M.1.cls = some m.cls ∧ (∀ w ∈ ai_GT, w.before args s = true) ∧ ai_nj A s ∧ va_K D vwCl tys s ∧ (∀ q, s.heap.size ≤ q → A q) ∧
  (d ≤ R.frames ∧ 36 * d ≤ R.locals ∧ cells ≤ R.cells ∧ slots ≤ R.slots) ∧ (M.2.2.2.2.1 = true → va_X b L xs s s.heap ∧ b < s.heap.size ∧ ¬ A b)
/-- the script's five ints at i (name 1) are the names 3 to 7 -/
def ai_sx (L : Nat) (sx : Nat → Int32) (r : List Int) : Prop := ∀ z : Int, r[1]? = some z → (0 ≤ z ∧ z + 4 < L) ∧ ∀ o : Nat, o ≤ 4 → r[3 + o]? = some (sx (z.toNat + o)).toInt
def ai_gm (TY : List ai_c) (WR : List (Nat × Nat × Nat)) (w0 : va_W) (ad : List Nat) (b L : Nat) (sx : Nat → Int32) (tys : ai_ty) (sc : Bool) (r : List Int) (st : ai_s) (lv : List (Nat × Value)) (sk : List Value) (ws : va_W) : Prop :=
  ai_ok r st.2.2.2.1 ∧ ai_sb w0 r st.2.2.2.2.2 ∧ ai_lo ad b r st.2.1 lv ∧ ai_sk ad b r st.2.2.1 sk ∧ ai_wd TY ad tys ws ∧ ai_kn ad b r ws st.2.2.2.2.1 ∧ ai_fr WR w0 ws ∧ (sc = true → ai_sx L sx r)
def ai_G (TY : List ai_c) (WR : List (Nat × Nat × Nat)) (w0 : va_W) (ad : List Nat) (M : ai_m) (p : Program) (l : Launch) (e : Env) (R : Room) (s : State) (m : MethodId) (args : Array Value) (below : List Frame) (meth : Method) (c : Code) (D : va_G) (tys : ai_ty) (A : Nat → Prop) (b L : Nat) (sx : Nat → Int32) (cells slots : Nat) (Q : State → Prop) (r0 : List Int) (st : ai_s) : Prop :=
  ∀ (r : List Int) (lv : List (Nat × Value)) (sk : List Value) (ws : va_W) (H : Heap) (locs : List Loc) (ls : Array Slot), ai_x r0 r → ai_gm TY WR w0 ad b L sx tys M.2.2.2.2.1 r st lv sk ws → va_P D vwCl ws H → va_D A ws → va_S A s.heap H locs → lv_has ls M.2.2.1 lv →
    W p l e R s m args below meth c H locs cells slots Q (F0 m st.1 ls sk)
section AIJ
variable {TY : List ai_c} {WR : List (Nat × Nat × Nat)} {w0 : va_W} {ad : List Nat} {M : ai_m} {d : Nat} {p : Program} {l : Launch} {e : Env} {R : Room} {s : State} {m : MethodId} {args : Array Value} {below : List Frame} {meth : Method} {c : Code} {D : va_G} {tys : ai_ty} {A : Nat → Prop} {b L : Nat} {sx : Nat → Int32} {cells slots : Nat} {Q : State → Prop} {r0 : List Int} {pc pc' : Nat} {lo : List (Nat × ai_v)} {sk : List ai_v} {en en' : List ai_e} {kn kn' : List ai_k} {sb sb' : List ai_b} {x y v : ai_v}
theorem ai_G.up {r1 : List Int} {st : ai_s} (h : ai_G TY WR w0 ad M p l e R s m args below meth c D tys A b L sx cells slots Q r0 st) (e1 : ai_x r0 r1) : ai_G TY WR w0 ad M p l e R s m args below meth c D tys A b L sx cells slots Q r1 st := fun r lv k ws H locs ls hx => h r lv k ws H locs ls (e1.tr hx)
theorem ai_sc1 {sc : Bool} {r r' : List Int} {L : Nat} {sx : Nat → Int32} (e1 : ai_x r r') (hl : 1 < r.length) (h : sc = true → ai_sx L sx r) : sc = true → ai_sx L sx r' := by
  intro hs z hz
  have hz' : r[1]? = some z := by
    obtain ⟨t, rfl⟩ := e1
    rw [List.getElem?_append_left hl] at hz
    exact hz
  obtain ⟨h1, h2⟩ := h hs z hz'
  exact ⟨h1, fun o ho => e1.at (h2 o ho)⟩
/-- two ints give one -/
theorem ai_J2 {F : List ai_e → List ai_b → ai_v → ai_v → Option ai_q} {side : Int32 → Prop} {f : Int32 → Int32 → Int32} {q : ai_q} (hO : ai_O2 F side f) (hn : 1 < en.length) (hq : F en sb x y = some q)
    (row : ∀ (H : Heap) (locs : List Loc) (ls : Array Slot) (rest : List Value) (i j : Int32), ls.size = M.2.2.1 → side j → W p l e R s m args below meth c H locs cells slots Q (F0 m pc' ls (.int (f i j) :: rest)) → W p l e R s m args below meth c H locs cells slots Q (F0 m pc ls (.int j :: .int i :: rest)))
    (k : ai_G TY WR w0 ad M p l e R s m args below meth c D tys A b L sx cells slots Q r0 (pc', lo, q.2.2 :: sk, q.1, kn, q.2.1)) : ai_G TY WR w0 ad M p l e R s m args below meth c D tys A b L sx cells slots Q r0 (pc, lo, y :: x :: sk, en, kn, sb) := by
  intro r lv skc ws H locs ls hx g hP hD hS hl
  obtain ⟨g1, g2, g3, g4, g5, g6, g7, g8⟩ := g
  obtain ⟨vy, s1, rfl, dy, k4⟩ := g4.cons
  obtain ⟨vx, s2, rfl, dx, k5⟩ := k4.cons
  obtain ⟨i, j, rfl, rfl, hs, r', e1, e2, e3, e4⟩ := hO w0 ad b r en sb x y vx vy q g1 g2 dx dy hq
  exact row H locs ls s2 i j hl.1 hs (k r' lv _ ws H locs ls (hx.tr e1) ⟨e2, e3, g3.mono e1, ⟨e4, k5.mono e1⟩, g5, g6.mono e1, g7, ai_sc1 e1 (by rw [g1.1]; exact hn) g8⟩ hP hD hS hl)
theorem ai_J2l {F : List ai_e → ai_v → ai_v → Option (List ai_e × ai_v)} {side : Int64 → Prop} {f : Int64 → Int64 → Int64} {q : List ai_e × ai_v} (hO : ai_P2 F side f) (hn : 1 < en.length) (hq : F en x y = some q)
    (row : ∀ (H : Heap) (locs : List Loc) (ls : Array Slot) (rest : List Value) (i j : Int64), side j → W p l e R s m args below meth c H locs cells slots Q (F0 m pc' ls (.long (f i j) :: rest)) → W p l e R s m args below meth c H locs cells slots Q (F0 m pc ls (.long j :: .long i :: rest)))
    (k : ai_G TY WR w0 ad M p l e R s m args below meth c D tys A b L sx cells slots Q r0 (pc', lo, q.2 :: sk, q.1, kn, sb)) : ai_G TY WR w0 ad M p l e R s m args below meth c D tys A b L sx cells slots Q r0 (pc, lo, y :: x :: sk, en, kn, sb) := by
  intro r lv skc ws H locs ls hx g hP hD hS hl
  obtain ⟨g1, g2, g3, g4, g5, g6, g7, g8⟩ := g
  obtain ⟨vy, s1, rfl, dy, k4⟩ := g4.cons
  obtain ⟨vx, s2, rfl, dx, k5⟩ := k4.cons
  obtain ⟨i, j, rfl, rfl, hs, r', e1, e2, e4⟩ := hO ad b r en x y vx vy q g1 dx dy hq
  exact row H locs ls s2 i j hs (k r' lv _ ws H locs ls (hx.tr e1) ⟨e2, g2.mono e1, g3.mono e1, ⟨e4, k5.mono e1⟩, g5, g6.mono e1, g7, ai_sc1 e1 (by rw [g1.1]; exact hn) g8⟩ hP hD hS hl)
/-- a constant -/
theorem ai_Jc {n : Int} {v : Int32} (hv : v.toInt = n) (hz : ai_z en = true)
    (row : ∀ (H : Heap) (locs : List Loc) (ls : Array Slot) (rest : List Value), W p l e R s m args below meth c H locs cells slots Q (F0 m pc' ls (.int v :: rest)) → W p l e R s m args below meth c H locs cells slots Q (F0 m pc ls rest))
    (k : ai_G TY WR w0 ad M p l e R s m args below meth c D tys A b L sx cells slots Q r0 (pc', lo, (1, 0, 0, n) :: sk, en, kn, sb)) : ai_G TY WR w0 ad M p l e R s m args below meth c D tys A b L sx cells slots Q r0 (pc, lo, sk, en, kn, sb) := by
  intro r lv skc ws H locs ls hx g hP hD hS hl
  obtain ⟨g1, g2, g3, g4, g5, g6, g7, g8⟩ := g
  exact row H locs ls skc (k r lv _ ws H locs ls hx ⟨g1, g2, g3, ⟨Or.inr (Or.inl ⟨rfl, 0, v, ai_z_ok g1 hz, rfl, by show v.toInt = 0 + n; omega⟩), g4⟩, g5, g6, g7, g8⟩ hP hD hS hl)
theorem ai_Jcl {n : Int} {v : Int64} (hv : v.toInt = n) (hz : ai_z en = true)
    (row : ∀ (H : Heap) (locs : List Loc) (ls : Array Slot) (rest : List Value), W p l e R s m args below meth c H locs cells slots Q (F0 m pc' ls (.long v :: rest)) → W p l e R s m args below meth c H locs cells slots Q (F0 m pc ls rest))
    (k : ai_G TY WR w0 ad M p l e R s m args below meth c D tys A b L sx cells slots Q r0 (pc', lo, (2, 0, 0, n) :: sk, en, kn, sb)) : ai_G TY WR w0 ad M p l e R s m args below meth c D tys A b L sx cells slots Q r0 (pc, lo, sk, en, kn, sb) := by
  intro r lv skc ws H locs ls hx g hP hD hS hl
  obtain ⟨g1, g2, g3, g4, g5, g6, g7, g8⟩ := g
  exact row H locs ls skc (k r lv _ ws H locs ls hx ⟨g1, g2, g3, ⟨Or.inr (Or.inr (Or.inl ⟨rfl, 0, v, ai_z_ok g1 hz, rfl, by show v.toInt = 0 + n; omega⟩)), g4⟩, g5, g6, g7, g8⟩ hP hD hS hl)
/-- a local's value comes on the stack -/
theorem ai_Jld {i : Nat} (hg : ai_get lo i = some v)
    (row : ∀ (H : Heap) (locs : List Loc) (ls : Array Slot) (rest : List Value) (w : Value) (r : List Int), ls[i]? = some (.val w) → ai_dv ad b r v w → W p l e R s m args below meth c H locs cells slots Q (F0 m pc' ls (w :: rest)) → W p l e R s m args below meth c H locs cells slots Q (F0 m pc ls rest))
    (k : ai_G TY WR w0 ad M p l e R s m args below meth c D tys A b L sx cells slots Q r0 (pc', lo, v :: sk, en, kn, sb)) : ai_G TY WR w0 ad M p l e R s m args below meth c D tys A b L sx cells slots Q r0 (pc, lo, sk, en, kn, sb) := by
  intro r lv skc ws H locs ls hx g hP hD hS hl
  obtain ⟨g1, g2, g3, g4, g5, g6, g7, g8⟩ := g
  obtain ⟨n, w, h1, h2⟩ := ai_get_ok g3 hg
  exact row H locs ls skc w r (lv_at hl n h1) h2 (k r lv _ ws H locs ls hx ⟨g1, g2, g3, ⟨h2, g4⟩, g5, g6, g7, g8⟩ hP hD hS hl)
/-- .. and goes into a local -/
theorem ai_Jst1 {i : Nat} (row : ∀ (H : Heap) (locs : List Loc) (ls : Array Slot) (lv : List (Nat × Value)) (rest : List Value) (w : Value) (r : List Int), lv_has ls M.2.2.1 lv → ai_dv ad b r v w →
      (∀ ls' : Array Slot, lv_has ls' M.2.2.1 ((i, w) :: lv.filter (fun q => !(q.1 == i) && !(q.1 + 1 == i && q.2.category == 2))) → W p l e R s m args below meth c H locs cells slots Q (F0 m pc' ls' rest)) → W p l e R s m args below meth c H locs cells slots Q (F0 m pc ls (w :: rest)))
    (k : ai_G TY WR w0 ad M p l e R s m args below meth c D tys A b L sx cells slots Q r0 (pc', ai_st1 lo i v, sk, en, kn, sb)) : ai_G TY WR w0 ad M p l e R s m args below meth c D tys A b L sx cells slots Q r0 (pc, lo, v :: sk, en, kn, sb) := by
  intro r lv skc ws H locs ls hx g hP hD hS hl
  obtain ⟨g1, g2, g3, g4, g5, g6, g7, g8⟩ := g
  obtain ⟨w, s1, rfl, dw, k5⟩ := g4.cons
  exact row H locs ls lv s1 w r hl dw (fun ls' hl' => k r _ s1 ws H locs ls' hx ⟨g1, g2, ai_st1_ok g3 dw, k5, g5, g6, g7, g8⟩ hP hD hS hl')
theorem ai_Jst2 {i : Nat} (row : ∀ (H : Heap) (locs : List Loc) (ls : Array Slot) (lv : List (Nat × Value)) (rest : List Value) (w : Value) (r : List Int), lv_has ls M.2.2.1 lv → ai_dv ad b r v w →
      (∀ ls' : Array Slot, lv_has ls' M.2.2.1 ((i, w) :: lv.filter (fun q => !(q.1 == i) && (!(q.1 == i + 1) && !(q.1 + 1 == i && q.2.category == 2)))) → W p l e R s m args below meth c H locs cells slots Q (F0 m pc' ls' rest)) → W p l e R s m args below meth c H locs cells slots Q (F0 m pc ls (w :: rest)))
    (k : ai_G TY WR w0 ad M p l e R s m args below meth c D tys A b L sx cells slots Q r0 (pc', ai_st2 lo i v, sk, en, kn, sb)) : ai_G TY WR w0 ad M p l e R s m args below meth c D tys A b L sx cells slots Q r0 (pc, lo, v :: sk, en, kn, sb) := by
  intro r lv skc ws H locs ls hx g hP hD hS hl
  obtain ⟨g1, g2, g3, g4, g5, g6, g7, g8⟩ := g
  obtain ⟨w, s1, rfl, dw, k5⟩ := g4.cons
  exact row H locs ls lv s1 w r hl dw (fun ls' hl' => k r _ s1 ws H locs ls' hx ⟨g1, g2, ai_st2_ok g3 dw, k5, g5, g6, g7, g8⟩ hP hD hS hl')
theorem ai_Jinc (C : ai_cx M d p R s m args c D tys A b L sx cells slots) {i : Nat} {n : Int} {q : ai_q} (hg : ai_get lo i = some v) (hz : ai_z en = true) (hn : 1 < en.length) (hr : ai_ir n n = true) (hi : i < M.2.2.1) (hq : ai_add en sb v (1, 0, 0, n) = some q) (hd : decode M.2.1 pc = .ok (.iinc i n, 3))
    (k : ai_G TY WR w0 ad M p l e R s m args below meth c D tys A b L sx cells slots Q r0 (pc + 3, ai_st1 lo i q.2.2, sk, q.1, kn, q.2.1)) : ai_G TY WR w0 ad M p l e R s m args below meth c D tys A b L sx cells slots Q r0 (pc, lo, sk, en, kn, sb) := by
  intro r lv skc ws H locs ls hx g hP hD hS hl
  obtain ⟨g1, g2, g3, g4, g5, g6, g7, g8⟩ := g
  obtain ⟨a, w, h1, h2⟩ := ai_get_ok g3 hg
  have hc : ai_dv ad b r (1, 0, 0, n) (.int (Int32.ofInt n)) := Or.inr (Or.inl ⟨rfl, 0, _, ai_z_ok g1 hz, rfl, by
    have := ai_irs hr
    show (Int32.ofInt n).toInt = 0 + n
    have hsz : (Int32.size : Int) = 4294967296 := rfl
    rw [Int32.toInt_ofInt, Int.bmod_eq_of_le] <;> omega⟩)
  obtain ⟨i', j', rfl, hj, -, r', e1, e2, e3, e4⟩ := ai_add_ok w0 ad b r en sb v _ w _ q g1 g2 h2 hc hq
  cases hj
  exact lv_iinc C.1 C.2.1 hd hl h1 rfl hi rfl (fun ls' hl' => k r' _ skc ws H locs ls' (hx.tr e1) ⟨e2, e3, ai_st1_ok (g3.mono e1) e4, g4.mono e1, g5, g6.mono e1, g7, ai_sc1 e1 (by rw [g1.1]; exact hn) g8⟩ hP hD hS hl')
/-- an int is known to be one, no more -/
theorem ai_Ju {f : Int32 → Int32} {w : Int × Int} (hn : 1 < en.length) (hq : ai_i en x = some w)
    (row : ∀ (H : Heap) (locs : List Loc) (ls : Array Slot) (rest : List Value) (i : Int32), W p l e R s m args below meth c H locs cells slots Q (F0 m pc' ls (.int (f i) :: rest)) → W p l e R s m args below meth c H locs cells slots Q (F0 m pc ls (.int i :: rest)))
    (k : ai_G TY WR w0 ad M p l e R s m args below meth c D tys A b L sx cells slots Q r0 (pc', lo, (1, en.length, 0, 0) :: sk, ai_nu en (-2147483648) 2147483647, kn, sb)) : ai_G TY WR w0 ad M p l e R s m args below meth c D tys A b L sx cells slots Q r0 (pc, lo, x :: sk, en, kn, sb) := by
  intro r lv skc ws H locs ls hx g hP hD hS hl
  obtain ⟨g1, g2, g3, g4, g5, g6, g7, g8⟩ := g
  obtain ⟨vx, s2, rfl, dx, k5⟩ := g4.cons
  obtain ⟨-, z, i, -, rfl, -⟩ := ai_i_ok g1 dx hq
  exact row H locs ls s2 i (k (r ++ [(f i).toInt]) lv _ ws H locs ls (hx.tr ai_x.push) ⟨g1.nu (ai_irg _).1 (ai_irg _).2, g2.mono ai_x.push, g3.mono ai_x.push, ⟨Or.inr (Or.inl ⟨rfl, _, _, ai_last g1.1, rfl, by show (f i).toInt = (f i).toInt + 0; omega⟩), k5.mono ai_x.push⟩, g5, g6.mono ai_x.push, g7, ai_sc1 ai_x.push (by rw [g1.1]; exact hn) g8⟩ hP hD hS hl)
/-- an int made long -/
theorem ai_Ji2l (C : ai_cx M d p R s m args c D tys A b L sx cells slots) (hx1 : x.1 = 1) (hd : decode M.2.1 pc = .ok (.i2l, 1)) (k : ai_G TY WR w0 ad M p l e R s m args below meth c D tys A b L sx cells slots Q r0 (pc + 1, lo, (2, x.2.1, 0, x.2.2.2) :: sk, en, kn, sb)) : ai_G TY WR w0 ad M p l e R s m args below meth c D tys A b L sx cells slots Q r0 (pc, lo, x :: sk, en, kn, sb) := by
  intro r lv skc ws H locs ls hx g hP hD hS hl
  obtain ⟨g1, g2, g3, g4, g5, g6, g7, g8⟩ := g
  obtain ⟨vx, s2, rfl, dx, k5⟩ := g4.cons
  rcases dx with ⟨q, -⟩ | ⟨-, z, i, h1, rfl, h3⟩ | ⟨q, -⟩ | ⟨q, -⟩ | ⟨q, -⟩
  · omega
  · exact lv_i2l C.1 C.2.1 hd rfl (k r lv _ ws H locs ls hx ⟨g1, g2, g3, ⟨Or.inr (Or.inr (Or.inl ⟨rfl, z, _, h1, rfl, by rw [Int32.toInt_toInt64]; exact h3⟩)), k5⟩, g5, g6, g7, g8⟩ hP hD hS hl)
  all_goals omega
/-- two longs compared -/
theorem ai_cmpL (i j : Int64) : (lg_cmp i j < 0 ↔ i.toInt < j.toInt) ∧ (lg_cmp i j = 0 ↔ i.toInt = j.toInt) := by
  unfold lg_cmp
  by_cases h1 : j < i
  · rw [if_pos h1]
    rw [Int64.lt_iff_toInt_lt] at h1
    refine ⟨⟨fun h => absurd h (by decide), fun h => by omega⟩, ⟨fun h => absurd h (by decide), fun h => by omega⟩⟩
  · rw [if_neg h1]
    rw [Int64.lt_iff_toInt_lt] at h1
    by_cases h2 : i = j
    · subst h2
      simp
    · have h3 : i.toInt ≠ j.toInt := fun q => h2 (Int64.toInt_inj.mp q)
      rw [if_neg h2]
      refine ⟨⟨fun _ => by omega, fun _ => by decide⟩, ⟨fun h => absurd h (by decide), fun h => absurd h h3⟩⟩
theorem ai_Jlcmp (C : ai_cx M d p R s m args c D tys A b L sx cells slots) (hx1 : x.1 = 2) (hy1 : y.1 = 2) (hd : decode M.2.1 pc = .ok (.lcmp, 1)) (k : ai_G TY WR w0 ad M p l e R s m args below meth c D tys A b L sx cells slots Q r0 (pc + 1, lo, (3, x.2.1, y.2.1, y.2.2.2 - x.2.2.2) :: sk, en, kn, sb)) : ai_G TY WR w0 ad M p l e R s m args below meth c D tys A b L sx cells slots Q r0 (pc, lo, y :: x :: sk, en, kn, sb) := by
  intro r lv skc ws H locs ls hx g hP hD hS hl
  obtain ⟨g1, g2, g3, g4, g5, g6, g7, g8⟩ := g
  obtain ⟨vy, s1, rfl, dy, k4⟩ := g4.cons
  obtain ⟨vx, s2, rfl, dx, k5⟩ := k4.cons
  rcases dx with ⟨q, -⟩ | ⟨q, -⟩ | ⟨-, z, i, h1, rfl, h3⟩ | ⟨q, -⟩ | ⟨q, -⟩
  · omega
  · omega
  · rcases dy with ⟨q, -⟩ | ⟨q, -⟩ | ⟨-, w, j, k1, rfl, k3⟩ | ⟨q, -⟩ | ⟨q, -⟩
    · omega
    · omega
    · obtain ⟨c1, c2⟩ := ai_cmpL i j
      refine W.lcmp C.1 C.2.1 hd (k r lv _ ws H locs ls hx ⟨g1, g2, g3, ⟨Or.inr (Or.inr (Or.inr (Or.inl ⟨rfl, z, w, _, h1, k1, rfl, c1.trans ?_, c2.trans ?_⟩))), k5⟩, g5, g6, g7, g8⟩ hP hD hS hl)
      · show _ ↔ z < w + (y.2.2.2 - x.2.2.2)
        omega
      · show _ ↔ z = w + (y.2.2.2 - x.2.2.2)
        omega
    all_goals omega
  all_goals omega
theorem ai_Jdup (C : ai_cx M d p R s m args c D tys A b L sx cells slots) (hx1 : ¬ x.1 = 2) (hd : decode M.2.1 pc = .ok (.dup, 1)) (k : ai_G TY WR w0 ad M p l e R s m args below meth c D tys A b L sx cells slots Q r0 (pc + 1, lo, x :: x :: sk, en, kn, sb)) : ai_G TY WR w0 ad M p l e R s m args below meth c D tys A b L sx cells slots Q r0 (pc, lo, x :: sk, en, kn, sb) := by
  intro r lv skc ws H locs ls hx g hP hD hS hl
  obtain ⟨g1, g2, g3, g4, g5, g6, g7, g8⟩ := g
  obtain ⟨vx, s2, rfl, dx, k5⟩ := g4.cons
  exact lv_dup C.1 C.2.1 hd (by rw [dx.cat, if_neg hx1]) (k r lv _ ws H locs ls hx ⟨g1, g2, g3, ⟨dx, dx, k5⟩, g5, g6, g7, g8⟩ hP hD hS hl)
theorem ai_Jdup2 (C : ai_cx M d p R s m args c D tys A b L sx cells slots) (hx1 : ¬ x.1 = 2) (hy1 : ¬ y.1 = 2) (hd : decode M.2.1 pc = .ok (.dup2, 1)) (k : ai_G TY WR w0 ad M p l e R s m args below meth c D tys A b L sx cells slots Q r0 (pc + 1, lo, y :: x :: y :: x :: sk, en, kn, sb)) : ai_G TY WR w0 ad M p l e R s m args below meth c D tys A b L sx cells slots Q r0 (pc, lo, y :: x :: sk, en, kn, sb) := by
  intro r lv skc ws H locs ls hx g hP hD hS hl
  obtain ⟨g1, g2, g3, g4, g5, g6, g7, g8⟩ := g
  obtain ⟨vy, s1, rfl, dy, k4⟩ := g4.cons
  obtain ⟨vx, s2, rfl, dx, k5⟩ := k4.cons
  exact lv_dup2_11 C.1 C.2.1 hd (by rw [dy.cat, if_neg hy1]) (by rw [dx.cat, if_neg hx1]) (k r lv _ ws H locs ls hx ⟨g1, g2, g3, ⟨dy, dx, dy, dx, k5⟩, g5, g6, g7, g8⟩ hP hD hS hl)
theorem ai_Jpop (C : ai_cx M d p R s m args c D tys A b L sx cells slots) (hx1 : ¬ x.1 = 2) (hd : decode M.2.1 pc = .ok (.pop, 1)) (k : ai_G TY WR w0 ad M p l e R s m args below meth c D tys A b L sx cells slots Q r0 (pc + 1, lo, sk, en, kn, sb)) : ai_G TY WR w0 ad M p l e R s m args below meth c D tys A b L sx cells slots Q r0 (pc, lo, x :: sk, en, kn, sb) := by
  intro r lv skc ws H locs ls hx g hP hD hS hl
  obtain ⟨g1, g2, g3, g4, g5, g6, g7, g8⟩ := g
  obtain ⟨vx, s2, rfl, dx, k5⟩ := g4.cons
  exact lv_pop C.1 C.2.1 hd (by rw [dx.cat, if_neg hx1]) (k r lv _ ws H locs ls hx ⟨g1, g2, g3, k5, g5, g6, g7, g8⟩ hP hD hS hl)
theorem ai_Jpop2 (C : ai_cx M d p R s m args c D tys A b L sx cells slots) (hx1 : x.1 = 2) (hd : decode M.2.1 pc = .ok (.pop2, 1)) (k : ai_G TY WR w0 ad M p l e R s m args below meth c D tys A b L sx cells slots Q r0 (pc + 1, lo, sk, en, kn, sb)) : ai_G TY WR w0 ad M p l e R s m args below meth c D tys A b L sx cells slots Q r0 (pc, lo, x :: sk, en, kn, sb) := by
  intro r lv skc ws H locs ls hx g hP hD hS hl
  obtain ⟨g1, g2, g3, g4, g5, g6, g7, g8⟩ := g
  obtain ⟨vx, s2, rfl, dx, k5⟩ := g4.cons
  exact lv_pop2_2 C.1 C.2.1 hd (by rw [dx.cat, if_pos hx1]) (k r lv _ ws H locs ls hx ⟨g1, g2, g3, k5, g5, g6, g7, g8⟩ hP hD hS hl)
end AIJ
