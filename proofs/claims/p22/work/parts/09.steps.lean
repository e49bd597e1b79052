/-! one instruction -/
section AIN
variable {TY : List ai_c} {WR : List (Nat × Nat × Nat)} {w0 : va_W} {ad : List Nat} {M : ai_m} {d : Nat} {p : Program} {l : Launch} {e : Env} {R : Room} {s : State} {m : MethodId} {args : Array Value} {below : List Frame} {meth : Method} {c : Code} {D : va_G} {tys : ai_ty} {A : Nat → Prop} {b L : Nat} {sx : Nat → Int32} {cells slots : Nat} {Q : State → Prop} {r0 : List Int} {pc pc' : Nat} {lo : List (Nat × ai_v)} {sk : List ai_v} {en en' : List ai_e} {kn kn' : List ai_k} {sb sb' : List ai_b} {x y v : ai_v} {ss : List ai_s}
def ai_n2 (F : List ai_e → List ai_b → ai_v → ai_v → Option ai_q) (pc' : Nat) (lo : List (Nat × ai_v)) (sk : List ai_v) (en : List ai_e) (kn : List ai_k) (sb : List ai_b) : Option (List ai_s) := match sk with
  | y :: x :: k => (F en sb x y).map fun q => [(pc', lo, q.2.2 :: k, q.1, kn, q.2.1)]
  | _ => none
theorem ai_n2_ok {F : List ai_e → List ai_b → ai_v → ai_v → Option ai_q} {side : Int32 → Prop} {f : Int32 → Int32 → Int32} (hO : ai_O2 F side f) (hn : 1 < en.length) (hq : ai_n2 F pc' lo sk en kn sb = some ss)
    (row : ∀ (H : Heap) (locs : List Loc) (ls : Array Slot) (rest : List Value) (i j : Int32), ls.size = M.2.2.1 → side j → W p l e R s m args below meth c H locs cells slots Q (F0 m pc' ls (.int (f i j) :: rest)) → W p l e R s m args below meth c H locs cells slots Q (F0 m pc ls (.int j :: .int i :: rest)))
    (k : ∀ st ∈ ss, ai_G TY WR w0 ad M p l e R s m args below meth c D tys A b L sx cells slots Q r0 st) : ai_G TY WR w0 ad M p l e R s m args below meth c D tys A b L sx cells slots Q r0 (pc, lo, sk, en, kn, sb) := by
  unfold ai_n2 at hq
  split at hq
  · obtain ⟨q, h1, rfl⟩ := Option.map_eq_some_iff.mp hq
    exact ai_J2 hO hn h1 row (k _ (List.mem_singleton.mpr rfl))
  · cases hq
def ai_n2l (F : List ai_e → ai_v → ai_v → Option (List ai_e × ai_v)) (pc' : Nat) (lo : List (Nat × ai_v)) (sk : List ai_v) (en : List ai_e) (kn : List ai_k) (sb : List ai_b) : Option (List ai_s) := match sk with
  | y :: x :: k => (F en x y).map fun q => [(pc', lo, q.2 :: k, q.1, kn, sb)]
  | _ => none
theorem ai_n2l_ok {F : List ai_e → ai_v → ai_v → Option (List ai_e × ai_v)} {side : Int64 → Prop} {f : Int64 → Int64 → Int64} (hO : ai_P2 F side f) (hn : 1 < en.length) (hq : ai_n2l F pc' lo sk en kn sb = some ss)
    (row : ∀ (H : Heap) (locs : List Loc) (ls : Array Slot) (rest : List Value) (i j : Int64), side j → W p l e R s m args below meth c H locs cells slots Q (F0 m pc' ls (.long (f i j) :: rest)) → W p l e R s m args below meth c H locs cells slots Q (F0 m pc ls (.long j :: .long i :: rest)))
    (k : ∀ st ∈ ss, ai_G TY WR w0 ad M p l e R s m args below meth c D tys A b L sx cells slots Q r0 st) : ai_G TY WR w0 ad M p l e R s m args below meth c D tys A b L sx cells slots Q r0 (pc, lo, sk, en, kn, sb) := by
  unfold ai_n2l at hq
  split at hq
  · obtain ⟨q, h1, rfl⟩ := Option.map_eq_some_iff.mp hq
    exact ai_J2l hO hn h1 row (k _ (List.mem_singleton.mpr rfl))
  · cases hq
def ai_nlad (pc' : Nat) (lo : List (Nat × ai_v)) (sk : List ai_v) (en : List ai_e) (kn : List ai_k) (sb : List ai_b) : Option (List ai_s) := match sk with
  | y :: x :: k => (ai_lad en sb x y).map fun q => [(pc', lo, q.2.2 :: k, q.1, kn, q.2.1)]
  | _ => none
theorem ai_nlad_ok (C : ai_cx M d p R s m args c D tys A b L sx cells slots) (hn : 1 < en.length) (hd : decode M.2.1 pc = .ok (.ladd, 1)) (hq : ai_nlad (pc + 1) lo sk en kn sb = some ss) (k : ∀ st ∈ ss, ai_G TY WR w0 ad M p l e R s m args below meth c D tys A b L sx cells slots Q r0 st) : ai_G TY WR w0 ad M p l e R s m args below meth c D tys A b L sx cells slots Q r0 (pc, lo, sk, en, kn, sb) := by
  unfold ai_nlad at hq
  split at hq
  · rename_i y x sk'
    obtain ⟨q, h1, rfl⟩ := Option.map_eq_some_iff.mp hq
    intro r lv skc ws H locs ls hx g hP hD hS hl
    obtain ⟨g1, g2, g3, g4, g5, g6, g7, g8⟩ := g
    obtain ⟨vy, s1, rfl, dy, k4⟩ := g4.cons
    obtain ⟨vx, s2, rfl, dx, k5⟩ := k4.cons
    obtain ⟨i, j, rfl, rfl, r', e1, e2, e3, e4⟩ := ai_lad_ok w0 ad b r en sb x y vx vy q g1 g2 dx dy h1
    exact lv_ladd C.1 C.2.1 hd (k _ (List.mem_singleton.mpr rfl) r' lv _ ws H locs ls (hx.tr e1) ⟨e2, e3, g3.mono e1, ⟨e4, k5.mono e1⟩, g5, g6.mono e1, g7, ai_sc1 e1 (by rw [g1.1]; exact hn) g8⟩ hP hD hS hl)
  · cases hq
def ai_nc1 (n : Int) (pc' : Nat) (lo : List (Nat × ai_v)) (sk : List ai_v) (en : List ai_e) (kn : List ai_k) (sb : List ai_b) : Option (List ai_s) := some [(pc', lo, (1, 0, 0, n) :: sk, en, kn, sb)]
theorem ai_ofI {n : Int} (hr : ai_ir n n = true) : (Int32.ofInt n).toInt = n := by
  have := ai_irs hr
  have hsz : (Int32.size : Int) = 4294967296 := rfl
  rw [Int32.toInt_ofInt, Int.bmod_eq_of_le] <;> omega
/-- loads: which kinds of value -/
def ai_nld (tg : Nat → Bool) (i : Nat) (pc' : Nat) (lo : List (Nat × ai_v)) (sk : List ai_v) (en : List ai_e) (kn : List ai_k) (sb : List ai_b) : Option (List ai_s) :=
  (ai_get lo i).bind fun v => if tg v.1 = true then some [(pc', lo, v :: sk, en, kn, sb)] else none
def ai_tI (n : Nat) : Bool := n == 1 || n == 3
def ai_tL (n : Nat) : Bool := n == 2
def ai_tA (n : Nat) : Bool := n == 0 || n == 4
theorem ai_isI {r : List Int} {w : Value} (h : ai_dv ad b r v w) (ht : ai_tI v.1 = true) : ∃ i : Int32, w = .int i := by
  unfold ai_tI at ht
  rcases h with ⟨q, -⟩ | ⟨-, z, i, -, rfl, -⟩ | ⟨q, -⟩ | ⟨-, z, y, i, -, -, rfl, -⟩ | ⟨q, -⟩
  · rw [q] at ht; cases ht
  · exact ⟨i, rfl⟩
  · rw [q] at ht; cases ht
  · exact ⟨i, rfl⟩
  · rw [q] at ht; cases ht
theorem ai_isL {r : List Int} {w : Value} (h : ai_dv ad b r v w) (ht : ai_tL v.1 = true) : ∃ i : Int64, w = .long i := by
  unfold ai_tL at ht
  rcases h with ⟨q, -⟩ | ⟨q, -⟩ | ⟨-, z, i, -, rfl, -⟩ | ⟨q, -⟩ | ⟨q, -⟩
  · rw [q] at ht; cases ht
  · rw [q] at ht; cases ht
  · exact ⟨i, rfl⟩
  · rw [q] at ht; cases ht
  · rw [q] at ht; cases ht
theorem ai_isA {r : List Int} {w : Value} (h : ai_dv ad b r v w) (ht : ai_tA v.1 = true) : ∃ a : Nat, w = .ref a := by
  unfold ai_tA at ht
  rcases h with ⟨-, a, -, rfl⟩ | ⟨q, -⟩ | ⟨q, -⟩ | ⟨q, -⟩ | ⟨-, rfl⟩
  · exact ⟨a, rfl⟩
  · rw [q] at ht; cases ht
  · rw [q] at ht; cases ht
  · rw [q] at ht; cases ht
  · exact ⟨b, rfl⟩
theorem ai_nldI {i : Nat} (hq : ai_nld ai_tI i pc' lo sk en kn sb = some ss)
    (row : ∀ (H : Heap) (locs : List Loc) (ls : Array Slot) (rest : List Value) (w : Int32), ls[i]? = some (.val (.int w)) → W p l e R s m args below meth c H locs cells slots Q (F0 m pc' ls (.int w :: rest)) → W p l e R s m args below meth c H locs cells slots Q (F0 m pc ls rest))
    (k : ∀ st ∈ ss, ai_G TY WR w0 ad M p l e R s m args below meth c D tys A b L sx cells slots Q r0 st) : ai_G TY WR w0 ad M p l e R s m args below meth c D tys A b L sx cells slots Q r0 (pc, lo, sk, en, kn, sb) := by
  unfold ai_nld at hq
  obtain ⟨v, h1, hq⟩ := Option.bind_eq_some_iff.mp hq
  split at hq
  · rename_i ht
    cases hq
    refine ai_Jld h1 (fun H locs ls rest w r a1 a2 a3 => ?_) (k _ (List.mem_singleton.mpr rfl))
    obtain ⟨j, rfl⟩ := ai_isI a2 ht
    exact row H locs ls rest j a1 a3
  · cases hq
theorem ai_nldL {i : Nat} (hq : ai_nld ai_tL i pc' lo sk en kn sb = some ss)
    (row : ∀ (H : Heap) (locs : List Loc) (ls : Array Slot) (rest : List Value) (w : Int64), ls[i]? = some (.val (.long w)) → W p l e R s m args below meth c H locs cells slots Q (F0 m pc' ls (.long w :: rest)) → W p l e R s m args below meth c H locs cells slots Q (F0 m pc ls rest))
    (k : ∀ st ∈ ss, ai_G TY WR w0 ad M p l e R s m args below meth c D tys A b L sx cells slots Q r0 st) : ai_G TY WR w0 ad M p l e R s m args below meth c D tys A b L sx cells slots Q r0 (pc, lo, sk, en, kn, sb) := by
  unfold ai_nld at hq
  obtain ⟨v, h1, hq⟩ := Option.bind_eq_some_iff.mp hq
  split at hq
  · rename_i ht
    cases hq
    refine ai_Jld h1 (fun H locs ls rest w r a1 a2 a3 => ?_) (k _ (List.mem_singleton.mpr rfl))
    obtain ⟨j, rfl⟩ := ai_isL a2 ht
    exact row H locs ls rest j a1 a3
  · cases hq
theorem ai_nldA {i : Nat} (hq : ai_nld ai_tA i pc' lo sk en kn sb = some ss)
    (row : ∀ (H : Heap) (locs : List Loc) (ls : Array Slot) (rest : List Value) (w : Nat), ls[i]? = some (.val (.ref w)) → W p l e R s m args below meth c H locs cells slots Q (F0 m pc' ls (.ref w :: rest)) → W p l e R s m args below meth c H locs cells slots Q (F0 m pc ls rest))
    (k : ∀ st ∈ ss, ai_G TY WR w0 ad M p l e R s m args below meth c D tys A b L sx cells slots Q r0 st) : ai_G TY WR w0 ad M p l e R s m args below meth c D tys A b L sx cells slots Q r0 (pc, lo, sk, en, kn, sb) := by
  unfold ai_nld at hq
  obtain ⟨v, h1, hq⟩ := Option.bind_eq_some_iff.mp hq
  split at hq
  · rename_i ht
    cases hq
    refine ai_Jld h1 (fun H locs ls rest w r a1 a2 a3 => ?_) (k _ (List.mem_singleton.mpr rfl))
    obtain ⟨j, rfl⟩ := ai_isA a2 ht
    exact row H locs ls rest j a1 a3
  · cases hq
def ai_ns1 (tg : Nat → Bool) (nL i : Nat) (pc' : Nat) (lo : List (Nat × ai_v)) (sk : List ai_v) (en : List ai_e) (kn : List ai_k) (sb : List ai_b) : Option (List ai_s) := match sk with
  | v :: k => if tg v.1 = true ∧ i < nL then some [(pc', ai_st1 lo i v, k, en, kn, sb)] else none
  | _ => none
theorem ai_ns1I {i : Nat} (hq : ai_ns1 ai_tI M.2.2.1 i pc' lo sk en kn sb = some ss)
    (row : ∀ (H : Heap) (locs : List Loc) (ls : Array Slot) (lv : List (Nat × Value)) (rest : List Value) (w : Int32), lv_has ls M.2.2.1 lv → i < M.2.2.1 →
      (∀ ls' : Array Slot, lv_has ls' M.2.2.1 ((i, .int w) :: lv.filter (fun q => !(q.1 == i) && !(q.1 + 1 == i && q.2.category == 2))) → W p l e R s m args below meth c H locs cells slots Q (F0 m pc' ls' rest)) → W p l e R s m args below meth c H locs cells slots Q (F0 m pc ls (.int w :: rest)))
    (k : ∀ st ∈ ss, ai_G TY WR w0 ad M p l e R s m args below meth c D tys A b L sx cells slots Q r0 st) : ai_G TY WR w0 ad M p l e R s m args below meth c D tys A b L sx cells slots Q r0 (pc, lo, sk, en, kn, sb) := by
  unfold ai_ns1 at hq
  split at hq
  · split at hq
    · rename_i ht
      cases hq
      refine ai_Jst1 (fun H locs ls lv rest w r a1 a2 a3 => ?_) (k _ (List.mem_singleton.mpr rfl))
      obtain ⟨j, rfl⟩ := ai_isI a2 ht.1
      exact row H locs ls lv rest j a1 ht.2 a3
    · cases hq
  · cases hq
theorem ai_ns1A {i : Nat} (hq : ai_ns1 ai_tA M.2.2.1 i pc' lo sk en kn sb = some ss)
    (row : ∀ (H : Heap) (locs : List Loc) (ls : Array Slot) (lv : List (Nat × Value)) (rest : List Value) (w : Nat), lv_has ls M.2.2.1 lv → i < M.2.2.1 →
      (∀ ls' : Array Slot, lv_has ls' M.2.2.1 ((i, .ref w) :: lv.filter (fun q => !(q.1 == i) && !(q.1 + 1 == i && q.2.category == 2))) → W p l e R s m args below meth c H locs cells slots Q (F0 m pc' ls' rest)) → W p l e R s m args below meth c H locs cells slots Q (F0 m pc ls (.ref w :: rest)))
    (k : ∀ st ∈ ss, ai_G TY WR w0 ad M p l e R s m args below meth c D tys A b L sx cells slots Q r0 st) : ai_G TY WR w0 ad M p l e R s m args below meth c D tys A b L sx cells slots Q r0 (pc, lo, sk, en, kn, sb) := by
  unfold ai_ns1 at hq
  split at hq
  · split at hq
    · rename_i ht
      cases hq
      refine ai_Jst1 (fun H locs ls lv rest w r a1 a2 a3 => ?_) (k _ (List.mem_singleton.mpr rfl))
      obtain ⟨j, rfl⟩ := ai_isA a2 ht.1
      exact row H locs ls lv rest j a1 ht.2 a3
    · cases hq
  · cases hq
def ai_ns2 (nL i : Nat) (pc' : Nat) (lo : List (Nat × ai_v)) (sk : List ai_v) (en : List ai_e) (kn : List ai_k) (sb : List ai_b) : Option (List ai_s) := match sk with
  | v :: k => if ai_tL v.1 = true ∧ i + 1 < nL then some [(pc', ai_st2 lo i v, k, en, kn, sb)] else none
  | _ => none
theorem ai_ns2L {i : Nat} (hq : ai_ns2 M.2.2.1 i pc' lo sk en kn sb = some ss)
    (row : ∀ (H : Heap) (locs : List Loc) (ls : Array Slot) (lv : List (Nat × Value)) (rest : List Value) (w : Int64), lv_has ls M.2.2.1 lv → i + 1 < M.2.2.1 →
      (∀ ls' : Array Slot, lv_has ls' M.2.2.1 ((i, .long w) :: lv.filter (fun q => !(q.1 == i) && (!(q.1 == i + 1) && !(q.1 + 1 == i && q.2.category == 2)))) → W p l e R s m args below meth c H locs cells slots Q (F0 m pc' ls' rest)) → W p l e R s m args below meth c H locs cells slots Q (F0 m pc ls (.long w :: rest)))
    (k : ∀ st ∈ ss, ai_G TY WR w0 ad M p l e R s m args below meth c D tys A b L sx cells slots Q r0 st) : ai_G TY WR w0 ad M p l e R s m args below meth c D tys A b L sx cells slots Q r0 (pc, lo, sk, en, kn, sb) := by
  unfold ai_ns2 at hq
  split at hq
  · split at hq
    · rename_i ht
      cases hq
      refine ai_Jst2 (fun H locs ls lv rest w r a1 a2 a3 => ?_) (k _ (List.mem_singleton.mpr rfl))
      obtain ⟨j, rfl⟩ := ai_isL a2 ht.1
      exact row H locs ls lv rest j a1 ht.2 a3
    · cases hq
  · cases hq
/-- branches -/
def ai_tg (pc : Nat) (off : Int) : Option Nat := if 0 ≤ (pc : Int) + off then some ((pc : Int) + off).toNat else none
theorem ai_tg_ok {off : Int} {t : Nat} (h : ai_tg pc off = some t) : (pc : Int) + off = (t : Int) := by
  unfold ai_tg at h
  split at h
  · cases h
    omega
  · cases h
def ai_nb1 (op : Nat) (off : Int) (pc : Nat) (lo : List (Nat × ai_v)) (sk : List ai_v) (en : List ai_e) (kn : List ai_k) (sb : List ai_b) : Option (List ai_s) := match sk with
  | x :: k => (ai_tg pc off).bind fun t => (ai_c1 en x).map fun q => ai_br en op q t (pc + 3) lo k kn sb
  | _ => none
theorem ai_nb1_ok {op : Nat} {off : Int} (P : Int32 → Prop) (hP : ∀ (i : Int32) (za zb : Int), (i.toInt < 0 ↔ za < zb) → (i.toInt = 0 ↔ za = zb) → (P i → ai_rel op za zb) ∧ (¬ P i → ai_rel (ai_neg op) za zb)) (hq : ai_nb1 op off pc lo sk en kn sb = some ss)
    (row : ∀ (H : Heap) (locs : List Loc) (ls : Array Slot) (rest : List Value) (i : Int32) (tgt : Nat), (pc : Int) + off = (tgt : Int) → (P i → W p l e R s m args below meth c H locs cells slots Q (F0 m tgt ls rest)) → (¬ P i → W p l e R s m args below meth c H locs cells slots Q (F0 m (pc + 3) ls rest)) → W p l e R s m args below meth c H locs cells slots Q (F0 m pc ls (.int i :: rest)))
    (k : ∀ st ∈ ss, ai_G TY WR w0 ad M p l e R s m args below meth c D tys A b L sx cells slots Q r0 st) : ai_G TY WR w0 ad M p l e R s m args below meth c D tys A b L sx cells slots Q r0 (pc, lo, sk, en, kn, sb) := by
  unfold ai_nb1 at hq
  split at hq
  · obtain ⟨t, h1, hq⟩ := Option.bind_eq_some_iff.mp hq
    obtain ⟨q, h2, rfl⟩ := Option.map_eq_some_iff.mp hq
    exact ai_Jb1 P h2 hP (fun H locs ls rest i a1 a2 => row H locs ls rest i t (ai_tg_ok h1) a1 a2) k
  · cases hq
def ai_nb2 (op : Nat) (off : Int) (pc : Nat) (lo : List (Nat × ai_v)) (sk : List ai_v) (en : List ai_e) (kn : List ai_k) (sb : List ai_b) : Option (List ai_s) := match sk with
  | y :: x :: k => (ai_tg pc off).bind fun t => if x.1 = 1 ∧ y.1 = 1 then some (ai_br en op (x.2.1, y.2.1, y.2.2.2 - x.2.2.2) t (pc + 3) lo k kn sb) else none
  | _ => none
theorem ai_nb2_ok {op : Nat} {off : Int} (P : Int32 → Int32 → Prop) (hP : ∀ (i j : Int32) (za zb : Int), (i.toInt < j.toInt ↔ za < zb) → (i.toInt = j.toInt ↔ za = zb) → (P i j → ai_rel op za zb) ∧ (¬ P i j → ai_rel (ai_neg op) za zb)) (hq : ai_nb2 op off pc lo sk en kn sb = some ss)
    (row : ∀ (H : Heap) (locs : List Loc) (ls : Array Slot) (rest : List Value) (i j : Int32) (tgt : Nat), (pc : Int) + off = (tgt : Int) → (P i j → W p l e R s m args below meth c H locs cells slots Q (F0 m tgt ls rest)) → (¬ P i j → W p l e R s m args below meth c H locs cells slots Q (F0 m (pc + 3) ls rest)) → W p l e R s m args below meth c H locs cells slots Q (F0 m pc ls (.int j :: .int i :: rest)))
    (k : ∀ st ∈ ss, ai_G TY WR w0 ad M p l e R s m args below meth c D tys A b L sx cells slots Q r0 st) : ai_G TY WR w0 ad M p l e R s m args below meth c D tys A b L sx cells slots Q r0 (pc, lo, sk, en, kn, sb) := by
  unfold ai_nb2 at hq
  split at hq
  · obtain ⟨t, h1, hq⟩ := Option.bind_eq_some_iff.mp hq
    split at hq
    · rename_i ht
      cases hq
      exact ai_Jb2 P ht.1 ht.2 hP (fun H locs ls rest i j a1 a2 => row H locs ls rest i j t (ai_tg_ok h1) a1 a2) k
    · cases hq
  · cases hq
theorem ai_P1 (i : Int32) (za zb : Int) (h1 : i.toInt < 0 ↔ za < zb) (h2 : i.toInt = 0 ↔ za = zb) :
    ((i = 0 → za = zb) ∧ (¬ i = 0 → za ≠ zb)) ∧ ((i < 0 → za < zb) ∧ (¬ i < 0 → zb ≤ za)) ∧ ((0 < i → zb < za) ∧ (¬ 0 < i → za ≤ zb)) ∧ ((0 ≤ i → zb ≤ za) ∧ (¬ 0 ≤ i → za < zb)) ∧ ((i ≤ 0 → za ≤ zb) ∧ (¬ i ≤ 0 → zb < za)) := by
  have e0 : (0 : Int32).toInt = 0 := rfl
  simp only [Int32.lt_iff_toInt_lt, Int32.le_iff_toInt_le, ← Int32.toInt_inj, e0]
  omega
theorem ai_P2' (i j : Int32) (za zb : Int) (h1 : i.toInt < j.toInt ↔ za < zb) (h2 : i.toInt = j.toInt ↔ za = zb) :
    ((i = j → za = zb) ∧ (¬ i = j → za ≠ zb)) ∧ ((i < j → za < zb) ∧ (¬ i < j → zb ≤ za)) ∧ ((j < i → zb < za) ∧ (¬ j < i → za ≤ zb)) ∧ ((j ≤ i → zb ≤ za) ∧ (¬ j ≤ i → za < zb)) ∧ ((i ≤ j → za ≤ zb) ∧ (¬ i ≤ j → zb < za)) := by
  simp only [Int32.lt_iff_toInt_lt, Int32.le_iff_toInt_le, ← Int32.toInt_inj]
  omega
/-- a switch by pairs -/
def ai_nlk (dflt : Int) (ps : List (Int × Int)) (pc : Nat) (lo : List (Nat × ai_v)) (sk : List ai_v) (en : List ai_e) (kn : List ai_k) (sb : List ai_b) : Option (List ai_s) := match sk with
  | x :: k => if x.1 = 1 ∧ (ps.zip (ps.drop 1)).all (fun (a, next) => a.1 < next.1) = true ∧ 0 ≤ (pc : Int) + dflt ∧ (ps.all fun q => decide (0 ≤ (pc : Int) + q.2)) = true then
      some ((((pc : Int) + dflt).toNat, lo, k, en, kn, sb) :: ps.flatMap fun q => ai_sw en x.2.1 x.2.2.2 pc lo k kn sb 0 q.1 q.2) else none
  | _ => none
theorem ai_offs (d z : Int) : ∀ ps : List (Int × Int), Op.lookupswitch.offset ps d z = d ∨ ∃ q ∈ ps, q.1 = z ∧ Op.lookupswitch.offset ps d z = q.2
  | [] => Or.inl rfl
  | q :: r => by
    have e : Op.lookupswitch.offset (q :: r) d z = if q.1 = z then q.2 else Op.lookupswitch.offset r d z := rfl
    rw [e]
    by_cases h : q.1 = z
    · rw [if_pos h]
      exact Or.inr ⟨q, List.mem_cons_self, h, rfl⟩
    · rw [if_neg h]
      rcases ai_offs d z r with h1 | ⟨q1, a1, a2, a3⟩
      · exact Or.inl h1
      · exact Or.inr ⟨q1, List.mem_cons_of_mem _ a1, a2, a3⟩
theorem ai_nlk_ok (C : ai_cx M d p R s m args c D tys A b L sx cells slots) {dflt : Int} {ps : Array (Int × Int)} {len : Nat} (hz : ai_z en = true) (hd : decode M.2.1 pc = .ok (.lookupswitch dflt ps, len)) (hq : ai_nlk dflt ps.toList pc lo sk en kn sb = some ss) (k : ∀ st ∈ ss, ai_G TY WR w0 ad M p l e R s m args below meth c D tys A b L sx cells slots Q r0 st) : ai_G TY WR w0 ad M p l e R s m args below meth c D tys A b L sx cells slots Q r0 (pc, lo, sk, en, kn, sb) := by
  unfold ai_nlk at hq
  split at hq
  · rename_i x sk' 
    split at hq
    · rename_i hc
      obtain ⟨c1, c2, c3, c4⟩ := hc
      cases hq
      intro r lv skc ws H locs ls hx g hP' hD hS hl
      obtain ⟨g1, g2, g3, g4, g5, g6, g7, g8⟩ := g
      obtain ⟨vx, s2, rfl, dx, k5⟩ := g4.cons
      rcases dx with ⟨q, -⟩ | ⟨-, za, i, a1, rfl, a3⟩ | ⟨q, -⟩ | ⟨q, -⟩ | ⟨q, -⟩
      · omega
      · rcases ai_offs dflt i.toInt ps.toList with ho | ⟨q, q1, q2, ho⟩
        · exact lv_lookup (tgt := ((pc : Int) + dflt).toNat) C.1 C.2.1 hd c2 ho (by omega) (k _ List.mem_cons_self r lv _ ws H locs ls hx ⟨g1, g2, g3, k5, g5, g6, g7, g8⟩ hP' hD hS hl)
        · have := List.all_eq_true.mp c4 q q1
          simp only [decide_eq_true_eq] at this
          obtain ⟨en1, e1, e2⟩ := ai_rf_ok (op := 0) (o := q.1 - x.2.2.2) g1 a1 (ai_z_ok g1 hz) (show za = 0 + (q.1 - x.2.2.2) by omega)
          exact lv_lookup (tgt := ((pc : Int) + q.2).toNat) C.1 C.2.1 hd c2 ho (by omega) (k (((pc : Int) + q.2).toNat, lo, sk', en1, kn, sb) (List.mem_cons_of_mem _ (List.mem_flatMap.mpr ⟨q, q1, by unfold ai_sw; rw [e1]; exact List.mem_singleton.mpr rfl⟩)) r lv _ ws H locs ls hx ⟨e2, g2, g3, k5, g5, g6, g7, g8⟩ hP' hD hS hl)
      all_goals omega
    · cases hq
  · cases hq
/-- what is known of the first n places of row a, as of row b -/
def ai_cpk (kn : List ai_k) (a b n : Nat) : List ai_k := (kn.filter fun q => Nat.beq q.1 a && Nat.blt q.2.1 n).map fun q => (b, q.2.1, q.2.2)
/-- a row copied into another of the same bounds: what was known of it is known there -/
def ai_ncp (TY : List ai_c) (WR : List (Nat × Nat × Nat)) (pc' : Nat) (lo : List (Nat × ai_v)) (sk : List ai_v) (en : List ai_e) (kn : List ai_k) (sb : List ai_b) : Option (List ai_s) := match sk with
  | n :: dp :: ds :: sp :: sr :: k => (TY[sr.2.1]?).bind fun t0 => (TY[ds.2.1]?).bind fun t1 => (ai_i en n).bind fun pn => (ai_i en dp).bind fun pd => (ai_i en sp).bind fun ps =>
      if sr.1 = 0 ∧ ds.1 = 0 ∧ t0.1 = 1 ∧ t1.1 = 1 ∧ t0.2.2 = t1.2.2 ∧ pd = (0, 0) ∧ ps = (0, 0) ∧ pn.1 = pn.2 ∧ 0 < pn.1 ∧ pn.1 ≤ t0.2.1 ∧ pn.1 ≤ t1.2.1 ∧ ai_wr WR ds.2.1 0 (pn.1.toNat - 1) = true ∧ (k.map fun v => if v.1 = 2 then 2 else 1).sum ≤ 8 then
        some [(pc', lo, k, en, ai_cpk kn sr.2.1 ds.2.1 pn.1.toNat ++ ai_dr kn ds.2.1 0 (pn.1.toNat - 1), sb)] else none
  | _ => none
theorem ai_sum {r : List Int} : ∀ {vs : List ai_v} {ys : List Value}, ai_sk ad b r vs ys → (ys.map fun v => v.category).sum = (vs.map fun v => if v.1 = 2 then 2 else 1).sum
  | [], [], _ => rfl
  | [], _ :: _, h => h.elim
  | _ :: _, [], h => h.elim
  | v :: vs, y :: ys, h => by
    rw [List.map_cons, List.map_cons, List.sum_cons, List.sum_cons, ai_sum h.2, h.1.cat]
theorem ai_ncp_ok (C : ai_cx M d p R s m args c D tys A b L sx cells slots) {idx : Nat} (hd1 : 1 ≤ d) (hw1 : Cond.methodLink M.1.cls idx arraycopyName ∈ ai_GT) (hw2 : Cond.native arraycopyName ∈ ai_GT) (hw3 : Cond.static arraycopyName ∈ ai_GT) (hw4 : Cond.initialized "java/lang/System" ∈ ai_GT) (hd : decode M.2.1 pc = .ok (.invokestatic idx, 3))
    (hq : ai_ncp TY WR (pc + 3) lo sk en kn sb = some ss) (k : ∀ st ∈ ss, ai_G TY WR w0 ad M p l e R s m args below meth c D tys A b L sx cells slots Q r0 st) : ai_G TY WR w0 ad M p l e R s m args below meth c D tys A b L sx cells slots Q r0 (pc, lo, sk, en, kn, sb) := by
  unfold ai_ncp at hq
  split at hq
  · rename_i n dp ds sp sr sk'
    obtain ⟨t0, h0, hq⟩ := Option.bind_eq_some_iff.mp hq
    obtain ⟨t1, h1, hq⟩ := Option.bind_eq_some_iff.mp hq
    obtain ⟨pn, h2, hq⟩ := Option.bind_eq_some_iff.mp hq
    obtain ⟨pd, h3, hq⟩ := Option.bind_eq_some_iff.mp hq
    obtain ⟨ps, h4, hq⟩ := Option.bind_eq_some_iff.mp hq
    split at hq
    · rename_i hc
      obtain ⟨c1, c2, c3, c4, c5, c6, c7, c8, c9, c10, c11, c12, c13⟩ := hc
      injection hq with hq
      subst hq
      subst c6
      subst c7
      intro r lv skc ws H locs ls hx g hP' hD hS hl
      obtain ⟨g1, g2, g3, g4, g5, g6, g7, g8⟩ := g
      obtain ⟨w1, s1, rfl, d1, k1⟩ := g4.cons
      obtain ⟨w2, s2, rfl, d2, k2⟩ := k1.cons
      obtain ⟨w3, s3, rfl, d3, k3⟩ := k2.cons
      obtain ⟨w4, s4, rfl, d4, k4⟩ := k3.cons
      obtain ⟨w5, s5, rfl, d5, k5⟩ := k4.cons
      obtain ⟨-, -, i1, -, rfl, -, a1, a2⟩ := ai_i_ok g1 d1 h2
      obtain ⟨-, -, i2, -, rfl, -, a3, a4⟩ := ai_i_ok g1 d2 h3
      obtain ⟨-, -, i4, -, rfl, -, a5, a6⟩ := ai_i_ok g1 d4 h4
      obtain ⟨q0, e0, x1, x2, x3⟩ := g5.get h0
      obtain ⟨q1, e1, y1, y2, y3⟩ := g5.get h1
      cases ai_ref0 d5 c1 x2
      cases ai_ref0 d3 c2 y2
      have z2 : i2 = 0 := Int32.toInt_inj.mp (by show i2.toInt = 0; dsimp only at a3 a4; omega)
      have z4 : i4 = 0 := Int32.toInt_inj.mp (by show i4.toInt = 0; dsimp only at a5 a6; omega)
      subst z2
      subst z4
      have en1 : (i1.toNatClampNeg : Int) = i1.toInt := by
        show ((i1.toInt.toNat : Nat) : Int) = i1.toInt
        omega
      rcases x3 with ⟨q, -⟩ | ⟨-, cA, f, rfl, ⟨u0, f1⟩, f2⟩ | ⟨q, -⟩ | ⟨q, -⟩
      · omega
      · rcases y3 with ⟨q, -⟩ | ⟨t10, cB, f', rfl, ⟨u1, f3⟩, f4⟩ | ⟨q, -⟩ | ⟨q, -⟩
        · omega
        · rw [c3] at f1
          have f3' := f3
          rw [c4] at f3
          have hlt : ¬ i1 < 0 := by
            rw [Int32.lt_iff_toInt_lt]
            show ¬ i1.toInt < 0
            omega
          have hsum := ai_sum k5
          refine va_copyi C.1 C.2.1 (by rw [C.2.2.1, hl.1]) C.2.2.2.1 (C.2.2.2.2.1 _ hw1) (C.2.2.2.2.1 _ hw2) (C.2.2.2.2.1 _ hw3) (C.2.2.2.2.1 _ hw4) C.2.2.2.2.2.2.1 hP' hD hS sr.2.1 ds.2.1 u0 u1 x1 y1 f1 f3 rfl (by decide) (by decide) hlt (by show 0 + i1.toNatClampNeg ≤ t0.2.1; omega) (by show 0 + i1.toNatClampNeg ≤ t1.2.1; omega) (fun _ _ => rfl) ?_ ?_ hd (fun H1 locs1 hP1 hD1 hS1 => ?_)
          · have := C.2.2.2.2.2.2.2.2.1.1
            omega
          · have := C.2.2.2.2.2.2.2.2.1.2.1
            rw [hsum, show nativeFrameWords "java/lang/System" "arraycopy" 5 = 7 from by decide]
            omega
          · have key : ∀ j : Nat, (pn.1.toNat - 1 < j) → va_cpy f f' (0 : Int32).toNatClampNeg (0 : Int32).toNatClampNeg i1.toNatClampNeg j = f' j := fun j hj => by
              unfold va_cpy
              rw [if_neg]
              show ¬ (0 ≤ j ∧ j < 0 + i1.toNatClampNeg)
              omega
            refine k _ (List.mem_singleton.mpr rfl) r lv _ _ H1 locs1 ls hx ⟨g1, g2, g3, k5, ?_, ?_, ?_, g8⟩ hP1 hD1 hS1 hl
            · refine g5.set h1 y1 (Or.inr (Or.inl ⟨t10, cB, _, rfl, ⟨u1, f3'⟩, fun j q hj hp => ?_⟩))
              by_cases hjn : j < i1.toNatClampNeg
              · have ej : va_cpy f f' (0 : Int32).toNatClampNeg (0 : Int32).toNatClampNeg i1.toNatClampNeg j = f j := by
                  show (if 0 ≤ j ∧ j < 0 + i1.toNatClampNeg then f (0 + (j - 0)) else f' j) = f j
                  rw [if_pos (by omega), show 0 + (j - 0) = j by omega]
                rw [ej]
                exact f2 j q (by omega) (by rw [c5]; exact hp)
              · rw [key j (by omega)]
                exact f4 j q hj hp
            · intro q hq
              rcases List.mem_append.mp hq with hq | hq
              · unfold ai_cpk at hq
                obtain ⟨q', hq', rfl⟩ := List.mem_map.mp hq
                obtain ⟨m1, m2⟩ := List.mem_filter.mp hq'
                rw [Bool.and_eq_true, ai_beq] at m2
                obtain ⟨m2, m3⟩ := m2
                have m3 : q'.2.1 < pn.1.toNat := Nat.le_of_ble_eq_true m3
                obtain ⟨u, u1, u2⟩ := g6 q' m1
                have hu : u = .int (f q'.2.1) := by
                  rw [m2] at u1
                  exact u1.fun ⟨_, _, x1, Or.inr ⟨_, _, _, rfl, by omega, rfl⟩⟩
                subst hu
                refine ⟨_, ⟨_, _, List.getElem?_set_self (List.getElem?_eq_some_iff.mp y1).1, Or.inr ⟨_, _, _, rfl, by show q'.2.1 < t1.2.1; omega, ?_⟩⟩, u2⟩
                show Value.int (f q'.2.1) = Value.int (if 0 ≤ q'.2.1 ∧ q'.2.1 < 0 + i1.toNatClampNeg then f (0 + (q'.2.1 - 0)) else f' q'.2.1)
                rw [if_pos (by omega), show 0 + (q'.2.1 - 0) = q'.2.1 by omega]
              · obtain ⟨m1, m2⟩ := ai_dr_in hq
                obtain ⟨u, u1, u2⟩ := g6 q m1
                exact ⟨u, u1.setA (j := 0) y1 (fun hcc _ => key _ (by have := m2 hcc; omega)), u2⟩
            · intro c' i' u hu h0
              refine (g7 c' i' u hu h0).setA (j := 0) y1 (fun hcc _ => key _ ?_)
              subst hcc
              rcases Nat.lt_or_ge (pn.1.toNat - 1) i' with hh | hh
              · exact hh
              · rw [ai_wr_in c12 (by omega) hh] at hu
                cases hu
        · omega
        · omega
      · omega
      · omega
    · cases hq
  · cases hq
end AIN
