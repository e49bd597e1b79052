/-! a walk that knows pieces of itself: (method, least depth, state, ends) -/
def mm_ev (a b : ai_v) : Bool := Nat.beq a.1 b.1 && Nat.beq a.2.1 b.2.1 && Nat.beq a.2.2.1 b.2.2.1 && decide (a.2.2.2 = b.2.2.2)
theorem mm_ev_ok {a b : ai_v} (h : mm_ev a b = true) : a = b := by
  obtain ⟨a1, a2, a3, a4⟩ := a
  obtain ⟨b1, b2, b3, b4⟩ := b
  simp only [mm_ev, Bool.and_eq_true, decide_eq_true_eq] at h
  obtain ⟨⟨⟨h1, h2⟩, h3⟩, rfl⟩ := h
  cases ai_beq.mp h1
  cases ai_beq.mp h2
  cases ai_beq.mp h3
  rfl
def mm_ee (a b : ai_e) : Bool := decide (a.1 = b.1) && decide (a.2.1 = b.2.1) && decide (a.2.2.1 = b.2.2.1) && Nat.beq a.2.2.2.1 b.2.2.2.1 && decide (a.2.2.2.2 = b.2.2.2.2)
theorem mm_ee_ok {a b : ai_e} (h : mm_ee a b = true) : a = b := by
  obtain ⟨a1, a2, a3, a4, a5⟩ := a
  obtain ⟨b1, b2, b3, b4, b5⟩ := b
  simp only [mm_ee, Bool.and_eq_true, decide_eq_true_eq] at h
  obtain ⟨⟨⟨⟨rfl, rfl⟩, rfl⟩, h4⟩, rfl⟩ := h
  cases ai_beq.mp h4
  rfl
def mm_ek (a b : ai_k) : Bool := Nat.beq a.1 b.1 && Nat.beq a.2.1 b.2.1 && mm_ev a.2.2 b.2.2
theorem mm_ek_ok {a b : ai_k} (h : mm_ek a b = true) : a = b := by
  obtain ⟨a1, a2, a3⟩ := a
  obtain ⟨b1, b2, b3⟩ := b
  simp only [mm_ek, Bool.and_eq_true] at h
  obtain ⟨⟨h1, h2⟩, h3⟩ := h
  cases ai_beq.mp h1
  cases ai_beq.mp h2
  cases mm_ev_ok h3
  rfl
def mm_eo (a b : Nat × ai_v) : Bool := Nat.beq a.1 b.1 && mm_ev a.2 b.2
theorem mm_eo_ok {a b : Nat × ai_v} (h : mm_eo a b = true) : a = b := by
  obtain ⟨a1, a2⟩ := a
  obtain ⟨b1, b2⟩ := b
  simp only [mm_eo, Bool.and_eq_true] at h
  cases ai_beq.mp h.1
  cases mm_ev_ok h.2
  rfl
def mm_eb (a b : ai_b) : Bool := Nat.beq a.1 b.1 && Nat.beq a.2.1 b.2.1 && Nat.beq a.2.2.1 b.2.2.1 && Nat.beq a.2.2.2.1 b.2.2.2.1 && decide (a.2.2.2.2 = b.2.2.2.2)
theorem mm_eb_ok {a b : ai_b} (h : mm_eb a b = true) : a = b := by
  obtain ⟨a1, a2, a3, a4, a5⟩ := a
  obtain ⟨b1, b2, b3, b4, b5⟩ := b
  simp only [mm_eb, Bool.and_eq_true, decide_eq_true_eq] at h
  obtain ⟨⟨⟨⟨h1, h2⟩, h3⟩, h4⟩, rfl⟩ := h
  cases ai_beq.mp h1
  cases ai_beq.mp h2
  cases ai_beq.mp h3
  cases ai_beq.mp h4
  rfl
def mm_el {α : Type} (f : α → α → Bool) : List α → List α → Bool
  | [], [] => true
  | a :: l, b :: m => f a b && mm_el f l m
  | _, _ => false
theorem mm_el_ok {α : Type} {f : α → α → Bool} (hf : ∀ {a b : α}, f a b = true → a = b) : ∀ {l m : List α}, mm_el f l m = true → l = m
  | [], [], _ => rfl
  | [], _ :: _, h => by cases h
  | _ :: _, [], h => by cases h
  | a :: l, b :: m, h => by
    simp only [mm_el, Bool.and_eq_true] at h
    rw [hf h.1, mm_el_ok hf h.2]
def mm_es (a b : ai_s) : Bool := Nat.beq a.1 b.1 && mm_el mm_eo a.2.1 b.2.1 && mm_el mm_ev a.2.2.1 b.2.2.1 && mm_el mm_ee a.2.2.2.1 b.2.2.2.1 && mm_el mm_ek a.2.2.2.2.1 b.2.2.2.2.1 && mm_el mm_eb a.2.2.2.2.2 b.2.2.2.2.2
theorem mm_es_ok {a b : ai_s} (h : mm_es a b = true) : a = b := by
  obtain ⟨a1, a2, a3, a4, a5, a6⟩ := a
  obtain ⟨b1, b2, b3, b4, b5, b6⟩ := b
  simp only [mm_es, Bool.and_eq_true] at h
  obtain ⟨⟨⟨⟨⟨h1, h2⟩, h3⟩, h4⟩, h5⟩, h6⟩ := h
  cases ai_beq.mp h1
  cases mm_el_ok mm_eo_ok h2
  cases mm_el_ok mm_ev_ok h3
  cases mm_el_ok mm_ee_ok h4
  cases mm_el_ok mm_ek_ok h5
  cases mm_el_ok mm_eb_ok h6
  rfl
abbrev mm_e : Type := Nat × Nat × ai_s × List ai_s
def mm_f (ms : List mm_e) (mid d : Nat) (st : ai_s) : Option (List ai_s) := (ms.find? fun e => Nat.beq e.2.2.1.1 st.1 && Nat.beq e.1 mid && Nat.ble e.2.1 d && mm_es e.2.2.1 st).map fun e => e.2.2.2
noncomputable def mm_b0 (K : ai_K) (ms : List mm_e) (rec : ai_R) : ai_R := fun mid M d cu st => match mm_f ms mid d st with
  | some xs => some xs
  | none => ai_body0 K rec mid M d cu st
noncomputable def mm_b (K : ai_K) (ms : List mm_e) (rec : ai_R) : ai_R := fun mid M d cu st => ai_norm st (mm_b0 K ms rec mid M d cu)
noncomputable def mm_x (ms : List mm_e) (n : Nat) : ai_R := Nat.rec (fun _ _ _ _ _ => none) (fun _ rec => mm_b tb_K ms rec) n
def mm_ok (e : mm_e) : Prop := ai_SR tb_TY tb_WR tb_MT (fun mid _ d _ st => if (Nat.beq e.1 mid && Nat.ble e.2.1 d && mm_es e.2.2.1 st) = true then some e.2.2.2 else none)
theorem mm_x_ok {ms : List mm_e} (hms : ∀ e ∈ ms, mm_ok e) : ∀ n, ai_SR tb_TY tb_WR tb_MT (mm_x ms n)
  | 0 => fun mid d cu st ys M hq => by cases hq
  | n + 1 => by
    intro mid d cu st ys M hq hM w0 ad p l e R s m args below meth c D tys A b L sx cells slots Q r0 C k
    have hq : mm_b tb_K ms (mm_x ms n) mid M d cu st = some ys := hq
    unfold mm_b at hq
    rw [ai_norm_eq] at hq
    unfold mm_b0 at hq
    split at hq
    · rename_i xs hx
      injection hq with hq
      subst hq
      unfold mm_f at hx
      obtain ⟨e1, he, rfl⟩ := Option.map_eq_some_iff.mp hx
      have h1 := List.find?_some he
      have h2 := List.mem_of_find?_eq_some he
      simp only [Bool.and_eq_true, decide_eq_true_eq] at h1
      exact hms e1 h2 mid d cu st _ M (if_pos (by simp only [Bool.and_eq_true]; exact ⟨⟨h1.1.1.2, h1.1.2⟩, h1.2⟩)) hM C k
    · exact ai_body_ok (K := tb_K) su_ok (mm_x_ok hms n) tv_MT mid d cu st ys M (by unfold ai_body; rw [ai_norm_eq]; exact hq) hM C k
theorem mm_cx {M : ai_m} {d d' : Nat} {p : Program} {R : Room} {s : State} {m : MethodId} {args : Array Value} {c : Code} {D : va_G} {tys : ai_ty} {A : Nat → Prop} {b L : Nat} {sx : Nat → Int32} {cells slots : Nat} (h : d' ≤ d) (C : ai_cx M d p R s m args c D tys A b L sx cells slots) : ai_cx M d' p R s m args c D tys A b L sx cells slots :=
  ⟨C.1, C.2.1, C.2.2.1, C.2.2.2.1, C.2.2.2.2.1, C.2.2.2.2.2.1, C.2.2.2.2.2.2.1, C.2.2.2.2.2.2.2.1, ⟨Nat.le_trans h C.2.2.2.2.2.2.2.2.1.1, Nat.le_trans (Nat.mul_le_mul_left 36 h) C.2.2.2.2.2.2.2.2.1.2.1, C.2.2.2.2.2.2.2.2.1.2.2⟩, C.2.2.2.2.2.2.2.2.2⟩
noncomputable def mm_c (ms : List mm_e) (cu : List Nat) (M : ai_m) (e : mm_e) : Bool := (mm_x ms 5000 e.1 M e.2.1 cu e.2.2.1).any fun xs => mm_el mm_es xs e.2.2.2
theorem mm_mk {ms : List mm_e} {cu : List Nat} {M : ai_m} {e : mm_e} (hms : ∀ e ∈ ms, mm_ok e) (hM : tb_MT[e.1]? = some M) (h : mm_c ms cu M e = true) : mm_ok e := by
  intro mid d cu' st ys M' hq hM' w0 ad p l en R s m args below meth c D tys A b L sx cells slots Q r0 C k
  dsimp only at hq
  split at hq
  · rename_i hc
    simp only [Bool.and_eq_true] at hc
    have hd := Nat.le_of_ble_eq_true hc.1.2
    have h3 := ai_beq.mp hc.1.1
    subst h3
    have h4 := mm_es_ok hc.2
    subst h4
    injection hq with hq
    subst hq
    rw [hM] at hM'
    injection hM' with hM'
    subst hM'
    unfold mm_c at h
    obtain ⟨xs, h1, h2⟩ := ai_anyE h
    have h2 := mm_el_ok mm_es_ok h2
    subst h2
    exact mm_x_ok hms 5000 e.1 e.2.1 cu e.2.2.1 _ M h1 hM (mm_cx hd C) k
  · cases hq
