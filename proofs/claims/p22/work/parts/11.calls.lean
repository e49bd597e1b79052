/-! calls: a method's walk gives its contract -/
def ai_args : Nat → List ai_v → List (Nat × ai_v)
  | _, [] => []
  | i, v :: vs => (i, v) :: ai_args (if v.1 = 2 then i + 2 else i + 1) vs
def ai_wd1 (v : ai_v) : Nat := if v.1 = 2 then 2 else 1
theorem ai_args_ok {ad : List Nat} {b : Nat} {r : List Int} : ∀ {vs : List ai_v} {ys : List Value} (i : Nat), ai_sk ad b r vs ys → ai_lo ad b r (ai_args i vs) (lv_args i ys)
  | [], [], _, _ => trivial
  | [], _ :: _, _, h => h.elim
  | _ :: _, [], _, h => h.elim
  | v :: vs, y :: ys, i, h => by
    refine ⟨rfl, h.1, ?_⟩
    have e : (if y.category = 2 then i + 2 else i + 1) = if v.1 = 2 then i + 2 else i + 1 := by
      rw [h.1.cat]
      by_cases hv : v.1 = 2
      · rw [if_pos hv, if_pos hv, if_pos rfl]
      · rw [if_neg hv, if_neg hv, if_neg (by decide)]
    rw [e]
    exact ai_args_ok _ h.2
theorem ai_words {ad : List Nat} {b : Nat} {r : List Int} : ∀ {vs : List ai_v} {ys : List Value}, ai_sk ad b r vs ys → (lg_sl ys).length = (vs.map ai_wd1).sum
  | [], [], _ => rfl
  | [], _ :: _, h => h.elim
  | _ :: _, [], h => h.elim
  | v :: vs, y :: ys, h => by
    have ih := ai_words h.2
    unfold lg_sl at ih ⊢
    rw [List.flatMap_cons, List.length_append, ih, List.map_cons, List.sum_cons, h.1.cat]
    unfold ai_wd1
    by_cases hv : v.1 = 2
    · rw [if_pos hv, if_pos rfl]; rfl
    · rw [if_neg hv, if_neg (by decide)]; rfl
theorem ai_sk.app {ad : List Nat} {b : Nat} {r : List Int} : ∀ {vs us : List ai_v} {zs : List Value}, ai_sk ad b r (vs ++ us) zs → ∃ xs ys, zs = xs ++ ys ∧ ai_sk ad b r vs xs ∧ ai_sk ad b r us ys
  | [], _, zs, h => ⟨[], zs, rfl, trivial, h⟩
  | v :: vs, us, [], h => h.elim
  | v :: vs, us, z :: zs, h => by
    obtain ⟨xs, ys, rfl, h1, h2⟩ := ai_sk.app (vs := vs) h.2
    exact ⟨z :: xs, ys, rfl, ⟨h.1, h1⟩, h2⟩
theorem ai_sk.join {ad : List Nat} {b : Nat} {r : List Int} : ∀ {vs us : List ai_v} {xs ys : List Value}, ai_sk ad b r vs xs → ai_sk ad b r us ys → ai_sk ad b r (vs ++ us) (xs ++ ys)
  | [], _, [], _, _, h => h
  | [], _, _ :: _, _, h, _ => h.elim
  | _ :: _, _, [], _, h, _ => h.elim
  | _ :: _, _, _ :: _, _, h, k => ⟨h.1, ai_sk.join h.2 k⟩
theorem ai_sk.rev {ad : List Nat} {b : Nat} {r : List Int} : ∀ {vs : List ai_v} {xs : List Value}, ai_sk ad b r vs xs → ai_sk ad b r vs.reverse xs.reverse
  | [], [], _ => trivial
  | [], _ :: _, h => h.elim
  | _ :: _, [], h => h.elim
  | v :: vs, x :: xs, h => by
    rw [List.reverse_cons, List.reverse_cons]
    exact (ai_sk.rev h.2).join ⟨h.1, trivial⟩
theorem ai_sk.len {ad : List Nat} {b : Nat} {r : List Int} : ∀ {vs : List ai_v} {xs : List Value}, ai_sk ad b r vs xs → xs.length = vs.length
  | [], [], _ => rfl
  | [], _ :: _, h => h.elim
  | _ :: _, [], h => h.elim
  | v :: vs, x :: xs, h => by rw [List.length_cons, List.length_cons, ai_sk.len h.2]
def ai_rm (d : Nat) : Room := { frames := d, cells := 0, slots := 0, locals := 36 * d }
def ai_ws (M : ai_m) : List Cond := Cond.code M.1 M.2.1 M.2.2.1 M.2.2.2.1 :: ai_GT
/-- a walk's end at an instruction that returns -/
def ai_rt (M : ai_m) (x : ai_s) : Bool := match (M.2.2.2.2.2.1.find? fun q => Nat.beq q.1 x.1) with
  | some (_, ins, len) => (match ins, len, M.2.2.2.1, x.2.2.1 with
    | .return_, 1, none, [] => true
    | .ireturn, 1, some .int, [v] => ai_tI v.1
    | .ireturn, 1, some .boolean, [v] => (ai_i x.2.2.2.1 v).any fun p => decide (0 ≤ p.1) && decide (p.2 ≤ 1)
    | .lreturn, 1, some .long, [v] => ai_tL v.1
    | .areturn, 1, some (.object _), [v] => ai_tA v.1
    | _, _, _, _ => false)
  | none => false
def ai_Qc (TY : List ai_c) (WR : List (Nat × Nat × Nat)) (w0 : va_W) (ad : List Nat) (b L : Nat) (sx : Nat → Int32) (tys : ai_ty) (D : va_G) (A : Nat → Prop) (r : List Int) (xs : List ai_s) : Array Value → State → Outcome → State → Prop := fun _ st oc t =>
  (∃ x ∈ xs, ∃ (r' : List Int) (lv : List (Nat × Value)) (sk : List Value) (ws : va_W), ai_x r r' ∧ ai_gm TY WR w0 ad b L sx tys false r' x lv sk ws ∧ va_P D vwCl ws t.heap ∧ va_D A ws ∧ oc = .returned sk.head?) ∧ va_F A st t
abbrev ai_R : Type := Nat → ai_m → Nat → List Nat → ai_s → Option (List ai_s)
def ai_SR (TY : List ai_c) (WR : List (Nat × Nat × Nat)) (MT : List ai_m) (rec : ai_R) : Prop := ∀ (mid d : Nat) (cu : List Nat) (st : ai_s) (xs : List ai_s) (M : ai_m), rec mid M d cu st = some xs → MT[mid]? = some M →
  ∀ {w0 : va_W} {ad : List Nat} {p : Program} {l : Launch} {e : Env} {R : Room} {s : State} {m : MethodId} {args : Array Value} {below : List Frame} {meth : Method} {c : Code} {D : va_G} {tys : ai_ty} {A : Nat → Prop} {b L : Nat} {sx : Nat → Int32} {cells slots : Nat} {Q : State → Prop} {r0 : List Int},
    ai_cx M d p R s m args c D tys A b L sx cells slots → (∀ x ∈ xs, ai_G TY WR w0 ad M p l e R s m args below meth c D tys A b L sx cells slots Q r0 x) → ai_G TY WR w0 ad M p l e R s m args below meth c D tys A b L sx cells slots Q r0 st
theorem ai_NW_on : ∀ w ∈ ai_NW, ∃ a i y h, w = Cond.methodLinkNest a i y h := by
  intro w hw
  have h := (List.mem_filter.mp hw).2
  split at h
  · exact ⟨_, _, _, _, rfl⟩
  · cases h
theorem ai_goodGT : ∀ w ∈ ai_GT, goodWord w = true := fun w h => (List.mem_filter.mp h).2
theorem ai_goodIn {M : ai_m} (h : Cond.code M.1 M.2.1 M.2.2.1 M.2.2.2.1 ∈ ai_GT) : GoodIn ai_GT (ai_ws M) := fun w hw => by
  rcases List.mem_cons.mp hw with rfl | hw
  · exact ⟨h, good_of_word (ai_goodGT _ h)⟩
  · exact ⟨hw, good_of_word (ai_goodGT _ hw)⟩
section AIC
variable {TY : List ai_c} {WR : List (Nat × Nat × Nat)} {w0 : va_W} {ad : List Nat} {M : ai_m} {d : Nat} {p : Program} {l : Launch} {e : Env} {R : Room} {s : State} {m : MethodId} {args : Array Value} {below : List Frame} {meth : Method} {c : Code} {D : va_G} {tys : ai_ty} {A : Nat → Prop} {b L : Nat} {sx : Nat → Int32} {cells slots : Nat} {Q : State → Prop} {r0 : List Int} {pc pc' : Nat} {lo : List (Nat × ai_v)} {sk : List ai_v} {en en' : List ai_e} {kn kn' : List ai_k} {sb sb' : List ai_b} {x y v : ai_v} {ss : List ai_s}
theorem ai_ret {Qc : Array Value → State → Outcome → State → Prop} {z : ai_s} (C : ai_cx M d p R s m args c D tys A b L sx 0 0) (hM : ai_mok M) (hr : meth.sig.returnType = M.2.2.2.1) (hlocks : meth.locks = false) (hx : ai_rt M z = true)
    (hQ : ∀ (r : List Int) (lv : List (Nat × Value)) (sk : List Value) (ws : va_W) (t : State), ai_x r0 r → ai_gm TY WR w0 ad b L sx tys M.2.2.2.2.1 r z lv sk ws → va_P D vwCl ws t.heap → va_D A ws → va_F A s t → Qc args s (.returned sk.head?) t) :
    ai_G TY WR w0 ad M p l e R s m args below meth c D tys A b L sx 0 0 (MQ below Qc args s 0 0 A) r0 z := by
  intro r lv skc ws H locs ls hxx g hP hD hS hl
  have key : ∀ t : State, t.heap = H → Qc args s (.returned skc.head?) t := fun t ht => hQ r lv skc ws t hxx g (by rw [ht]; exact hP) hD (hS.F ht)
  obtain ⟨g1, g2, g3, g4, g5, g6, g7, g8⟩ := g
  unfold ai_rt at hx
  split at hx
  · rename_i pcq ins len hq
    have h2 := List.find?_some hq
    have h2 := ai_beq.mp h2
    have hd := hM.1 _ (List.mem_of_find?_eq_some hq)
    dsimp only at hd h2
    rw [h2] at hd
    split at hx
    · rename_i h3 h4
      rw [h4] at g4
      cases g4.nil
      exact W.vret C.1 C.2.1 (hr.trans h3) (fun t ht hW => key t ht) hS.2.2 hd hlocks
    · rename_i v h3 h4
      rw [h4] at g4
      obtain ⟨w, s1, hw, dw, k5⟩ := g4.cons
      have hs1 := k5.nil
      subst hs1
      subst hw
      obtain ⟨i, rfl⟩ := ai_isI dw hx
      exact W.iret C.1 C.2.1 (hr.trans h3) (fun t ht hW => key t ht) hS.2.2 hd hlocks
    · rename_i v h3 h4
      rw [h4] at g4
      obtain ⟨w, s1, hw, dw, k5⟩ := g4.cons
      have hs1 := k5.nil
      subst hs1
      subst hw
      obtain ⟨q, hq1, hq2⟩ : ∃ q, ai_i z.2.2.2.1 v = some q ∧ (decide (0 ≤ q.1) && decide (q.2 ≤ 1)) = true := by
        cases hi : ai_i z.2.2.2.1 v with
        | none =>
          rw [hi] at hx
          cases hx
        | some q =>
          rw [hi] at hx
          exact ⟨q, rfl, hx⟩
      simp only [Bool.and_eq_true, decide_eq_true_eq] at hq2
      obtain ⟨-, zz, i, -, rfl, -, i1, i2⟩ := ai_i_ok g1 dw hq1
      have hi : i = 0 ∨ i = 1 := by
        by_cases h0 : i.toInt = 0
        · exact Or.inl (Int32.toInt_inj.mp (by rw [h0]; rfl))
        · exact Or.inr (Int32.toInt_inj.mp (by show i.toInt = 1; omega))
      exact W.zret C.1 C.2.1 (hr.trans h3) (by rcases hi with rfl | rfl <;> rfl) (fun t ht hW => key t ht) hS.2.2 hd hlocks
    · rename_i v h3 h4
      rw [h4] at g4
      obtain ⟨w, s1, hw, dw, k5⟩ := g4.cons
      have hs1 := k5.nil
      subst hs1
      subst hw
      obtain ⟨i, rfl⟩ := ai_isL dw hx
      exact W.lret C.1 C.2.1 (hr.trans h3) (fun t ht hW => key t ht) hS.2.2 hd hlocks
    · rename_i n v h3 h4
      rw [h4] at g4
      obtain ⟨w, s1, hw, dw, k5⟩ := g4.cons
      have hs1 := k5.nil
      subst hs1
      subst hw
      obtain ⟨a, rfl⟩ := ai_isA dw hx
      exact W.aret C.1 C.2.1 (hr.trans h3) (Or.inl ⟨_, rfl⟩) (Or.inr ⟨a, rfl⟩) (fun t ht hW => key t ht) hS.2.2 hd hlocks
    · cases hx
  · cases hx
/-- the contract of a method out of a walk of it -/
theorem ai_met {MT : List ai_m} {rec : ai_R} (hS : ai_SR TY WR MT rec) (hMT : ∀ M ∈ MT, ai_mok M ∧ plainName M.1.cls = true) {mid d' : Nat} {M' : ai_m} {fa : List ai_v} {xs : List ai_s} (hM' : MT[mid]? = some M') (hsc : M'.2.2.2.2.1 = false)
    (hrec : rec mid M' d' [] (0, ai_args 0 fa, [], en, kn, sb) = some xs) (hrt : ∀ x ∈ xs, ai_rt M' x = true) (hw : (fa.map ai_wd1).sum ≤ M'.2.2.1) {ws : va_W} {H : Heap} {vals : List Value} {r : List Int} (g1 : ai_ok r en) (g2 : ai_sb w0 r sb) (g4 : ai_sk ad b r fa vals) (g5 : ai_wd TY ad tys ws) (g6 : ai_kn ad b r ws kn) (g7 : ai_fr WR w0 ws) (hP : va_P D vwCl ws H) (hD : va_D A ws) (hA : ∀ q, H.size ≤ q → A q) (l : Launch) :
    Met l M'.1 (ai_ws M') (ai_rm d') (va_Pc vals (fun U => U.heap = H ∧ va_K D vwCl tys U ∧ ai_nj A U)) (ai_Qc TY WR w0 ad b L sx tys D A r xs) 0 0 A := by
  obtain ⟨hok, hpl⟩ := hMT M' (List.mem_of_getElem? hM')
  refine Met.ofW (cc := M'.2.1) (maxL := M'.2.2.1) (ret := M'.2.2.2.1) hpl rfl ?_
  intro p e s m args below meth c s₁ B hml hv
  obtain ⟨rfl, hH, hK, hN⟩ := hv
  have hts := atoms_spec (ws := ai_ws M') B.pre
  have hown : s.vm.findClass M'.1.cls = some m.cls := findClass_of_methodNamed B.named
  have C : ai_cx M' d' p (headSpec (ai_ws M') (ai_rm d')).room s m vals.toArray c D tys A b L sx 0 0 :=
    ⟨B.exec, B.bytes, hml, hown, fun w h => hts w (List.mem_cons_of_mem _ h), hN, hK, fun q hq => hA q (by rw [← hH]; exact hq), ⟨Nat.le_refl _, Nat.le_refl _, Nat.zero_le _, Nat.zero_le _⟩, fun h => by rw [hsc] at h; cases h⟩
  have hl := lv_entry vals (n := M'.2.2.1) (by rw [ai_words g4]; exact hw)
  rw [lg_entry_eq]
  have G := hS mid d' [] _ xs M' hrec hM' (w0 := w0) (ad := ad) (l := l) (e := e) (below := below) (meth := meth) (Q := MQ below (ai_Qc TY WR w0 ad b L sx tys D A r xs) vals.toArray s 0 0 A) (r0 := r) C (fun x hx => ai_ret C hok B.returns B.notSynchronized (hrt x hx) (fun r' lv sk ws' t e1 e2 e3 e4 e5 => ⟨⟨x, hx, r', lv, sk, ws', e1, by rw [hsc] at e2; exact e2, e3, e4, rfl⟩, e5⟩))
  have hh : s.heap = H := hH
  exact G r (lv_args 0 vals) [] ws s.heap [] _ ai_x.rf ⟨g1, g2, ai_args_ok 0 g4, trivial, g5, g6, g7, fun h => by rw [hsc] at h; cases h⟩ (by rw [hh]; exact hP) hD va_S.rf hl
theorem ai_callW {Qa : State → Outcome → State → Prop} {free : Addr → Prop} {H : Heap} {locs : List Loc} {g : JFrame} {rest : List Value} (hr : va_Run p l e R s m args below meth c H locs cells slots 0 0 g rest Qa free)
    (kk : ∀ (v : Option Value) (st₀ t : State) (L : List Loc), st₀.heap = H → (∀ q ∈ L, free q.base) → Qa st₀ (.returned v) t → W p l e R s m args below meth c t.heap (locs ++ L) cells slots Q { g with pc := g.pc + 3, stack := v.toList ++ rest }) : W p l e R s m args below meth c H locs cells slots Q g := by
  intro T hT X
  obtain ⟨v, st₀, t, T', L, h0, X', hL, e1, -, hq, st⟩ := hr T hT X
  obtain ⟨t2, a1, b1⟩ := kk v st₀ t L h0 hL hq T' e1 X'
  exact ⟨t2, st t2 a1, b1⟩
theorem ai_SF {H0 H : Heap} {locs L : List Loc} {st t : State} (hS : va_S A H0 H locs) (h0 : st.heap = H) (hF : va_F A st t) (hL : ∀ q ∈ L, A q.base) : va_S A H0 t.heap (locs ++ L) := by
  obtain ⟨h1, h2, h3⟩ := hS
  obtain ⟨f1, f2⟩ := hF
  rw [h0] at f1 f2
  refine ⟨Nat.le_trans h1 f1, fun q hq hA => ?_, fun q hq => ?_⟩
  · rw [f2 q (Nat.lt_of_lt_of_le hq h1) hA]
    exact h2 q hq hA
  · rcases List.mem_append.mp hq with h | h
    · exact h3 q h
    · exact hL q h
/-- what comes back from a call goes on -/
def ai_bk (pc' : Nat) (lo : List (Nat × ai_v)) (k : List ai_v) (x : ai_s) : ai_s := (pc', lo, x.2.2.1 ++ k, x.2.2.2.1, x.2.2.2.2.1, x.2.2.2.2.2)
theorem ai_rt_short {M' : ai_m} {z : ai_s} {r : List Int} {sk : List Value} (h : ai_rt M' z = true) (g4 : ai_sk ad b r z.2.2.1 sk) : sk.head?.toList = sk := by
  have hl := g4.len
  have : z.2.2.1.length ≤ 1 := by
    unfold ai_rt at h
    split at h
    · split at h
      · rename_i h3 h4
        rw [h3]
        exact Nat.zero_le _
      · rename_i v h3 h4
        rw [h3]
        exact Nat.le_refl _
      · rename_i v h3 h4
        rw [h3]
        exact Nat.le_refl _
      · rename_i v h3 h4
        rw [h3]
        exact Nat.le_refl _
      · rename_i n v h3 h4
        rw [h3]
        exact Nat.le_refl _
      · cases h
    · cases h
  cases sk with
  | nil => rfl
  | cons x t => cases t with
    | nil => rfl
    | cons y t2 =>
      simp at hl
      omega
theorem ai_nj.same {s U : State} (hv : U.vm = s.vm) (hh : U.heap = s.heap) (h : ai_nj A s) : ai_nj A U := by
  obtain ⟨h1, aK, aV, h2⟩ := h
  refine ⟨fun w hw => ?_, aK, aV, h2.same hv hh⟩
  obtain ⟨a1, i1, y1, g1, rfl⟩ := ai_NW_on w hw
  exact va_Nw.same (u := s) rfl hv.symm (h1 _ hw)
theorem ai_nj.moved {s U : State} {locs : List Loc} (hW : s.WarmedH U.vm) (hS : va_S A s.heap U.heap locs) (h : ai_nj A s) : ai_nj A U := by
  obtain ⟨h1, aK, aV, h2⟩ := h
  refine ⟨fun w hw => ?_, aK, aV, h2.moved hW hS⟩
  obtain ⟨a1, i1, y1, g1, rfl⟩ := ai_NW_on w hw
  exact va_Nw.warmM hW (h1 _ hw)
theorem ai_PcB {vals : List Value} {H : Heap} : FrameBlind (va_Pc vals (fun U => U.heap = H ∧ va_K D vwCl tys U ∧ ai_nj A U)) := fun a U g mk q => by
  obtain ⟨q0, q1, qK, qN⟩ := q
  exact ⟨q0, q1, va_K.moved (u := U) (U := U.calling g mk a) (Vm.Alike.refl U.vm) qK, ai_nj.same (s := U) (U := U.calling g mk a) rfl rfl qN⟩
theorem ai_PcW (C : ai_cx M d p R s m args c D tys A b L sx cells slots) {vals : List Value} {H : Heap} {locs : List Loc} (hS : va_S A s.heap H locs) : ∀ U : State, U.heap = H → s.WarmedH U.vm → va_Pc vals (fun U => U.heap = H ∧ va_K D vwCl tys U ∧ ai_nj A U) vals.toArray U := fun U hU hW =>
  ⟨rfl, hU, va_K.moved hW.alike C.2.2.2.2.2.2.1, C.2.2.2.2.2.1.moved hW (by rw [hU]; exact hS)⟩
end AIC
