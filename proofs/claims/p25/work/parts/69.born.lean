/-! the new objects of the law -/
theorem ct_born {d : Nat} {p : Program} {l : Launch} {e : Env} {R : Room} {s : State} {m : MethodId} {args : Array Value} {below : List Frame} {meth : Method} {c : Code} {D : va_G} {A : Nat → Prop} {H : Heap} {locs : List Loc} {cells slots : Nat} {Q : State → Prop} {pc : Nat} {ls : Array Slot} {rest : List Value} {cc : ByteArray} {nL : Nat} {own : String} (hx : p.tables.exec = Jvm.exec) (hb : c.code = cc) (hml : c.maxLocals = nL) (hown : s.vm.findClass own = some m.cls) (hts : ∀ w ∈ ai_GT, w.before args s = true) (hA : ∀ q, s.heap.size ≤ q → A q) (hfr : d ≤ R.frames ∧ 36 * d ≤ R.locals) (hZ : va_Nw ct_AO s) {X : va_W} {tys : ai_ty} (hP : va_P D vwCl X H) (hD : va_D A X) (hS : va_S A s.heap H locs) (hK : va_K D vwCl tys s) (h1 : 1 ≤ d) {ci' mc ms i1 i2 : Nat} {r : vw_C} {dfl : List Value} {M' : ai_m} {T1 : List ai_c} (met : ct_Met l M' (d - 1) mc ms ci' dfl T1) (hr : vwCl[ci']? = some r) {ty : Nat → FieldType} (n1 : ∀ k, k < r.2.2 → parseFieldDescriptor (r.2.1 k).2.2.1 = some (ty k)) (n2 : ∀ j, j < r.2.2 → defaultValue (ty j) = vp_V dfl j)
    (w1 : Cond.classLink own i1 r.1 ∈ ai_GT) (w2 : Cond.instantiable r.1 r.2.2 ∈ ai_GT) (w3 : Cond.initialized r.1 ∈ ai_GT) (w4 : Cond.methodLink own i2 M'.1 ∈ ai_GT) (w5 : Cond.instanceMethod M'.1 ∈ ai_GT) (w6 : Cond.code M'.1 M'.2.1 M'.2.2.1 M'.2.2.2.1 ∈ ai_GT) (m1 : M'.2.2.2.1 = none) (m2 : M'.1.name = "<init>") (m3 : M'.1.cls = r.1) (m4 : M'.1.cls ≠ "java/lang/invoke/MethodHandle" ∧ M'.1.cls ≠ "java/lang/invoke/VarHandle" ∧ (parseMethodDescriptor M'.1.desc).map (fun d => d.parameters.length) = some 0) (m5 : M'.2.2.1 ≤ 17)
    (hc : cells + 1 + mc ≤ R.cells) (hs : slots + r.2.2 + ms ≤ R.slots) {N : Nat} (hN : r.2.2 = N) (hrest : ((Value.ref 0 :: rest).map fun v => v.category).sum ≤ 8) (hls : ls.size = nL) (d1 : decode cc pc = .ok (.new i1, 3)) (d2 : decode cc (pc + 3) = .ok (.dup, 1)) (d3 : decode cc (pc + 3 + 1) = .ok (.invokespecial i2, 3))
    (k : ∀ (q : Nat) (w1 : va_W) (tys1 : ai_ty) (H1 : Heap) (locs1 : List Loc), va_P D vwCl (X ++ w1) H1 → va_D A (X ++ w1) → va_S A s.heap H1 locs1 → va_K D vwCl (tys ++ tys1) s → ai_wd T1 (w1.map Prod.fst) tys1 w1 → (∃ e, w1[0]? = some (q, e)) → W p l e R s m args below meth c H1 locs1 (cells + 1 + mc) (slots + N + ms) Q (F0 m (pc + 3 + 1 + 3) ls (.ref q :: rest))) : W p l e R s m args below meth c H locs cells slots Q (F0 m pc ls rest) := by
  subst hN
  refine va_new (C := r.1) (T := r.2.1) (N := r.2.2) (fs := dfl) hx hb hts (tv_uws_ok hr) ty n1 hown (hts _ w1) (hts _ w2) (hts _ w3) hK hP hD hS hA hr n2 (by omega) (by omega) d1 (fun q H1 hP1 hD1 hS1 => ?_)
  refine lv_dup hx hb d2 rfl ?_
  have hPc : va_P D vwCl [(q, .inr (ci', dfl))] H1 := fun j y hy => by
    cases j with
    | zero => cases hy; exact hP1 X.length _ (by simp)
    | succ j => cases hy
  have hDc := hD1.sub (ws' := [(q, .inr (ci', dfl))]) [X.length] rfl (by simp)
  have hFc := va_free (wc := [(q, .inr (ci', dfl))]) hD1 hS1 hA [X.length] (by simp)
  have hKc := hK.sub (tys' := []) [] rfl
  refine va_callv (va_runI (As := []) (rest := .ref q :: rest) ⟨hx, hb, hml, hown, hts⟩ (met D q H1.size) (cwI 0 hts (ai_goodIn w6) (by show Cond.code _ _ _ _ :: _ = _; rw [m1]) rfl rfl (by rw [m3]; exact hts _ w3) (hts _ w4) (hts _ w5) m2 m4 ⟨by show d - 1 + 1 ≤ _; omega, by show 8 + (_ + 11) + 36 * (d - 1) ≤ _; omega⟩) ⟨fun a U g mk qq => by
      obtain ⟨q0, q1, qP, qK, qD, qZ⟩ := qq
      exact ⟨q0, q1, qP, va_K.moved (u := U) (U := U.calling g mk a) (Vm.Alike.refl U.vm) qK, qD, ct_ao (u := U) (U := U.calling g mk a) (Vm.Alike.refl U.vm) qZ⟩, fun U hU hW => ⟨rfl, by rw [hU], by rw [hU]; exact hPc, va_K.moved hW.alike hKc, hDc.weaken (fun _ _ _ _ => trivial), ct_ao hW.alike hZ⟩⟩ rfl rfl hls rfl (lv_room hrest) d3 ⟨hc, hs⟩) hS1 (fun q _ h => hFc q h) hFc (fun u t H2 locs2 ht hvm _ hB hz hk hS2 => ?_)
  obtain ⟨b1, b2, b3, b4, b5⟩ := hB
  rw [ht] at b3
  have b4 := va_K.moved hvm.symm b4
  obtain ⟨jP, jD⟩ := ct_join hP1 hD1 hk hFc b3 b5
  exact k q u.1 u.2 H2 locs2 jP jD hS2 (hK.app b4) b1 b2
theorem ct_two {T5 T6 : List ai_c} {w5 w6 : va_W} {t5 t6 : ai_ty} (h5 : ai_wd T5 (w5.map Prod.fst) t5 w5) (h6 : ai_wd T6 (w6.map Prod.fst) t6 w6) : ai_wd (T5 ++ T6.map (ct_sc T5.length)) ((w5 ++ w6).map Prod.fst) (t5 ++ t6) (w5 ++ w6) := by
  refine ⟨by rw [List.length_append, List.length_append, List.length_map, h5.1, h6.1], by rw [List.length_map, List.length_append, List.length_append, List.length_map, h5.1, h6.1], fun k q hq => by rw [List.getElem?_map, hq]; rfl, fun k t q ht hq => ?_⟩
  by_cases hk : k < T5.length
  · rw [List.getElem?_append_left hk] at ht
    rw [List.getElem?_append_left (by rw [h5.1]; exact hk)] at hq
    have a := ct_ce (pre := []) (pty := []) (x := w6.map Prod.fst) (y := t6) (h5.2.2.2 k t q ht hq)
    rw [List.length_nil, ct_sc_0] at a
    rw [List.map_append]
    exact a
  · rw [List.getElem?_append_right (Nat.le_of_not_lt hk), List.getElem?_map] at ht
    rw [List.getElem?_append_right (by rw [h5.1]; exact Nat.le_of_not_lt hk), h5.1] at hq
    obtain ⟨t0, ht2, rfl⟩ := Option.map_eq_some_iff.mp ht
    have a := ct_ce (pre := w5.map Prod.fst) (pty := t5) (x := []) (y := []) (h6.2.2.2 _ t0 q ht2 hq)
    rw [List.append_nil, List.append_nil, List.length_map, h5.1] at a
    rw [List.map_append]
    exact a
def ct_lf (f g : ai_f) : Bool := decide (f.1 = g.1) && decide (f.2.1 = g.2.1) && decide (g.2.2.1 ≤ f.2.2.1) && decide (f.2.2.2 ≤ g.2.2.2)
theorem ct_lf_ok {ad : List Nat} {f g : ai_f} {x : Value} (h : ct_lf f g = true) (hx : ai_fd ad f x) : ai_fd ad g x := by
  unfold ct_lf at h
  simp only [Bool.and_eq_true, decide_eq_true_eq] at h
  obtain ⟨⟨⟨h1, h2⟩, h3⟩, h4⟩ := h
  rcases hx with ⟨a, q, b, c⟩ | ⟨a, i, b, c1, c2⟩ | ⟨a, i, b⟩
  · exact Or.inl ⟨by rw [← h1]; exact a, q, by rw [← h2]; exact b, c⟩
  · exact Or.inr (Or.inl ⟨by rw [← h1]; exact a, i, b, by omega, by omega⟩)
  · exact Or.inr (Or.inr ⟨by rw [← h1]; exact a, i, b⟩)
def ct_lF : List ai_f → List ai_f → Bool
  | [], [] => true
  | f :: F, g :: G => ct_lf f g && ct_lF F G
  | _, _ => false
theorem ct_lF_ok : ∀ {F G : List ai_f}, ct_lF F G = true → F.length = G.length ∧ ∀ (i : Nat) (g : ai_f), G[i]? = some g → ∃ f, F[i]? = some f ∧ ct_lf f g = true
  | [], [], _ => ⟨rfl, fun i g h => by cases h⟩
  | [], _ :: _, h => by cases h
  | _ :: _, [], h => by cases h
  | f :: F, g :: G, h => by
    unfold ct_lF at h
    rw [Bool.and_eq_true] at h
    obtain ⟨a, b⟩ := ct_lF_ok h.2
    refine ⟨by rw [List.length_cons, List.length_cons, a], fun i x hx => ?_⟩
    cases i with
    | zero => cases hx; exact ⟨f, rfl, h.1⟩
    | succ i => exact b i x hx
theorem ct_ce0 {ad : List Nat} {tys : ai_ty} {ci : Nat} {F G : List ai_f} {e : va_E} (h : ct_lF F G = true) (hx : ai_ce ad tys (0, ci, F) e) : ai_ce ad tys (0, ci, G) e := by
  obtain ⟨a, b⟩ := ct_lF_ok h
  rcases hx with ⟨-, fs, h1, h2, h3⟩ | ⟨z, -⟩ | ⟨z, -⟩ | ⟨z, -⟩
  · refine Or.inl ⟨rfl, fs, h1, h2.trans a, fun i g hg => ?_⟩
    obtain ⟨f, hf, hl⟩ := b i g hg
    obtain ⟨x, h4, h5⟩ := h3 i f hf
    exact ⟨x, h4, ct_lf_ok hl h5⟩
  · rcases z with z | z
    · exact absurd (id z : (0 : Nat) = 1) (by decide)
    · exact absurd (id z : (0 : Nat) = 2) (by decide)
  · exact absurd (id z : (0 : Nat) = 3) (by decide)
  · exact absurd (id z : (0 : Nat) = 4) (by decide)
theorem ct_weak {T : List ai_c} {ad : List Nat} {tys : ai_ty} {ws : va_W} {k ci : Nat} {F G : List ai_f} (hT : T[k]? = some (0, ci, G)) (hF : ct_lF F G = true) (h : ai_wd (T.set k (0, ci, F)) ad tys ws) : ai_wd T ad tys ws := by
  refine ⟨by rw [h.1, List.length_set], by rw [h.2.1, List.length_set], h.2.2.1, fun j t q ht hq => ?_⟩
  by_cases hj : k = j
  · subst hj
    rw [hT] at ht
    cases ht
    exact ct_ce0 hF (h.2.2.2 k _ q (List.getElem?_set_self (List.getElem?_eq_some_iff.mp hT).1) hq)
  · exact h.2.2.2 j t q (by rw [List.getElem?_set_ne hj]; exact ht) hq
theorem ct_zero {T : List ai_c} {ad : List Nat} {tys : ai_ty} {ws : va_W} {k ci i : Nat} {F : List ai_f} (h : ai_wd T ad tys ws) (hT : T[k]? = some (0, ci, F)) (hF : F[i]? = some (1, 0, 0, 0)) : ai_sl ws k i (.int 0) := by
  obtain ⟨a, e, h1, h2, h3⟩ := h.get hT
  rcases h3 with ⟨-, fs, rfl, h4, h5⟩ | ⟨z, -⟩ | ⟨z, -⟩ | ⟨z, -⟩
  · obtain ⟨x, h6, h7⟩ := h5 i _ hF
    refine ⟨a, _, h1, Or.inl ⟨ci, fs, rfl, ?_⟩⟩
    rcases h7 with ⟨z, -⟩ | ⟨-, j, rfl, b1, b2⟩ | ⟨z, -⟩
    · exact absurd (id z : (1 : Nat) = 0) (by decide)
    · have e0 : j = 0 := Int32.toInt_inj.mp (by
        have b1 : (0 : Int) ≤ j.toInt := b1
        have b2 : j.toInt ≤ 0 := b2
        show j.toInt = 0
        omega)
      rw [h6, e0]
    · exact absurd (id z : (1 : Nat) = 2) (by decide)
  · rcases z with z | z
    · exact absurd (id z : (0 : Nat) = 1) (by decide)
    · exact absurd (id z : (0 : Nat) = 2) (by decide)
  · exact absurd (id z : (0 : Nat) = 3) (by decide)
  · exact absurd (id z : (0 : Nat) = 4) (by decide)
/-! weaker kinds, all cells at once; what a place has by its kind alone -/
def wk_p (n : Nat) (p1 p2 : List ai_f) : Bool := (List.range n).all fun i => (ai_pt p2 i).all fun g2 => (ai_pt p1 i).any fun g1 => decide (g2.2.2.1 ≤ g1.2.2.1) && decide (g1.2.2.2 ≤ g2.2.2.2)
def wk_c (t1 t2 : ai_c) : Bool := Nat.beq t1.1 t2.1 && Nat.beq t1.2.1 t2.2.1 && (if Nat.beq t1.1 0 = true then ct_lF t1.2.2 t2.2.2 else if (Nat.beq t1.1 1 || Nat.beq t1.1 2) = true then wk_p t1.2.1 t1.2.2 t2.2.2 else decide (t1.2.2 = t2.2.2))
def wk_l : List ai_c → List ai_c → Bool
  | [], [] => true
  | a :: l, b :: m => wk_c a b && wk_l l m
  | _, _ => false
theorem wk_c_ok {ad : List Nat} {tys : ai_ty} {t1 t2 : ai_c} {e : va_E} (h : wk_c t1 t2 = true) (hx : ai_ce ad tys t1 e) : ai_ce ad tys t2 e := by
  obtain ⟨a1, n1, p1⟩ := t1
  obtain ⟨a2, n2, p2⟩ := t2
  unfold wk_c at h
  simp only [Bool.and_eq_true] at h
  obtain ⟨⟨h1, h2⟩, h3⟩ := h
  cases ai_beq.mp h1
  cases ai_beq.mp h2
  split at h3
  · rename_i h0
    cases ai_beq.mp h0
    exact ct_ce0 h3 hx
  · rename_i h0
    split at h3
    · rename_i h12
      rcases hx with ⟨z, -⟩ | ⟨z, cA, f, g1, g2, g3⟩ | ⟨z, -⟩ | ⟨z, -⟩
      · exact absurd (ai_beq.mpr z) h0
      · refine Or.inr (Or.inl ⟨z, cA, f, g1, g2, fun i q hi hq => ?_⟩)
        have a := List.all_eq_true.mp h3 i (List.mem_range.mpr hi)
        rw [show ai_pt p2 i = some q from hq] at a
        obtain ⟨g, b1, b2⟩ := ai_anyE (show (ai_pt p1 i).any _ = true from a)
        simp only [Bool.and_eq_true, decide_eq_true_eq] at b2
        obtain ⟨c1, c2⟩ := g3 i g hi b1
        exact ⟨Int.le_trans b2.1 c1, Int.le_trans c2 b2.2⟩
      · rw [Bool.or_eq_true] at h12
        rcases h12 with h | h
        · have := ai_beq.mp h; dsimp only at z; omega
        · have := ai_beq.mp h; dsimp only at z; omega
      · rw [Bool.or_eq_true] at h12
        rcases h12 with h | h
        · have := ai_beq.mp h; dsimp only at z; omega
        · have := ai_beq.mp h; dsimp only at z; omega
    · have h3 : p1 = p2 := decide_eq_true_eq.mp h3
      rw [← h3]
      exact hx
theorem wk_at : ∀ {T1 T2 : List ai_c}, wk_l T1 T2 = true → T1.length = T2.length ∧ ∀ (k : Nat) (t2 : ai_c), T2[k]? = some t2 → ∃ t1, T1[k]? = some t1 ∧ wk_c t1 t2 = true
  | [], [], _ => ⟨rfl, fun k t h => by cases h⟩
  | [], _ :: _, h => by cases h
  | _ :: _, [], h => by cases h
  | a :: l, b :: m, h => by
    unfold wk_l at h
    rw [Bool.and_eq_true] at h
    obtain ⟨h1, h2⟩ := wk_at h.2
    refine ⟨by rw [List.length_cons, List.length_cons, h1], fun k t ht => ?_⟩
    cases k with
    | zero => cases ht; exact ⟨a, rfl, h.1⟩
    | succ k => exact h2 k t ht
theorem wk_ok {T1 T2 : List ai_c} {ad : List Nat} {tys : ai_ty} {ws : va_W} (hl : wk_l T1 T2 = true) (h : ai_wd T1 ad tys ws) : ai_wd T2 ad tys ws := by
  obtain ⟨a, b⟩ := wk_at hl
  refine ⟨h.1.trans a, h.2.1.trans a, h.2.2.1, fun k t q ht hq => ?_⟩
  obtain ⟨t1, h1, h2⟩ := b k t ht
  exact wk_c_ok h2 (h.2.2.2 k t1 q h1 hq)
def lb_X : List ai_c := [(0, 5, [(0, 1, 0, 0), (0, 7, 0, 0), (0, 13, 0, 0), (0, 19, 0, 0), (0, 25, 0, 0), (0, 26, 0, 0), (0, 34, 0, 0), (0, 39, 0, 0), (0, 41, 0, 0), (1, 0, 0, 0), (1, 0, 0, 0)]), (0, 0, [(1, 0, 0, 0), (1, 0, 10, 10), (1, 0, 0, 0), (1, 0, 0, 0), (0, 2, 0, 0), (0, 3, 0, 0), (0, 4, 0, 0), (0, 5, 0, 0), (0, 6, 0, 0)]), (1, 4, [(1, 0, 0, 0)]), (1, 4, [(1, 0, 0, 0)]), (1, 4, [(1, 0, 0, 0)]), (1, 4, [(1, 0, 0, 0)]), (1, 8, [(1, 0, 0, 0)]), (0, 0, [(1, 0, 0, 0), (1, 0, 10, 10), (1, 0, 0, 0), (1, 0, 0, 0), (0, 8, 0, 0), (0, 9, 0, 0), (0, 10, 0, 0), (0, 11, 0, 0), (0, 12, 0, 0)]), (1, 4, [(1, 0, 0, 0)]), (1, 4, [(1, 0, 0, 0)]), (1, 4, [(1, 0, 0, 0)]), (1, 4, [(1, 0, 0, 0)]), (1, 8, [(1, 0, 0, 0)]), (0, 0, [(1, 0, 0, 0), (1, 0, 10, 10), (1, 0, 0, 0), (1, 0, 0, 0), (0, 14, 0, 0), (0, 15, 0, 0), (0, 16, 0, 0), (0, 17, 0, 0), (0, 18, 0, 0)]), (1, 4, [(1, 0, 0, 0)]), (1, 4, [(1, 0, 0, 0)]), (1, 4, [(1, 0, 0, 0)]), (1, 4, [(1, 0, 0, 0)]), (1, 8, [(1, 0, 0, 0)]), (0, 0, [(1, 0, 0, 0), (1, 0, 10, 10), (1, 0, 0, 0), (1, 0, 0, 0), (0, 20, 0, 0), (0, 21, 0, 0), (0, 22, 0, 0), (0, 23, 0, 0), (0, 24, 0, 0)]), (1, 4, [(1, 0, 0, 0)]), (1, 4, [(1, 0, 0, 0)]), (1, 4, [(1, 0, 0, 0)]), (1, 4, [(1, 0, 0, 0)]), (1, 8, [(1, 0, 0, 0)]), (2, 2, [(1, 0, 0, 0)]), (0, 2, [(0, 27, 0, 0), (1, 0, 0, 0), (0, 28, 0, 0), (1, 0, 0, 0), (1, 0, 0, 0), (1, 0, 0, 0), (1, 0, 0, 0), (1, 0, 0, 0), (1, 0, 0, 0), (1, 0, 0, 0), (1, 0, 0, 0)]), (1, 160, [(1, 0, 0, 0)]), (0, 0, [(1, 0, 0, 0), (1, 0, 10, 10), (1, 0, 0, 0), (1, 0, 0, 0), (0, 29, 0, 0), (0, 30, 0, 0), (0, 31, 0, 0), (0, 32, 0, 0), (0, 33, 0, 0)]), (1, 4, [(1, 0, 0, 0)]), (1, 4, [(1, 0, 0, 0)]), (1, 4, [(1, 0, 0, 0)]), (1, 4, [(1, 0, 0, 0)]), (1, 8, [(1, 0, 0, 0)]), (0, 4, [(1, 0, 0, 0), (0, 35, 0, 0), (0, 36, 0, 0), (0, 37, 0, 0), (0, 38, 0, 0)]), (1, 6, [(1, 0, 0, 0)]), (1, 6, [(1, 0, 0, 0)]), (1, 6, [(1, 0, 0, 0)]), (1, 6, [(1, 0, 0, 0)]), (0, 1, [(0, 40, 0, 0), (2, 0, 0, 0), (1, 0, 0, 0)]), (3, 100, []), (0, 3, [(0, 42, 0, 0), (0, 43, 0, 0), (0, 44, 0, 0)]), (1, 4, [(1, 0, (-1), (-1)), (1, 0, (-1), (-1)), (1, 0, (-1), (-1)), (1, 0, (-1), (-1))]), (1, 4, [(1, 0, 0, 0)]), (4, 4, [(0, 45, 0, 0), (0, 46, 0, 0), (0, 47, 0, 0), (0, 48, 0, 0)]), (1, 40, [(1, 0, (-2147483648), 2147483647)]), (1, 40, [(1, 0, (-2147483648), 2147483647)]), (1, 40, [(1, 0, (-2147483648), 2147483647)]), (1, 40, [(1, 0, (-2147483648), 2147483647)]), (0, 6, [(0, 50, 0, 0), (1, 0, 0, 0), (0, 51, 0, 0), (1, 0, 0, 0), (1, 0, 0, 0), (1, 0, 0, 0), (0, 52, 0, 0), (1, 0, 0, 0), (1, 0, 0, 0), (1, 0, 0, 0), (1, 0, 0, 0), (1, 0, 0, 0), (1, 0, 0, 0), (1, 0, 0, 0), (1, 0, 0, 0), (0, 53, 0, 0), (0, 54, 0, 0), (1, 0, 0, 0), (0, 55, 0, 0), (1, 0, 0, 0), (0, 56, 0, 0), (0, 57, 0, 0), (0, 58, 0, 0), (0, 59, 0, 0), (1, 0, 0, 0)]), (1, 162, [(1, 0, 0, 0)]), (1, 27, [(1, 0, 0, 0)]), (1, 160, [(1, 0, 0, 0)]), (1, 8, [(1, 0, 0, 0), (1, 0, 5, 5), (1, 0, 10, 10), (1, 0, 13, 13), (1, 0, 16, 16), (1, 0, 21, 21), (1, 0, 27, 27), (1, 0, 31, 31)]), (1, 31, [(1, 0, 112, 112), (1, 0, 108, 108), (1, 0, 97, 97), (1, 0, 105, 105), (1, 0, 110, 110), (1, 0, 115, 115), (1, 0, 110, 110), (1, 0, 97, 97), (1, 0, 107, 107), (1, 0, 101, 101), (1, 0, 115, 115), (1, 0, 101, 101), (1, 0, 97, 97), (1, 0, 97, 97), (1, 0, 103, 103), (1, 0, 101, 101), (1, 0, 103, 103), (1, 0, 117, 117), (1, 0, 101, 101), (1, 0, 115, 115), (1, 0, 116, 116), (1, 0, 108, 108), (1, 0, 97, 97), (1, 0, 117, 117), (1, 0, 103, 103), (1, 0, 104, 104), (1, 0, 115, 115), (1, 0, 112, 112), (1, 0, 108, 108), (1, 0, 97, 97), (1, 0, 110, 110)]), (1, 24, [(1, 0, 0, 0)]), (2, 2, [(1, 0, 0, 0)]), (1, 4, [(1, 0, (-4), (-4)), (1, 0, (-4), (-4)), (1, 0, (-4), (-4)), (1, 0, (-4), (-4))]), (1, 4, [(1, 0, 0, 0)]), (1, 160, [(1, 0, 0, 0)])]
set_option maxRecDepth 100000 in
theorem lb_T : kT5 ++ kT6.map (ct_sc kT5.length) = lb_X := by rfl
set_option maxRecDepth 100000 in
theorem lb_W : wk_l lb_X tb_TY = true := by decide +kernel
set_option maxRecDepth 100000 in
theorem lb_start {w5 w6 : va_W} {t5 t6 : ai_ty} (h5 : ai_wd kT5 (w5.map Prod.fst) t5 w5) (h6 : ai_wd kT6 (w6.map Prod.fst) t6 w6) : ai_wd tb_TY ((w5 ++ w6).map Prod.fst) (t5 ++ t6) (w5 ++ w6) ∧ Inv (w5 ++ w6) := by
  have h := ct_two h5 h6
  rw [lb_T] at h
  have zz : ∀ {k ci i : Nat} {F : List ai_f} {v : Int}, lb_X[k]? = some (0, ci, F) → F[i]? = some (1, 0, v, v) → vi (w5 ++ w6) k i v := fun {k ci i F v} hT hF => by
    obtain ⟨a, a1, a2, a3⟩ := pl_f h hT hF
    exact ⟨a, a1, by omega⟩
  have z : ∀ {k ci i : Nat} {F : List ai_f}, lb_X[k]? = some (0, ci, F) → F[i]? = some (1, 0, 0, 0) → vi (w5 ++ w6) k i 0 := fun {k ci i F} hT hF => zz hT hF
  have zb : ∀ {k i : Nat}, lb_X[k]? = some (2, 2, [(1, 0, 0, 0)]) → i < 2 → vi (w5 ++ w6) k i 0 := fun {k i} hT hi => by
    obtain ⟨a, e, h1, h2, h3⟩ := h.get hT
    rcases h3 with ⟨z, -⟩ | ⟨-, cA, f, rfl, -, h5⟩ | ⟨z, -⟩ | ⟨z, -⟩
    · exact absurd (id z : (2 : Nat) = 0) (by decide)
    · obtain ⟨b1, b2⟩ := h5 i _ hi (show ai_pt [(1, 0, 0, 0)] i = some (1, 0, 0, 0) by show ([(1, 0, 0, 0)] : List ai_f)[i % 1]? = _; rw [Nat.mod_one]; rfl)
      have b1 : 0 ≤ (f i).toInt := b1
      have b2 : (f i).toInt ≤ 0 := b2
      exact ⟨f i, ⟨a, _, h1, Or.inr (Or.inl ⟨cA, 2, f, rfl, hi, rfl⟩)⟩, by omega⟩
    · exact absurd (id z : (2 : Nat) = 3) (by decide)
    · exact absurd (id z : (2 : Nat) = 4) (by decide)
  have zr : ∀ {k n i : Nat} {F : List ai_f} {v : Int}, lb_X[k]? = some (1, n, F) → i < n → ai_pt F i = some (1, 0, v, v) → vi (w5 ++ w6) k i v := fun {k n i F v} hT hi hF => by
    obtain ⟨a, a1, a2, a3⟩ := pl_a h hT hi hF
    exact ⟨a, a1, by omega⟩
  have l42 : ∀ k, k < 4 → vi (w5 ++ w6) 42 k (-1) := fun k hk => zr (F := ([(1, 0, -1, -1), (1, 0, -1, -1), (1, 0, -1, -1), (1, 0, -1, -1)] : List ai_f)) rfl hk ((by decide : ∀ k, k < 4 → ai_pt ([(1, 0, -1, -1), (1, 0, -1, -1), (1, 0, -1, -1), (1, 0, -1, -1)] : List ai_f) k = some (1, 0, -1, -1)) k hk)
  have l43 : ∀ k, k < 4 → vi (w5 ++ w6) 43 k 0 := fun k hk => zr (F := ([(1, 0, 0, 0)] : List ai_f)) rfl hk ((by decide : ∀ k, k < 4 → ai_pt ([(1, 0, 0, 0)] : List ai_f) k = some (1, 0, 0, 0)) k hk)
  have l57 : ∀ k, k < 4 → vi (w5 ++ w6) 57 k (-4) := fun k hk => zr (F := ([(1, 0, -4, -4), (1, 0, -4, -4), (1, 0, -4, -4), (1, 0, -4, -4)] : List ai_f)) rfl hk ((by decide : ∀ k, k < 4 → ai_pt ([(1, 0, -4, -4), (1, 0, -4, -4), (1, 0, -4, -4), (1, 0, -4, -4)] : List ai_f) k = some (1, 0, -4, -4)) k hk)
  have l58 : ∀ k, k < 4 → vi (w5 ++ w6) 58 k 0 := fun k hk => zr (F := ([(1, 0, 0, 0)] : List ai_f)) rfl hk ((by decide : ∀ k, k < 4 → ai_pt ([(1, 0, 0, 0)] : List ai_f) k = some (1, 0, 0, 0)) k hk)
  have r50 : ∀ j, j < 27 → vi (w5 ++ w6) 50 j 0 := fun j hj => zr (F := ([(1, 0, 0, 0)] : List ai_f)) rfl (by omega) ((by decide : ∀ j, j < 27 → ai_pt ([(1, 0, 0, 0)] : List ai_f) j = some (1, 0, 0, 0)) j hj)
  have hw := wk_ok lb_W h
  have s10 : vi (w5 ++ w6) 1 1 10 := zz (k := 1) rfl rfl
  have hT : sp_tape (fx_at (w5 ++ w6) 27) 0 (w5 ++ w6) := ⟨fx_g hw, fun i hi => absurd hi (Nat.not_lt_zero _)⟩
  have hb : baI (w5 ++ w6) 0 (fx_at (w5 ++ w6) 27) 0 0 0 0 0 0 := ⟨⟨⟨z (k := 26) rfl rfl, z (k := 49) rfl rfl⟩, Nat.zero_le _, hT⟩, ⟨z (k := 0) rfl rfl, z (k := 49) rfl rfl⟩, ⟨z (k := 34) rfl rfl, z (k := 49) rfl rfl⟩, ⟨z (k := 0) rfl rfl, z (k := 49) rfl rfl⟩, ⟨z (k := 1) rfl rfl, z (k := 49) rfl rfl, Nat.zero_le _⟩, ⟨zb (k := 25) rfl (by decide), zb (k := 56) rfl (by decide)⟩, zb (k := 25) rfl (by decide), zb (k := 56) rfl (by decide)⟩
  have hp : pgI (w5 ++ w6) 1 0 0 (fun j => if j = 16 then 10 else 0) 0 (fun _ => 0) := ⟨⟨⟨fun i hi => absurd hi (Nat.not_lt_zero _), s10.eq (by decide), (z (k := 1) (i := 2) rfl rfl).eq (by decide)⟩, ⟨fun i hi => absurd hi (Nat.not_lt_zero _), (r50 16 (by decide)).eq (by decide), (r50 17 (by decide)).eq (by decide)⟩, ⟨fun i hi => absurd hi (Nat.not_lt_zero _), by decide, by decide⟩⟩, ⟨z (k := 1) (i := 3) rfl rfl, r50 26 (by decide), Nat.zero_le _⟩, fun j hj => absurd hj (Nat.not_lt_zero _)⟩
  have hs : shI (w5 ++ w6) := ⟨⟨fun _ => -1, fun _ => 0, fun _ _ => 0, fun k hk => ⟨l42 k hk, l43 k hk, ⟨Nat.zero_le _, Or.inl rfl⟩, fun j hj => absurd hj (Nat.not_lt_zero _)⟩, fun k hk => ⟨by rw [if_pos rfl]; exact l57 k hk, l58 k hk, ⟨Nat.zero_le _, Or.inl rfl⟩, fun j hj => absurd hj (Nat.not_lt_zero _)⟩⟩, seI.zero (z (k := 34) rfl rfl)⟩
  exact ⟨hw, 0, fx_at (w5 ++ w6) 27, 0, 0, 0, 0, 0, 0, fun j => if j = 16 then 10 else 0, 0, fun _ => 0, hb, hp, fun h => absurd h (by decide), fun h => absurd h (by decide), hs⟩
