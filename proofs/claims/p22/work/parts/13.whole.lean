/-! the whole walk -/
def ai_ms (n0 mj : Nat) (up : Bool) (hs : List ai_h) (x : ai_s) : Bool := match hs[mj]? with
  | some h => (match ai_pv x h with
    | some v => if up = true then ai_ge x.2.2.2.1 (n0 + mj) 1 12 v.2.1 v.2.2.2 else decide (v.2.1 = n0 + mj) && decide (v.2.2.2 ≤ -1)
    | none => false)
  | none => false
def ai_I (st : ai_s) (hs : List ai_h) (lo' : List (Nat × ai_v)) (kn' : List ai_k) : ai_s := (st.1, lo', [], st.2.2.2.1 ++ hs.map ai_en, kn', st.2.2.2.2.2)
def ai_lp (one : List Nat → ai_s → Option (List ai_s)) (cu : List Nat) (st : ai_s) (hs : List ai_h) (lo' : List (Nat × ai_v)) (kn' : List ai_k) (mj : Nat) (up : Bool) : Option (List ai_s) :=
  if ai_lq st.2.2.2.1.length hs (ai_I st hs lo' kn') st = true then
    (one (st.1 :: cu) (ai_I st hs lo' kn')).bind fun xs =>
      if (xs.all fun x => !(x.1 == st.1) || (ai_lq st.2.2.2.1.length hs (ai_I st hs lo' kn') x && ai_ms st.2.2.2.1.length mj up hs x)) = true then some (xs.filter fun x => !(x.1 == st.1)) else none
  else none
def ai_mz (mj : Nat) (up : Bool) (hs : List ai_h) (vs : List Int) : Nat := match hs[mj]?, vs[mj]? with
  | some h, some z => if up = true then (h.2.2.2.2.1 - z).toNat else (z - h.2.2.2.1).toNat
  | _, _ => 0
section AIW
variable {TY : List ai_c} {WR : List (Nat × Nat × Nat)} {w0 : va_W} {ad : List Nat} {M : ai_m} {d : Nat} {p : Program} {l : Launch} {e : Env} {R : Room} {s : State} {m : MethodId} {args : Array Value} {below : List Frame} {meth : Method} {c : Code} {D : va_G} {tys : ai_ty} {A : Nat → Prop} {b L : Nat} {sx : Nat → Int32} {cells slots : Nat} {Q : State → Prop} {r0 : List Int} {pc pc' : Nat} {lo : List (Nat × ai_v)} {sk : List ai_v} {en en' : List ai_e} {kn kn' : List ai_k} {sb sb' : List ai_b} {x y v : ai_v} {ss : List ai_s}
theorem ai_lp_ok {one : List Nat → ai_s → Option (List ai_s)} {cu : List Nat} {st : ai_s} {hs : List ai_h} {lo' : List (Nat × ai_v)} {mj : Nat} {up : Bool} {ys : List ai_s} (hone : ∀ (xs : List ai_s) (r1 : List Int), one (st.1 :: cu) (ai_I st hs lo' kn') = some xs → (∀ x ∈ xs, ai_G TY WR w0 ad M p l e R s m args below meth c D tys A b L sx cells slots Q r1 x) → ai_G TY WR w0 ad M p l e R s m args below meth c D tys A b L sx cells slots Q r1 (ai_I st hs lo' kn')) (hn : 1 < st.2.2.2.1.length) (h8 : M.2.2.2.2.1 = true → 8 ≤ st.2.2.2.1.length) (hq : ai_lp one cu st hs lo' kn' mj up = some ys) (k : ∀ x ∈ ys, ai_G TY WR w0 ad M p l e R s m args below meth c D tys A b L sx cells slots Q r0 x) : ai_G TY WR w0 ad M p l e R s m args below meth c D tys A b L sx cells slots Q r0 st := by
  unfold ai_lp at hq
  split at hq
  · rename_i hlq0
    obtain ⟨xs, hxs, hq⟩ := Option.bind_eq_some_iff.mp hq
    split at hq
    · rename_i hall
      injection hq with hq
      subst hq
      intro r lv skc ws H locs ls hx g hP hD hS hl
      have g' : ai_gm TY WR w0 ad b L sx tys M.2.2.2.2.1 (r ++ []) st lv skc ws := by rw [List.append_nil]; exact g
      obtain ⟨vs, lv', v1, v2, hsk, hsub, -⟩ := ai_lq_ok (I := ai_I st hs lo' kn') rfl rfl g.1 rfl hn h8 g.2.1 g' hlq0
      subst hsk
      have hr : r.length = st.2.2.2.1.length := g.1.1
      have key : ∀ (N : Nat) (vs : List Int) (lv : List (Nat × Value)) (ws : va_W) (H : Heap) (locs : List Loc) (ls : Array Slot), ai_mz mj up hs vs < N → vs.length = hs.length → ai_gm TY WR w0 ad b L sx tys M.2.2.2.2.1 (r ++ vs) (ai_I st hs lo' kn') lv [] ws → va_P D vwCl ws H → va_D A ws → va_S A s.heap H locs → lv_has ls M.2.2.1 lv → W p l e R s m args below meth c H locs cells slots Q (F0 m st.1 ls []) := by
        intro N
        induction N with
        | zero => exact fun vs lv ws H locs ls h => absurd h (Nat.not_lt_zero _)
        | succ N ih =>
          intro vs lv ws H locs ls hm hvl g1 hP hD hS hl
          refine hone xs (r ++ vs) hxs (fun z hz => ?_) (r ++ vs) lv [] ws H locs ls ai_x.rf g1 hP hD hS hl
          by_cases hpc : z.1 = st.1
          · have hz2 := List.all_eq_true.mp hall z hz
            rw [Bool.or_eq_true] at hz2
            have hz2 := hz2.resolve_left (by rw [hpc]; simp)
            rw [Bool.and_eq_true] at hz2
            obtain ⟨hlq, hms⟩ := hz2
            intro r1 lv1 sk1 ws1 H1 locs1 ls1 hx1 g2 hP1 hD1 hS1 hl1
            obtain ⟨t, rfl⟩ := hx1
            rw [List.append_assoc] at g2
            obtain ⟨vs', lv', a1, a2, a3, a4, a5⟩ := ai_lq_ok (I := ai_I st hs lo' kn') rfl rfl g.1 rfl hn h8 g.2.1 g2 hlq
            subst a3
            rw [hpc]
            refine ih vs' lv' ws1 H1 locs1 ls1 ?_ a1 a2 hP1 hD1 hS1 ⟨hl1.1, hl1.2.1, fun q hq => hl1.2.2 q (a4 q hq)⟩
            -- the measure falls
            unfold ai_ms at hms
            split at hms
            · rename_i h hh
              have hjl : mj < hs.length := (List.getElem?_eq_some_iff.mp hh).1
              obtain ⟨z1, hz1⟩ : ∃ z1, vs[mj]? = some z1 := ⟨_, List.getElem?_eq_getElem (by rw [hvl]; exact hjl)⟩
              obtain ⟨z2, hz2⟩ : ∃ z2, vs'[mj]? = some z2 := ⟨_, List.getElem?_eq_getElem (by rw [a1]; exact hjl)⟩
              have hb : ai_oe (r ++ vs') z2 (ai_en h) := by
                refine a2.1.2 (r.length + mj) z2 _ ?_ ?_
                · rw [List.getElem?_append_right (by omega), show r.length + mj - r.length = mj by omega]
                  exact hz2
                · show (st.2.2.2.1 ++ hs.map ai_en)[r.length + mj]? = _
                  rw [List.getElem?_append_right (by omega), hr, show st.2.2.2.1.length + mj - st.2.2.2.1.length = mj by omega, List.getElem?_map, hh]
                  rfl
              have b1 : h.2.2.2.1 ≤ z2 := hb.1
              have b2 : z2 ≤ h.2.2.2.2.1 := hb.2.1
              have hit : ai_it st.2.2.2.1.length z mj h = true := by
                unfold ai_lq at hlq
                simp only [Bool.and_eq_true] at hlq
                have := List.all_eq_true.mp hlq.1.1.2 mj (List.mem_range.mpr hjl)
                rw [hh] at this
                exact this
              split at hms
              · rename_i v hv
                unfold ai_it at hit
                rw [hv] at hit
                dsimp only at hit
                split at hit
                · rename_i p hp
                  obtain ⟨⟨z0, c1, c2⟩, -⟩ := a5 mj h z2 hh hz2 v hv p hp
                  have hold : (r ++ (vs ++ t))[st.2.2.2.1.length + mj]? = some z1 := by
                    rw [List.getElem?_append_right (by omega), List.getElem?_append_left (by rw [hvl]; omega), show st.2.2.2.1.length + mj - r.length = mj by omega]
                    exact hz1
                  have e1 : ai_mz mj up hs vs = if up = true then (h.2.2.2.2.1 - z1).toNat else (z1 - h.2.2.2.1).toNat := by
                    unfold ai_mz
                    rw [hh, hz1]
                  have e2 : ai_mz mj up hs vs' = if up = true then (h.2.2.2.2.1 - z2).toNat else (z2 - h.2.2.2.1).toNat := by
                    unfold ai_mz
                    rw [hh, hz2]
                  rw [e1] at hm
                  rw [e2]
                  split at hms
                  · rename_i hup
                    have := ai_ge_ok g2.1 hold c1 hms
                    rw [if_pos hup] at hm ⊢
                    omega
                  · rename_i hup
                    simp only [Bool.and_eq_true, decide_eq_true_eq] at hms
                    rw [hms.1, hold] at c1
                    cases c1
                    rw [if_neg hup] at hm ⊢
                    omega
                · cases hit
              · cases hms
            · cases hms
          · exact (k z (List.mem_filter.mpr ⟨hz, by simp [hpc]⟩)).up (hx.tr ⟨vs, rfl⟩)
      exact key (ai_mz mj up hs vs + 1) vs lv' ws H locs ls (Nat.lt_succ_self _) v1 v2 hP hD hS ⟨hl.1, hl.2.1, fun q hq => hl.2.2 q (hsub q hq)⟩
    · cases hq
  · cases hq
def ai_all (f : ai_s → Option (List ai_s)) : List ai_s → Option (List ai_s)
  | [] => some []
  | z :: t => (f z).bind fun a => (ai_all f t).map fun b => a ++ b
theorem ai_all_ok {f : ai_s → Option (List ai_s)} : ∀ {zs ys : List ai_s}, ai_all f zs = some ys → ∀ z ∈ zs, ∃ a, f z = some a ∧ ∀ q ∈ a, q ∈ ys
  | [], _, _, _, hz => by cases hz
  | z :: t, ys, h, w, hw => by
    obtain ⟨a, h1, h⟩ := Option.bind_eq_some_iff.mp (show (f z).bind _ = some ys from h)
    obtain ⟨b', h2, rfl⟩ := Option.map_eq_some_iff.mp h
    rcases List.mem_cons.mp hw with rfl | hw
    · exact ⟨a, h1, fun q hq => List.mem_append_left _ hq⟩
    · obtain ⟨a', h3, h4⟩ := ai_all_ok h2 w hw
      exact ⟨a', h3, fun q hq => List.mem_append_right _ (h4 q hq)⟩
/-- a call's row: (its number, kind, method, arguments, the receiver's class): 0 virtual, 1 static, 2 a nest mate's, 3 Math.min, 4 Math.max, 5 arraycopy -/
abbrev ai_l5 : Type := Nat × Nat × Nat × Nat × Nat
def ai_lok (MT : List ai_m) (own : String) (q : ai_l5) : Prop := match q.2.1 with
  | 0 => ∃ (M' : ai_m) (r : vw_C), MT[q.2.2.1]? = some M' ∧ vwCl[q.2.2.2.2]? = some r ∧ GoodIn ai_GT (wsV own q.1 r.1 M'.1 (ai_ws M')) ∧ (M'.1.cls = r.1 ∧ M'.1.cls ≠ "java/lang/invoke/MethodHandle" ∧ M'.1.cls ≠ "java/lang/invoke/VarHandle" ∧ (parseMethodDescriptor M'.1.desc).map (fun d => d.parameters.length) = some q.2.2.2.1)
  | 1 => ∃ M' : ai_m, MT[q.2.2.1]? = some M' ∧ GoodIn ai_GT (va_wsS own q.1 M'.1 (ai_ws M')) ∧ (M'.1.cls ≠ "java/lang/invoke/MethodHandle" ∧ M'.1.cls ≠ "java/lang/invoke/VarHandle" ∧ (parseMethodDescriptor M'.1.desc).map (fun d => d.parameters.length) = some q.2.2.2.1)
  | 2 => ∃ (M' : ai_m) (host : String), MT[q.2.2.1]? = some M' ∧ Cond.methodLinkNest own q.1 M'.1 host ∈ ai_NW ∧ GoodIn ai_GT (ai_ws M') ∧ Cond.static M'.1 ∈ ai_GT ∧ Cond.initialized M'.1.cls ∈ ai_GT ∧ (M'.1.cls ≠ "java/lang/invoke/MethodHandle" ∧ M'.1.cls ≠ "java/lang/invoke/VarHandle" ∧ (parseMethodDescriptor M'.1.desc).map (fun d => d.parameters.length) = some q.2.2.2.1)
  | 3 => Cond.methodLink own q.1 Lib.Math.min.name ∈ ai_GT ∧ Cond.static Lib.Math.min.name ∈ ai_GT ∧ Cond.initialized "java/lang/Math" ∈ ai_GT ∧ Cond.code Lib.Math.min.name Lib.Math.min.code 2 (some .int) ∈ ai_GT
  | 4 => Cond.methodLink own q.1 Lib.Math.max.name ∈ ai_GT ∧ Cond.static Lib.Math.max.name ∈ ai_GT ∧ Cond.initialized "java/lang/Math" ∈ ai_GT ∧ Cond.code Lib.Math.max.name Lib.Math.max.code 2 (some .int) ∈ ai_GT
  | _ => Cond.methodLink own q.1 arraycopyName ∈ ai_GT ∧ Cond.native arraycopyName ∈ ai_GT ∧ Cond.static arraycopyName ∈ ai_GT ∧ Cond.initialized "java/lang/System" ∈ ai_GT
/-- the ends of a method made one: what was known and still is, the answer by its bounds -/
def ai_mv (x : ai_s) : ai_s := (0, (match x.2.2.1 with
  | [v] => [(0, v)]
  | _ => []), [], x.2.2.2.1, x.2.2.2.2.1, x.2.2.2.2.2)
/-- how the ends of a method are made one: (method, by its answer too, by these places, with these places kept) -/
abbrev ai_g : Type := Nat × Bool × List (Nat × Nat) × List (Nat × Nat)
def ai_mk (n0 : Nat) (xs : List ai_s) : List ai_k := (xs.headD (0, [], [], [], [], [])).2.2.2.2.1.filter fun q => decide (q.2.2.2.1 < n0) && decide (q.2.2.2.2.1 < n0) && xs.all fun x => decide (ai_lk x.2.2.2.2.1 q.1 q.2.1 = some q.2.2)
def ai_hu (xs : List ai_s) (f : ai_s → Option ai_v) : Int × Int := xs.foldl (fun w x => match (f x).bind fun v => ai_il2 x.2.2.2.1 v with
  | some p => (min w.1 p.1, max w.2 p.2)
  | none => w) (9223372036854775807, -9223372036854775808)
/-- the kept places' items: those that all the ends know -/
def ai_ki (n0 : Nat) (kn : List ai_k) (xs : List ai_s) : Nat → List (Nat × Nat) → List ai_h
  | _, [] => []
  | j, q :: t => if xs.all (fun x => (ai_lk x.2.2.2.2.1 q.1 q.2).isSome) = true then
      (1, q.1, q.2, (ai_hu xs fun x => ai_lk x.2.2.2.2.1 q.1 q.2).1, (ai_hu xs fun x => ai_lk x.2.2.2.2.1 q.1 q.2).2, false, (match ai_lk kn q.1 q.2 with
        | some v => if xs.all (fun x => (ai_lk x.2.2.2.2.1 q.1 q.2).any fun w => ai_ge x.2.2.2.1 v.2.1 (v.2.2.2 + 1) 12 w.2.1 w.2.2.2) = true then (v.2.1, v.2.2.2 + 1)
          else if xs.all (fun x => (ai_lk x.2.2.2.2.1 q.1 q.2).any fun w => ai_ge x.2.2.2.1 v.2.1 v.2.2.2 12 w.2.1 w.2.2.2) = true then (v.2.1, v.2.2.2) else (n0 + j, 0)
        | none => (n0 + j, 0))) :: ai_ki n0 kn xs (j + 1) t
    else ai_ki n0 kn xs j t
def ai_kk (n0 : Nat) : Nat → List ai_h → List ai_k
  | _, [] => []
  | j, h :: t => if h.1 = 1 then (h.2.1, h.2.2.1, (1, n0 + j, 0, 0)) :: ai_kk n0 (j + 1) t else ai_kk n0 (j + 1) t
/-- one end for many -/
def ai_m1 (en : List ai_e) (sb : List ai_b) (hs : List ai_h) (rv : List ai_v) (kn' : List ai_k) (xs : List ai_s) : Option ai_s :=
  if rv.length ≤ 1 ∧ (xs.all fun x => decide (x.2.2.1.length = rv.length) && ai_lq en.length hs (0, rv.map (fun v => (0, v)), [], en ++ hs.map ai_en, kn', sb) (ai_mv x)) = true then some (0, [], rv, en ++ hs.map ai_en, kn', sb) else none
theorem ai_m1_ok {r t : List Int} {hs : List ai_h} {rv : List ai_v} {xs : List ai_s} {z y : ai_s} {lvx : List (Nat × Value)} {skx : List Value} {ws : va_W} (hn : 1 < en.length) (g1 : ai_ok r en) (g2 : ai_sb w0 r sb) (hz : z ∈ xs) (g : ai_gm TY WR w0 ad b L sx tys false (r ++ t) z lvx skx ws) (hq : ai_m1 en sb hs rv kn' xs = some y) :
    ∃ r', ai_x r r' ∧ ai_gm TY WR w0 ad b L sx tys false r' y [] skx ws := by
  obtain ⟨f1, f2, f3, f4, f5, f6, f7, -⟩ := g
  unfold ai_m1 at hq
  split at hq
  · rename_i hc
    obtain ⟨hrv, hall⟩ := hc
    injection hq with hq
    subst hq
    have h1 := List.all_eq_true.mp hall z hz
    rw [Bool.and_eq_true, decide_eq_true_eq] at h1
    match rv, hrv, h1 with
    | [], _, h1 =>
      have he : z.2.2.1 = [] := List.eq_nil_of_length_eq_zero h1.1
      rw [he] at f4
      have hs0 := f4.nil
      subst hs0
      have hmv : ai_gm TY WR w0 ad b L sx tys false (r ++ t) (ai_mv z) [] [] ws := ⟨f1, f2, by unfold ai_mv; rw [he]; trivial, trivial, f5, f6, f7, fun h => by cases h⟩
      obtain ⟨vs, lv', v1, v2, -, hsub, -⟩ := ai_lq_ok (I := (0, [], [], en ++ hs.map ai_en, kn', sb)) (en := en) rfl rfl g1 rfl hn (fun h => by cases h) g2 hmv h1.2
      have hlv : lv' = [] := by
        cases lv' with
        | nil => rfl
        | cons a l => exact absurd (hsub a List.mem_cons_self) List.not_mem_nil
      subst hlv
      exact ⟨r ++ vs, ⟨vs, rfl⟩, v2⟩
    | [v], _, h1 =>
      obtain ⟨w, hw⟩ : ∃ w, z.2.2.1 = [w] := by
        have := h1.1
        match hh : z.2.2.1 with
        | [] => rw [hh] at this; cases this
        | [w] => exact ⟨w, rfl⟩
        | _ :: _ :: _ => rw [hh] at this; simp at this
      rw [hw] at f4
      obtain ⟨x, s1, rfl, dx, k5⟩ := f4.cons
      have hs0 := k5.nil
      subst hs0
      have hmv : ai_gm TY WR w0 ad b L sx tys false (r ++ t) (ai_mv z) [(0, x)] [] ws := ⟨f1, f2, by unfold ai_mv; rw [hw]; exact ⟨rfl, dx, trivial⟩, trivial, f5, f6, f7, fun h => by cases h⟩
      obtain ⟨vs, lv', v1, v2, -, hsub, -⟩ := ai_lq_ok (I := (0, [(0, v)], [], en ++ hs.map ai_en, kn', sb)) (en := en) rfl rfl g1 rfl hn (fun h => by cases h) g2 hmv h1.2
      obtain ⟨u1, u2, u3, u4, u5, u6, u7, u8⟩ := v2
      refine ⟨r ++ vs, ⟨vs, rfl⟩, u1, u2, trivial, ⟨?_, trivial⟩, u5, u6, u7, u8⟩
      match lv', u3, hsub with
      | [a], u3, hsub =>
        have ha := List.mem_singleton.mp (hsub a List.mem_cons_self)
        have := u3.2.1
        rw [ha] at this
        exact this
      | [], u3, _ => exact u3.elim
      | _ :: _ :: _, u3, _ => exact u3.2.2.elim
  · cases hq
def ai_key (g : ai_g) (x : ai_s) : List (Option (Int × Int)) × List (Option (Int × Int)) := (if g.2.1 = true then x.2.2.1.map (ai_il2 x.2.2.2.1) else [], g.2.2.1.map fun q => (ai_lk x.2.2.2.2.1 q.1 q.2).bind (ai_il2 x.2.2.2.1))
def ai_mgrp (n0 : Nat) (kn : List ai_k) (g : ai_g) (xs : List ai_s) : List ai_h × List ai_v × List ai_k :=
  match (xs.headD (0, [], [], [], [], [])).2.2.1 with
  | v :: _ => if v.2.1 < n0 ∧ (xs.all fun x => decide (x.2.2.1 = [v])) = true then (ai_ki n0 kn xs 0 g.2.2.2, [v], ai_kk n0 0 (ai_ki n0 kn xs 0 g.2.2.2) ++ ai_mk n0 xs)
      else ((0, 0, 0, (ai_hu xs fun x => x.2.2.1.head?).1, (ai_hu xs fun x => x.2.2.1.head?).2, false, n0, 0) :: ai_ki n0 kn xs 1 g.2.2.2, [(v.1, n0, 0, 0)], ai_kk n0 1 (ai_ki n0 kn xs 1 g.2.2.2) ++ ai_mk n0 xs)
  | [] => (ai_ki n0 kn xs 0 g.2.2.2, [], ai_kk n0 0 (ai_ki n0 kn xs 0 g.2.2.2) ++ ai_mk n0 xs)
def ai_mgs (en : List ai_e) (kn : List ai_k) (sb : List ai_b) (g : ai_g) : Nat → List ai_s → Option (List ai_s)
  | _, [] => some []
  | 0, _ => none
  | n + 1, x0 :: t => (ai_m1 en sb (ai_mgrp en.length kn g ((x0 :: t).filter fun x => decide (ai_key g x = ai_key g x0))).1 (ai_mgrp en.length kn g ((x0 :: t).filter fun x => decide (ai_key g x = ai_key g x0))).2.1 (ai_mgrp en.length kn g ((x0 :: t).filter fun x => decide (ai_key g x = ai_key g x0))).2.2 ((x0 :: t).filter fun x => decide (ai_key g x = ai_key g x0))).bind fun y =>
      (ai_mgs en kn sb g n ((x0 :: t).filter fun x => !decide (ai_key g x = ai_key g x0))).map fun ys => y :: ys
theorem ai_mgs_ok {r t : List Int} {g : ai_g} {z : ai_s} {lvx : List (Nat × Value)} {skx : List Value} {ws : va_W} (hn : 1 < en.length) (g1 : ai_ok r en) (g2 : ai_sb w0 r sb) (gg : ai_gm TY WR w0 ad b L sx tys false (r ++ t) z lvx skx ws) : ∀ {n : Nat} {xs ys : List ai_s}, z ∈ xs → ai_mgs en kn sb g n xs = some ys →
    ∃ y ∈ ys, ∃ r', ai_x r r' ∧ ai_gm TY WR w0 ad b L sx tys false r' y [] skx ws
  | _, [], _, hz, _ => by cases hz
  | 0, _ :: _, _, _, hq => by cases hq
  | n + 1, x0 :: tt, ys, hz, hq => by
    obtain ⟨y, h1, hq⟩ := Option.bind_eq_some_iff.mp (show (ai_m1 _ _ _ _ _ _).bind _ = some ys from hq)
    obtain ⟨ys', h2, rfl⟩ := Option.map_eq_some_iff.mp hq
    by_cases hk : ai_key g z = ai_key g x0
    · obtain ⟨r', e1, e2⟩ := ai_m1_ok hn g1 g2 (List.mem_filter.mpr ⟨hz, decide_eq_true hk⟩) gg h1
      exact ⟨y, List.mem_cons_self, r', e1, e2⟩
    · obtain ⟨y', hy, r', e1, e2⟩ := ai_mgs_ok hn g1 g2 gg (List.mem_filter.mpr ⟨hz, by simp [hk]⟩) h2
      exact ⟨y', List.mem_cons_of_mem _ hy, r', e1, e2⟩
/-- the walk of a callee with these arguments, and what comes back -/
def ai_go (MT : List ai_m) (MG : List ai_g) (rec : ai_R) (d mid : Nat) (fa k : List ai_v) (pc' : Nat) (lo : List (Nat × ai_v)) (en : List ai_e) (kn : List ai_k) (sb : List ai_b) : Option (List ai_s) :=
  (MT[mid]?).bind fun M' => if 1 ≤ d ∧ M'.2.2.2.2.1 = false ∧ M'.2.2.1 ≤ 17 ∧ (k.map ai_wd1).sum ≤ 8 ∧ (fa.map ai_wd1).sum ≤ M'.2.2.1 then
    (rec mid M' (d - 1) [] (0, ai_args 0 fa, [], en, kn, sb)).bind fun xs => if xs.all (ai_rt M') = true then (match MG.find? fun g => Nat.beq g.1 mid with
      | some g => (ai_mgs en kn sb g xs.length xs).map fun ys => ys.map (ai_bk pc' lo k)
      | none => some (xs.map (ai_bk pc' lo k))) else none else none
def ai_call (TY : List ai_c) (WR : List (Nat × Nat × Nat)) (MT : List ai_m) (MG : List ai_g) (rec : ai_R) (d : Nat) (M : ai_m) (ins : Instr) (len pc : Nat) (lo : List (Nat × ai_v)) (sk : List ai_v) (en : List ai_e) (kn : List ai_k) (sb : List ai_b) : Option (List ai_s) := match ins, len with
  | .invokevirtual i, 3 => (M.2.2.2.2.2.2.2.2.2.2.1.find? fun q => Nat.beq q.1 i).bind fun q => if q.2.1 = 0 ∧ q.2.2.2.1 ≤ sk.length then (match sk.drop q.2.2.2.1 with
      | rv :: k => (TY[rv.2.1]?).bind fun t => if rv.1 = 0 ∧ t.1 = 0 ∧ t.2.1 = q.2.2.2.2 then ai_go MT MG rec d q.2.2.1 (rv :: (sk.take q.2.2.2.1).reverse) k (pc + 3) lo en kn sb else none
      | _ => none) else none
  | .invokestatic i, 3 => (M.2.2.2.2.2.2.2.2.2.2.1.find? fun q => Nat.beq q.1 i).bind fun q =>
      if (q.2.1 = 1 ∨ q.2.1 = 2) ∧ q.2.2.2.1 ≤ sk.length then ai_go MT MG rec d q.2.2.1 (sk.take q.2.2.2.1).reverse (sk.drop q.2.2.2.1) (pc + 3) lo en kn sb
      else if q.2.1 = 3 ∧ 1 ≤ d ∧ (sk.map ai_wd1).sum ≤ 8 then ai_n2 ai_min (pc + 3) lo sk en kn sb
      else if q.2.1 = 4 ∧ 1 ≤ d ∧ (sk.map ai_wd1).sum ≤ 8 then ai_n2 ai_max (pc + 3) lo sk en kn sb
      else if 5 ≤ q.2.1 ∧ 1 ≤ d then ai_ncp TY WR (pc + 3) lo sk en kn sb else none
  | _, _ => none
end AIW
