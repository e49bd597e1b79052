/-! calls are sound; the walk is sound -/
/-- how deep a known method must go -/
def ai_gd (mid : Nat) : Nat := if (Nat.beq mid 37 || Nat.beq mid 150) = true then 6 else if Nat.beq mid 34 = true then 4 else if (Nat.beq mid 103 || Nat.beq mid 104) = true then 5 else if Nat.beq mid 106 = true then 7 else if (Nat.beq mid 48 || Nat.beq mid 109) = true then 10 else 3
section AIY
variable {TY : List ai_c} {WR : List (Nat × Nat × Nat)} {w0 : va_W} {ad : List Nat} {M : ai_m} {d : Nat} {p : Program} {l : Launch} {e : Env} {R : Room} {s : State} {m : MethodId} {args : Array Value} {below : List Frame} {meth : Method} {c : Code} {D : va_G} {tys : ai_ty} {A : Nat → Prop} {b L : Nat} {sx : Nat → Int32} {cells slots : Nat} {Q : State → Prop} {r0 : List Int} {pc pc' : Nat} {lo : List (Nat × ai_v)} {sk : List ai_v} {en en' : List ai_e} {kn kn' : List ai_k} {sb sb' : List ai_b} {x y v : ai_v} {ss : List ai_s} {MT : List ai_m} {MG : List ai_g} {rec : ai_R}
theorem ai_go_ok (hS : ai_SR TY WR MT rec) (hMT : ∀ M ∈ MT, ai_mok M ∧ plainName M.1.cls = true) (C : ai_cx M d p R s m args c D tys A b L sx cells slots) (hn : 1 < en.length) {mid : Nat} {fa k : List ai_v} (hq : ai_go MT MG rec d mid fa k (pc + 3) lo en kn sb = some ss) (hk : ∀ st ∈ ss, ai_G TY WR w0 ad M p l e R s m args below meth c D tys A b L sx cells slots Q r0 st)
    {r : List Int} {lv : List (Nat × Value)} {vals rest stk : List Value} {ws : va_W} {H : Heap} {locs : List Loc} {ls : Array Slot} (hx : ai_x r0 r) (g1 : ai_ok r en) (g2 : ai_sb w0 r sb) (g3 : ai_lo ad b r lo lv) (gf : ai_sk ad b r fa vals) (gk : ai_sk ad b r k rest) (g5 : ai_wd TY ad tys ws) (g6 : ai_kn ad b r ws kn) (g7 : ai_fr WR w0 ws) (g8 : M.2.2.2.2.1 = true → ai_sx L sx r) (hP : va_P D vwCl ws H) (hD : va_D A ws) (hS' : va_S A s.heap H locs) (hl : lv_has ls M.2.2.1 lv)
    (row : ∀ (M' : ai_m) (Qc : Array Value → State → Outcome → State → Prop), MT[mid]? = some M' → 1 ≤ d → M'.2.2.1 ≤ 17 → (rest.map fun v => v.category).sum ≤ 8 → Met l M'.1 (ai_ws M') (ai_rm (d - 1)) (va_Pc vals (fun U => U.heap = H ∧ va_K D vwCl tys U ∧ ai_nj A U)) Qc 0 0 A → va_Run p l e R s m args below meth c H locs cells slots 0 0 (F0 m pc ls stk) rest (Qc vals.toArray) A) :
    W p l e R s m args below meth c H locs cells slots Q (F0 m pc ls stk) := by
  unfold ai_go at hq
  obtain ⟨M', hM', hq⟩ := Option.bind_eq_some_iff.mp hq
  split at hq
  · rename_i hc
    obtain ⟨c1, c2, c3, c4, c5⟩ := hc
    obtain ⟨xs', hxs, hq⟩ := Option.bind_eq_some_iff.mp hq
    split at hq
    · rename_i hrt
      have hrt' : ∀ x ∈ xs', ai_rt M' x = true := fun x hx => List.all_eq_true.mp hrt x hx
      have met := ai_met (L := L) (sx := sx) (w0 := w0) hS hMT hM' c2 hxs hrt' c5 g1 g2 gf g5 g6 g7 hP hD (fun q hq => C.2.2.2.2.2.2.2.1 q (Nat.le_trans hS'.1 hq)) l
      refine ai_callW (row M' _ hM' c1 c3 (by rw [ai_sum gk]; exact c4) met) (fun v0 st₀ t LL h0 hL hQ => ?_)
      obtain ⟨⟨x, hxm, r', lvx, skx, wsx, e1, e2, e3, e4, e5⟩, hF⟩ := hQ
      injection e5 with e5
      subst e5
      rw [ai_rt_short (hrt' x hxm) e2.2.2.2.1]
      split at hq
      · obtain ⟨ys, hy1, hy2⟩ := Option.map_eq_some_iff.mp hq
        subst hy2
        obtain ⟨tt, rfl⟩ := e1
        obtain ⟨y, hym, r2, e1, f1, f2, f3, f4, f5, f6, f7, -⟩ := ai_mgs_ok hn g1 g2 e2 hxm hy1
        exact hk (ai_bk (pc + 3) lo k y) (List.mem_map.mpr ⟨y, hym, rfl⟩) r2 lv (skx ++ rest) wsx t.heap (locs ++ LL) ls (hx.tr e1) ⟨f1, f2, g3.mono e1, f4.join (gk.mono e1), f5, f6, f7, ai_sc1 e1 (by rw [g1.1]; exact hn) g8⟩ e3 e4 (ai_SF hS' h0 hF hL) hl
      · injection hq with hq
        subst hq
        obtain ⟨f1, f2, f3, f4, f5, f6, f7, -⟩ := e2
        exact hk (ai_bk (pc + 3) lo k x) (List.mem_map.mpr ⟨x, hxm, rfl⟩) r' lv (skx ++ rest) wsx t.heap (locs ++ LL) ls (hx.tr e1) ⟨f1, f2, g3.mono e1, f4.join (gk.mono e1), f5, f6, f7, ai_sc1 e1 (by rw [g1.1]; exact hn) g8⟩ e3 e4 (ai_SF hS' h0 hF hL) hl
    · cases hq
  · cases hq
theorem ai_roomOK (C : ai_cx M d p R s m args c D tys A b L sx cells slots) (h1 : 1 ≤ d) {M' : ai_m} (h2 : M'.2.2.1 ≤ 17) : (ai_rm (d - 1)).frames + 1 ≤ R.frames ∧ 8 + (M'.2.2.1 + 11) + (ai_rm (d - 1)).locals ≤ R.locals := by
  have a1 := C.2.2.2.2.2.2.2.2.1.1
  have a2 := C.2.2.2.2.2.2.2.2.1.2.1
  constructor
  · show d - 1 + 1 ≤ _
    omega
  · show 8 + (M'.2.2.1 + 11) + 36 * (d - 1) ≤ _
    omega
theorem ai_Jmm (C : ai_cx M d p R s m args c D tys A b L sx cells slots) {F : List ai_e → List ai_b → ai_v → ai_v → Option ai_q} {f : Int32 → Int32 → Int32} (hO : ai_O2 F (fun _ => True) f) (hn : 1 < en.length) (hq : ai_n2 F pc' lo sk en kn sb = some ss) (hw : (sk.map ai_wd1).sum ≤ 8)
    (row : ∀ (H : Heap) (locs : List Loc) (ls : Array Slot) (rest : List Value) (i j : Int32), ls.size = M.2.2.1 → (rest.map fun v => v.category).sum ≤ 8 → W p l e R s m args below meth c H locs cells slots Q (F0 m pc' ls (.int (f i j) :: rest)) → W p l e R s m args below meth c H locs cells slots Q (F0 m pc ls (.int j :: .int i :: rest)))
    (k : ∀ st ∈ ss, ai_G TY WR w0 ad M p l e R s m args below meth c D tys A b L sx cells slots Q r0 st) : ai_G TY WR w0 ad M p l e R s m args below meth c D tys A b L sx cells slots Q r0 (pc, lo, sk, en, kn, sb) := by
  unfold ai_n2 at hq
  split at hq
  · rename_i y x sk'
    obtain ⟨q, h1, rfl⟩ := Option.map_eq_some_iff.mp hq
    intro r lv skc ws H locs ls hx g hP hD hS hl
    obtain ⟨g1, g2, g3, g4, g5, g6, g7, g8⟩ := g
    obtain ⟨vy, s1, rfl, dy, k4⟩ := g4.cons
    obtain ⟨vx, s2, rfl, dx, k5⟩ := k4.cons
    obtain ⟨i, j, rfl, rfl, -, r', e1, e2, e3, e4⟩ := hO w0 ad b r en sb x y vx vy q g1 g2 dx dy h1
    have hsum := ai_sum k5
    have hw' : (sk'.map ai_wd1).sum ≤ 8 := by
      rw [List.map_cons, List.map_cons, List.sum_cons, List.sum_cons] at hw
      omega
    exact row H locs ls s2 i j hl.1 (by rw [hsum]; exact hw') (k _ (List.mem_singleton.mpr rfl) r' lv _ ws H locs ls (hx.tr e1) ⟨e2, e3, g3.mono e1, ⟨e4, k5.mono e1⟩, g5, g6.mono e1, g7, ai_sc1 e1 (by rw [g1.1]; exact hn) g8⟩ hP hD hS hl)
  · cases hq
theorem ai_call_ok (hS : ai_SR TY WR MT rec) (hMT : ∀ M ∈ MT, ai_mok M ∧ plainName M.1.cls = true) (hML : ∀ q ∈ M.2.2.2.2.2.2.2.2.2.2.1, ai_lok MT M.1.cls q) (C : ai_cx M d p R s m args c D tys A b L sx cells slots) {ins : Instr} {len : Nat} (hn : 1 < en.length) (hd : decode M.2.1 pc = .ok (ins, len)) (hq : ai_call TY WR MT MG rec d M ins len pc lo sk en kn sb = some ss) (k : ∀ st ∈ ss, ai_G TY WR w0 ad M p l e R s m args below meth c D tys A b L sx cells slots Q r0 st) : ai_G TY WR w0 ad M p l e R s m args below meth c D tys A b L sx cells slots Q r0 (pc, lo, sk, en, kn, sb) := by
  unfold ai_call at hq
  split at hq
  · rename_i i
    obtain ⟨q, h1, hq⟩ := Option.bind_eq_some_iff.mp hq
    have h2 := List.find?_some h1
    have h2 := ai_beq.mp h2
    have h3 := hML q (List.mem_of_find?_eq_some h1)
    split at hq
    · rename_i hc
      split at hq
      · rename_i rv k0 hk0
        obtain ⟨t, ht, hq⟩ := Option.bind_eq_some_iff.mp hq
        split at hq
        · rename_i hc2
          unfold ai_lok at h3
          rw [hc.1] at h3
          obtain ⟨M', rr, m1, m2, m3, m4⟩ := h3
          intro r lv skc ws H locs ls hx g hP hD hS' hl
          obtain ⟨g1, g2, g3, g4, g5, g6, g7, g8⟩ := g
          have hsplit : sk = sk.take q.2.2.2.1 ++ (rv :: k0) := by rw [← hk0, List.take_append_drop]
          have g4' : ai_sk ad b r (sk.take q.2.2.2.1 ++ (rv :: k0)) skc := by rw [← hsplit]; exact g4
          obtain ⟨xs1, ys1, rfl, s1, s2⟩ := g4'.app
          obtain ⟨vr, rest, rfl, dr, s3⟩ := s2.cons
          obtain ⟨a, e1, w1, w2, w3⟩ := g5.get ht
          cases ai_ref0 dr hc2.1 w2
          rcases w3 with ⟨-, fs, rfl, -⟩ | ⟨q1, -⟩ | ⟨q1, -⟩ | ⟨q1, -⟩
          · rw [hc2.2.2] at w1
            refine ai_go_ok (vals := .ref a :: xs1.reverse) (rest := rest) hS hMT C hn hq k hx g1 g2 g3 ⟨dr, s1.rev⟩ s3 g5 g6 g7 g8 hP hD hS' hl (fun M2 Qc n1 n2 n3 n4 met => ?_)
            rw [m1] at n1
            cases n1
            have hlen : xs1.reverse.length = q.2.2.2.1 := by
              rw [List.length_reverse, s1.len, List.length_take]
              omega
            exact va_runV (C := rr.1) (As := xs1.reverse) (rest := rest) (Ts := ai_GT) (own := M.1.cls) ⟨C.1, C.2.1, C.2.2.1, C.2.2.2.1, C.2.2.2.2.1⟩ met (cwV q.2.2.2.1 C.2.2.2.2.1 (by rw [← h2]; exact m3) rfl rfl rfl m4 (ai_roomOK C n2 n3)) ⟨ai_PcB, va_recv C.2.2.2.2.2.2.1 hP m2 w1, ai_PcW C hS'⟩ rfl hlen hl.1 (by rw [List.reverse_reverse]) (lv_room n4) hd ⟨C.2.2.2.2.2.2.2.2.1.2.2.1, C.2.2.2.2.2.2.2.2.1.2.2.2⟩
          · omega
          · omega
          · omega
        · cases hq
      · cases hq
    · cases hq
  · rename_i i
    obtain ⟨q, h1, hq⟩ := Option.bind_eq_some_iff.mp hq
    have h2 := List.find?_some h1
    have h2 := ai_beq.mp h2
    have h3 := hML q (List.mem_of_find?_eq_some h1)
    have hrooms := C.2.2.2.2.2.2.2.2.1
    split at hq
    · rename_i hc
      intro r lv skc ws H locs ls hx g hP hD hS' hl
      obtain ⟨g1, g2, g3, g4, g5, g6, g7, g8⟩ := g
      have g4' : ai_sk ad b r (sk.take q.2.2.2.1 ++ sk.drop q.2.2.2.1) skc := by rw [List.take_append_drop]; exact g4
      obtain ⟨xs1, rest, rfl, s1, s3⟩ := g4'.app
      have hlen : xs1.reverse.length = q.2.2.2.1 := by
        rw [List.length_reverse, s1.len, List.length_take]
        omega
      refine ai_go_ok (vals := xs1.reverse) (rest := rest) hS hMT C hn hq k hx g1 g2 g3 s1.rev s3 g5 g6 g7 g8 hP hD hS' hl (fun M2 Qc n1 n2 n3 n4 met => ?_)
      unfold ai_lok at h3
      rcases hc.1 with hk | hk
      · rw [hk] at h3
        obtain ⟨M', m1, m3, m4⟩ := h3
        rw [m1] at n1
        cases n1
        exact va_runS (As := xs1.reverse) (rest := rest) (Ts := ai_GT) (own := M.1.cls) ⟨C.1, C.2.1, C.2.2.1, C.2.2.2.1, C.2.2.2.2.1⟩ met (va_cwS q.2.2.2.1 C.2.2.2.2.1 (by rw [← h2]; exact m3) rfl rfl rfl m4 (ai_roomOK C n2 n3)) ⟨ai_PcB, ai_PcW C hS'⟩ rfl hlen hl.1 (by rw [List.reverse_reverse]) (lv_room n4) hd ⟨hrooms.2.2.1, hrooms.2.2.2⟩
      · rw [hk] at h3
        obtain ⟨M', host, m1, m2, m3, m5, m6, m4⟩ := h3
        rw [m1] at n1
        cases n1
        rw [h2] at m2
        exact va_runSN (As := xs1.reverse) (rest := rest) (Ts := ai_GT) (own := M.1.cls) ⟨C.1, C.2.1, C.2.2.1, C.2.2.2.1, C.2.2.2.2.1⟩ met ⟨va_cnB q.2.2.2.1 C.2.2.2.2.1 m3 rfl rfl rfl (C.2.2.2.2.2.1.1 _ m2) (C.2.2.2.2.1 _ m6) m4 (ai_roomOK C n2 n3), C.2.2.2.2.1 _ m5, trivial⟩ ⟨ai_PcB, ai_PcW C hS'⟩ rfl hlen hl.1 (by rw [List.reverse_reverse]) (lv_room n4) hd ⟨hrooms.2.2.1, hrooms.2.2.2⟩
    · split at hq
      · rename_i hc
        unfold ai_lok at h3
        rw [hc.1] at h3
        obtain ⟨a1, a2, a3, a4⟩ := h3
        rw [h2] at a1
        exact ai_Jmm C ai_min_ok hn hq hc.2.2 (fun H locs ls rest i j hsz hsum kk => va_mmin C.1 C.2.1 (by rw [C.2.2.1, hsz]) C.2.2.2.1 (C.2.2.2.2.1 _ a1) (C.2.2.2.2.1 _ a2) (C.2.2.2.2.1 _ a3) (C.2.2.2.2.1 _ a4) (by omega) (by omega) hrooms.2.2.1 hrooms.2.2.2 hd kk) k
      · split at hq
        · rename_i hc
          unfold ai_lok at h3
          rw [hc.1] at h3
          obtain ⟨a1, a2, a3, a4⟩ := h3
          rw [h2] at a1
          exact ai_Jmm C ai_max_ok hn hq hc.2.2 (fun H locs ls rest i j hsz hsum kk => va_mmax C.1 C.2.1 (by rw [C.2.2.1, hsz]) C.2.2.2.1 (C.2.2.2.2.1 _ a1) (C.2.2.2.2.1 _ a2) (C.2.2.2.2.1 _ a3) (C.2.2.2.2.1 _ a4) (by omega) (by omega) hrooms.2.2.1 hrooms.2.2.2 hd kk) k
        · split at hq
          · rename_i hc
            unfold ai_lok at h3
            obtain ⟨z, hz⟩ : ∃ z, q.2.1 = z + 5 := ⟨q.2.1 - 5, by omega⟩
            rw [hz] at h3
            obtain ⟨a1, a2, a3, a4⟩ := h3
            rw [h2] at a1
            exact ai_ncp_ok C hc.2 a1 a2 a3 a4 hd hq k
          · cases hq
  · cases hq
end AIY
def ai_rs (n0 : Nat) (st : ai_s) : Nat → List (Nat × Nat × Nat × Int × Int × Bool × Bool) → List ai_h
  | _, [] => []
  | j, q :: t => (q.1, q.2.1, q.2.2.1, q.2.2.2.1, q.2.2.2.2.1, q.2.2.2.2.2.1, (if q.2.2.2.2.2.2 = true then (match ai_pv st (q.1, q.2.1, q.2.2.1, 0, 0, false, 0, 0) with
      | some v => (v.2.1, v.2.2.2)
      | none => (n0 + j, 0)) else (n0 + j, 0))) :: ai_rs n0 st (j + 1) t
def ai_nm (n0 : Nat) (k a i : Nat) : Nat → List (Nat × Nat × Nat × Int × Int × Bool × Bool) → Option ai_v
  | _, [] => none
  | j, q :: t => if q.1 = k ∧ q.2.1 = a ∧ q.2.2.1 = i then some (1, n0 + j, 0, 0) else ai_nm n0 k a i (j + 1) t
def ai_hlo (n0 : Nat) (a : ai_a) (lo : List (Nat × ai_v)) : List (Nat × ai_v) := (lo.filter fun q => !(a.2.1.contains q.1)).map fun q => (q.1, (ai_nm n0 0 q.1 0 0 a.1).elim q.2 fun v => (q.2.1, v.2))
def ai_hkn (n0 : Nat) (a : ai_a) (kn : List ai_k) : List ai_k := (kn.filter fun q => decide (ai_lk kn q.1 q.2.1 = some q.2.2) && !(a.2.2.1.any fun w => decide (w.1 = q.1) && decide (w.2.1 ≤ q.2.1) && decide (q.2.1 ≤ w.2.2))).map fun q => (q.1, q.2.1, (ai_nm n0 1 q.1 q.2.1 0 a.1).getD q.2.2)
def ai_isC (i : Instr) : Bool := match i with
  | .invokevirtual _ => true
  | .invokestatic _ => true
  | _ => false
def ai_isR (i : Instr) : Bool := match i with
  | .ireturn => true
  | .lreturn => true
  | .areturn => true
  | .return_ => true
  | _ => false
/-- the fixed tables of a walk: kinds of cells, what may be written, methods, loops, places where a local's values are told apart, methods whose walk is known -/
abbrev ai_K : Type := List ai_c × List (Nat × Nat × Nat) × List ai_m × List (Nat × Nat × Nat) × (Nat → ai_s → Option (List ai_s)) × List ai_g
def ai_one (K : ai_K) (rec : ai_R) (mid d : Nat) (M : ai_m) (ins : Instr) (len : Nat) (cu : List Nat) (st : ai_s) : Option (List ai_s) :=
  (if ai_isC ins = true then ai_call K.1 K.2.1 K.2.2.1 K.2.2.2.2.2 rec d M ins len st.1 st.2.1 st.2.2.1 st.2.2.2.1 st.2.2.2.2.1 st.2.2.2.2.2 else ai_nx K.1 K.2.1 M ins len st.1 st.2.1 st.2.2.1 st.2.2.2.1 st.2.2.2.2.1 st.2.2.2.2.2).bind (ai_all (rec mid M d cu))
def ai_spl (st : ai_s) (v : ai_v) (p : Int × Int) : List ai_s := (List.range ((p.2 - p.1).toNat + 1)).flatMap fun j => match ai_cl st.2.2.2.1 v.2.1 (p.1 + (j : Nat) - v.2.2.2) (p.1 + (j : Nat) - v.2.2.2) with
  | some en' => [(st.1, st.2.1, st.2.2.1, en', st.2.2.2.2.1, st.2.2.2.2.2)]
  | none => []
def ai_sp (st : ai_s) (i : Nat) : Option (List ai_s) := (ai_get st.2.1 i).bind fun v => (ai_i st.2.2.2.1 v).bind fun p => if p.1 = p.2 then none else some (ai_spl st v p)
/-- a list with its rows laid out, for the kernel's sake -/
noncomputable def ai_str {α β : Type} (l : List α) : (List α → β) → β := List.rec (motive := fun _ => (List α → β) → β) (fun k => k []) (fun h _ ih k => ih fun t => k (h :: t)) l
theorem ai_str_eq {α β : Type} (l : List α) : ∀ k : List α → β, ai_str l k = k l := by
  induction l with
  | nil => exact fun _ => rfl
  | cons h t ih => exact fun k => ih (fun t => k (h :: t))
noncomputable def ai_norm {β : Type} (st : ai_s) (k : ai_s → β) : β := ai_str st.2.1 fun lo => ai_str st.2.2.1 fun sk => ai_str st.2.2.2.1 fun en => ai_str st.2.2.2.2.1 fun kn => ai_str st.2.2.2.2.2 fun sb => k (st.1, lo, sk, en, kn, sb)
theorem ai_norm_eq {β : Type} (st : ai_s) (k : ai_s → β) : ai_norm st k = k st := by
  unfold ai_norm
  rw [ai_str_eq, ai_str_eq, ai_str_eq, ai_str_eq, ai_str_eq]
/-- states that come to one place become one: what is old and alike stays, numbers that differ get a new name, all else is forgotten -/
def jn_t (n0 : Nat) (ys : List ai_s) (q : Nat × ai_v) : Nat :=
  if ((decide (q.2.1 = 0) || decide (q.2.1 = 4) || (decide (q.2.2.1 < n0) && decide (q.2.2.2.1 < n0))) && ys.all fun y => decide (ai_get y.2.1 q.1 = some q.2)) = true then 0
  else if ((decide (q.2.1 = 1) || decide (q.2.1 = 2)) && ys.all fun y => (ai_get y.2.1 q.1).any fun w => decide (w.1 = q.2.1)) = true then 1 else 2
def jn_h (n0 : Nat) (ys : List ai_s) : Nat → List (Nat × ai_v) → List ai_h
  | _, [] => []
  | j, q :: t => if Nat.beq (jn_t n0 ys q) 1 = true then (0, q.1, 0, (ai_hu ys fun y => ai_get y.2.1 q.1).1, (ai_hu ys fun y => ai_get y.2.1 q.1).2, false, n0 + j, 0) :: jn_h n0 ys (j + 1) t else jn_h n0 ys j t
def jn_o (n0 : Nat) (ys : List ai_s) : Nat → List (Nat × ai_v) → List (Nat × ai_v)
  | _, [] => []
  | j, q :: t => if Nat.beq (jn_t n0 ys q) 0 = true then q :: jn_o n0 ys j t else if Nat.beq (jn_t n0 ys q) 1 = true then (q.1, (q.2.1, n0 + j, 0, 0)) :: jn_o n0 ys (j + 1) t else jn_o n0 ys j t
def jn_q (n0 : Nat) (ys : List ai_s) (q : ai_k) : Bool := decide (q.2.2.2.1 < n0) && decide (q.2.2.2.2.1 < n0) && ys.all fun x => decide (ai_lk x.2.2.2.2.1 q.1 q.2.1 = some q.2.2)
def jn_p (n0 : Nat) (ys : List ai_s) (kn : List ai_k) : List (Nat × Nat) := (kn.filter fun q => decide (ai_lk kn q.1 q.2.1 = some q.2.2) && !jn_q n0 ys q).map fun q => (q.1, q.2.1)
def jn_1 (go : ai_s → Option (List ai_s)) (tgt : Nat) (st : ai_s) (zs ys : List ai_s) (hs : List ai_h) (lo' : List (Nat × ai_v)) (kn' : List ai_k) : Option (List ai_s) :=
  if (ys.all fun y => ai_lq st.2.2.2.1.length hs (tgt, lo', [], st.2.2.2.1 ++ hs.map ai_en, kn', st.2.2.2.2.2) y) = true then
    (go (tgt, lo', [], st.2.2.2.1 ++ hs.map ai_en, kn', st.2.2.2.2.2)).map fun as => as ++ zs else none
noncomputable def ai_jn (one : List Nat → ai_s → Option (List ai_s)) (go : ai_s → Option (List ai_s)) (tgt : Nat) (cu : List Nat) (st : ai_s) : Option (List ai_s) :=
  (one (tgt :: cu) st).bind fun xs => ai_str (xs.filter fun x => Nat.beq x.1 tgt) fun ys => match ys with
    | [] => some xs
    | y0 :: t => ai_str (jn_h st.2.2.2.1.length (y0 :: t) 0 y0.2.1) fun h1 => ai_str (ai_ki st.2.2.2.1.length st.2.2.2.2.1 (y0 :: t) h1.length (jn_p st.2.2.2.1.length (y0 :: t) y0.2.2.2.2.1)) fun hk =>
      jn_1 go tgt st (xs.filter fun x => !Nat.beq x.1 tgt) (y0 :: t) (h1 ++ hk) (jn_o st.2.2.2.1.length (y0 :: t) 0 y0.2.1) (ai_kk st.2.2.2.1.length h1.length hk ++ y0.2.2.2.2.1.filter (jn_q st.2.2.2.1.length (y0 :: t)))
noncomputable def ai_body0 (K : ai_K) (rec : ai_R) : ai_R := fun mid M d cu st =>
  if cu.any (fun c => Nat.beq c st.1) = true then some [st] else
  match (if (Nat.beq st.1 0 && Nat.ble (ai_gd mid) d) = true then K.2.2.2.2.1 mid st else none) with
  | some xs => some xs
  | none => (M.2.2.2.2.2.1.find? fun q => Nat.beq q.1 st.1).bind fun q =>
    if ai_isR q.2.1 = true then some [(q.1, st.2)]
    else if 1 < st.2.2.2.1.length ∧ ai_z st.2.2.2.1 = true then
      (match (if M.2.2.2.2.1 = true then none else M.2.2.2.2.2.2.2.2.2.2.2.find? fun a => Nat.beq a.1 q.1) with
      | some a => ai_lp (ai_one K rec mid d M q.2.1 q.2.2) cu (q.1, st.2) (ai_rs st.2.2.2.1.length st 0 a.2.1) (ai_hlo st.2.2.2.1.length a.2 st.2.1) (ai_hkn st.2.2.2.1.length a.2 st.2.2.2.2.1) a.2.2.2.2.1 a.2.2.2.2.2
      | none => (match (K.2.2.2.1.find? fun a => Nat.beq a.2.1 q.1 && Nat.beq a.1 mid) with
        | some a => if (Nat.ble 1000 a.2.2 && !M.2.2.2.2.1) = true then ai_jn (ai_one K rec mid d M q.2.1 q.2.2) (rec mid M d cu) (a.2.2 - 1000) cu (q.1, st.2)
          else (match ai_sp (q.1, st.2) a.2.2 with
            | some zs => ai_all (rec mid M d cu) zs
            | none => ai_one K rec mid d M q.2.1 q.2.2 cu (q.1, st.2))
        | none => ai_one K rec mid d M q.2.1 q.2.2 cu (q.1, st.2)))
    else none
noncomputable def ai_body (K : ai_K) (rec : ai_R) : ai_R := fun mid M d cu st => ai_norm st (ai_body0 K rec mid M d cu)
noncomputable def ai_ex (K : ai_K) (n : Nat) : ai_R := Nat.rec (fun _ _ _ _ _ => none) (fun _ rec => ai_body K rec) n
section AIZ
variable {TY : List ai_c} {WR : List (Nat × Nat × Nat)} {w0 : va_W} {ad : List Nat} {M : ai_m} {d : Nat} {p : Program} {l : Launch} {e : Env} {R : Room} {s : State} {m : MethodId} {args : Array Value} {below : List Frame} {meth : Method} {c : Code} {D : va_G} {tys : ai_ty} {A : Nat → Prop} {b L : Nat} {sx : Nat → Int32} {cells slots : Nat} {Q : State → Prop} {r0 : List Int} {K : ai_K} {rec : ai_R}
theorem ai_one_ok (hS : ai_SR K.1 K.2.1 K.2.2.1 rec) (hMT : ∀ M ∈ K.2.2.1, (ai_mok M ∧ plainName M.1.cls = true) ∧ ∀ q ∈ M.2.2.2.2.2.2.2.2.2.2.1, ai_lok K.2.2.1 M.1.cls q) {mid : Nat} (hM : K.2.2.1[mid]? = some M) (C : ai_cx M d p R s m args c D tys A b L sx cells slots) {ins : Instr} {len : Nat} {cu : List Nat} {st : ai_s} {ss : List ai_s} (hn : 1 < st.2.2.2.1.length) (hz : ai_z st.2.2.2.1 = true) (hd : decode M.2.1 st.1 = .ok (ins, len)) (hq : ai_one K rec mid d M ins len cu st = some ss)
    (k : ∀ z ∈ ss, ai_G K.1 K.2.1 w0 ad M p l e R s m args below meth c D tys A b L sx cells slots Q r0 z) : ai_G K.1 K.2.1 w0 ad M p l e R s m args below meth c D tys A b L sx cells slots Q r0 st := by
  obtain ⟨⟨hok, hpl⟩, hML⟩ := hMT M (List.mem_of_getElem? hM)
  unfold ai_one at hq
  obtain ⟨zs, h1, h2⟩ := Option.bind_eq_some_iff.mp hq
  have kz : ∀ z ∈ zs, ai_G K.1 K.2.1 w0 ad M p l e R s m args below meth c D tys A b L sx cells slots Q r0 z := fun z hz => by
    obtain ⟨a, a1, a2⟩ := ai_all_ok h2 z hz
    exact hS mid d cu z a M a1 hM C (fun x hx => k x (a2 x hx))
  split at h1
  · exact ai_call_ok hS (fun M hM => (hMT M hM).1) hML C hn hd h1 kz
  · exact ai_nx_ok C hok hn hz hd h1 kz
theorem ai_sp_ok {i : Nat} {st : ai_s} {zs : List ai_s} (hq : ai_sp st i = some zs) (k : ∀ z ∈ zs, ai_G TY WR w0 ad M p l e R s m args below meth c D tys A b L sx cells slots Q r0 z) : ai_G TY WR w0 ad M p l e R s m args below meth c D tys A b L sx cells slots Q r0 st := by
  unfold ai_sp at hq
  obtain ⟨v, h1, hq⟩ := Option.bind_eq_some_iff.mp hq
  obtain ⟨q, h2, hq⟩ := Option.bind_eq_some_iff.mp hq
  split at hq
  · cases hq
  · injection hq with hq
    subst hq
    intro r lv skc ws H locs ls hx g hP hD hS hl
    obtain ⟨g1, g2, g3, g4, g5, g6, g7, g8⟩ := g
    obtain ⟨n, w, a1, a2⟩ := ai_get_ok g3 h1
    obtain ⟨-, z, i32, i1, rfl, i3, i4, i5⟩ := ai_i_ok g1 a2 h2
    obtain ⟨en1, c1, c2⟩ := ai_cl_ok (lo := q.1 + ((i32.toInt - q.1).toNat : Nat) - v.2.2.2) (hi := q.1 + ((i32.toInt - q.1).toNat : Nat) - v.2.2.2) g1 i1 (by omega) (by omega)
    have hm : ((st.1, st.2.1, st.2.2.1, en1, st.2.2.2.2.1, st.2.2.2.2.2) : ai_s) ∈ ai_spl st v q := by
      unfold ai_spl
      refine List.mem_flatMap.mpr ⟨(i32.toInt - q.1).toNat, List.mem_range.mpr (by omega), ?_⟩
      rw [c1]
      exact List.mem_singleton.mpr rfl
    exact k _ hm r lv skc ws H locs ls hx ⟨c2, g2, g3, g4, g5, g6, g7, g8⟩ hP hD hS hl
theorem ai_jn_ok {one : List Nat → ai_s → Option (List ai_s)} {go : ai_s → Option (List ai_s)} {tgt : Nat} {cu : List Nat} {st : ai_s} {ys : List ai_s} (hone : ∀ (xs : List ai_s) (r1 : List Int), one (tgt :: cu) st = some xs → (∀ x ∈ xs, ai_G TY WR w0 ad M p l e R s m args below meth c D tys A b L sx cells slots Q r1 x) → ai_G TY WR w0 ad M p l e R s m args below meth c D tys A b L sx cells slots Q r1 st) (hgo : ∀ (I : ai_s) (as : List ai_s) (r1 : List Int), go I = some as → (∀ x ∈ as, ai_G TY WR w0 ad M p l e R s m args below meth c D tys A b L sx cells slots Q r1 x) → ai_G TY WR w0 ad M p l e R s m args below meth c D tys A b L sx cells slots Q r1 I) (hn : 1 < st.2.2.2.1.length) (h8 : M.2.2.2.2.1 = true → 8 ≤ st.2.2.2.1.length) (hq : ai_jn one go tgt cu st = some ys) (k : ∀ x ∈ ys, ai_G TY WR w0 ad M p l e R s m args below meth c D tys A b L sx cells slots Q r0 x) : ai_G TY WR w0 ad M p l e R s m args below meth c D tys A b L sx cells slots Q r0 st := by
  unfold ai_jn at hq
  obtain ⟨xs, hxs, hq⟩ := Option.bind_eq_some_iff.mp hq
  rw [ai_str_eq] at hq
  split at hq
  · injection hq with hq
    subst hq
    exact hone xs r0 hxs k
  · rename_i y0 t hf
    rw [ai_str_eq, ai_str_eq] at hq
    obtain ⟨hs, lo', kn', hq⟩ : ∃ (hs : List ai_h) (lo' : List (Nat × ai_v)) (kn' : List ai_k), jn_1 go tgt st (xs.filter fun x => !Nat.beq x.1 tgt) (y0 :: t) hs lo' kn' = some ys := ⟨_, _, _, hq⟩
    unfold jn_1 at hq
    split at hq
    · rename_i hall
      obtain ⟨as, has, hq⟩ := Option.map_eq_some_iff.mp hq
      subst hq
      intro r lv skc ws H locs ls hx g hP hD hS hl
      refine hone xs r hxs (fun x hxx => ?_) r lv skc ws H locs ls ai_x.rf g hP hD hS hl
      by_cases hpc : x.1 = tgt
      · have hxy : x ∈ y0 :: t := by
          rw [← hf]
          exact List.mem_filter.mpr ⟨hxx, ai_beq.mpr hpc⟩
        have hlq := List.all_eq_true.mp hall x hxy
        intro r1 lv1 sk1 ws1 H1 locs1 ls1 hx1 g2 hP1 hD1 hS1 hl1
        obtain ⟨t1, rfl⟩ := hx1
        obtain ⟨vs', lv', a1, a2, a3, a4, -⟩ := ai_lq_ok (I := (tgt, lo', [], st.2.2.2.1 ++ hs.map ai_en, kn', st.2.2.2.2.2)) rfl rfl g.1 rfl hn h8 g.2.1 g2 hlq
        subst a3
        rw [hpc]
        exact hgo _ as (r ++ vs') has (fun z hz => (k z (List.mem_append.mpr (Or.inl hz))).up (hx.tr ⟨vs', rfl⟩)) (r ++ vs') lv' [] ws1 H1 locs1 ls1 ai_x.rf a2 hP1 hD1 hS1 ⟨hl1.1, hl1.2.1, fun q hq => hl1.2.2 q (a4 q hq)⟩
      · refine (k x (List.mem_append.mpr (Or.inr (List.mem_filter.mpr ⟨hxx, ?_⟩)))).up hx
        rw [Bool.not_eq_true']
        exact Bool.eq_false_iff.mpr (fun h => hpc (ai_beq.mp h))
    · cases hq
/-- the methods whose walk is known -/
def ai_SU (K : ai_K) : Prop := ai_SR K.1 K.2.1 K.2.2.1 (fun mid _ d _ st => if (Nat.beq st.1 0 && Nat.ble (ai_gd mid) d) = true then K.2.2.2.2.1 mid st else none)
theorem ai_body_ok (hU : ai_SU K) (hS : ai_SR K.1 K.2.1 K.2.2.1 rec) (hMT : ∀ M ∈ K.2.2.1, (ai_mok M ∧ plainName M.1.cls = true) ∧ ∀ q ∈ M.2.2.2.2.2.2.2.2.2.2.1, ai_lok K.2.2.1 M.1.cls q) : ai_SR K.1 K.2.1 K.2.2.1 (ai_body K rec) := by
  intro mid d cu st ys M hq hM w0 ad p l e R s m args below meth c D tys A b L sx cells slots Q r0 C k
  unfold ai_body at hq
  rw [ai_norm_eq] at hq
  unfold ai_body0 at hq
  split at hq
  · injection hq with hq
    subst hq
    exact k _ (List.mem_singleton.mpr rfl)
  · split at hq
    · rename_i xs hxs
      injection hq with hq
      subst hq
      exact hU mid d cu st xs M hxs hM C k
    · obtain ⟨q, h1, hq⟩ := Option.bind_eq_some_iff.mp hq
      have h2 := List.find?_some h1
      have h2 := ai_beq.mp h2
      have hd := (hMT M (List.mem_of_getElem? hM)).1.1.1 q (List.mem_of_find?_eq_some h1)
      have est : ((q.1, st.2) : ai_s) = st := by rw [h2]
      split at hq
      · injection hq with hq
        subst hq
        rw [← est]
        exact k _ (List.mem_singleton.mpr rfl)
      · split at hq
        · rename_i hc
          split at hq
          · rename_i a ha
            rw [← est]
            exact ai_lp_ok (st := (q.1, st.2)) (fun xs r1 hxs kx => ai_one_ok hS hMT hM C (by
                show 1 < (st.2.2.2.1 ++ _).length
                rw [List.length_append]
                have := hc.1
                omega) (by
                show ai_z (st.2.2.2.1 ++ _) = true
                have hz := hc.2
                unfold ai_z at hz ⊢
                rw [List.getElem?_append_left (by have := hc.1; omega)]
                exact hz) hd hxs kx) hc.1 (fun hsc => by rw [if_pos hsc] at ha; cases ha) hq k
          · split at hq
            · split at hq
              · rename_i hj
                rw [Bool.and_eq_true, Bool.not_eq_true'] at hj
                rw [← est]
                exact ai_jn_ok (st := (q.1, st.2)) (fun xs r1 hxs kx => ai_one_ok (st := (q.1, st.2)) hS hMT hM C hc.1 hc.2 hd hxs kx) (fun I as r1 has kx => hS mid d cu I as M has hM C kx) hc.1 (fun hsc => by rw [hj.2] at hsc; cases hsc) hq k
              · split at hq
                · rename_i zs hz2
                  rw [← est]
                  refine ai_sp_ok hz2 (fun z hz => ?_)
                  obtain ⟨a', a1, a2⟩ := ai_all_ok hq z hz
                  exact hS mid d cu z a' M a1 hM C (fun x hx => k x (a2 x hx))
                · rw [← est]
                  exact ai_one_ok (st := (q.1, st.2)) hS hMT hM C hc.1 hc.2 hd hq k
            · rw [← est]
              exact ai_one_ok (st := (q.1, st.2)) hS hMT hM C hc.1 hc.2 hd hq k
        · cases hq
theorem ai_ex_ok (hU : ai_SU K) (hMT : ∀ M ∈ K.2.2.1, (ai_mok M ∧ plainName M.1.cls = true) ∧ ∀ q ∈ M.2.2.2.2.2.2.2.2.2.2.1, ai_lok K.2.2.1 M.1.cls q) : ∀ n, ai_SR K.1 K.2.1 K.2.2.1 (ai_ex K n)
  | 0 => fun mid d cu st ys M hq => by cases hq
  | n + 1 => ai_body_ok hU (ai_ex_ok hU hMT n) hMT
end AIZ
