/-! THE CLAIM OUT OF ONE WALK OF THE LAW'S BODY. Your part is whole_start (and what it stands on); all else here is the same for every law, but numbers. -/
def R_law : String := "HornTestsLaw"
def lw_P (b : Addr) (xs : List Int32) (args : Array Value) (s : State) : Prop := args = #[.ref b] ∧ s.IntsAt b xs ∧ xs.length ≤ 2560 ∧ (Jvm.Cond.and given_1 narrow_1).before args s = true
def lw_Q (_ : Array Value) (s : State) (o : Outcome) (t : State) : Prop := o = .returned (some (.int 1)) ∧ Framed s o t [] 600000 7302249
def lw_Z (below : List Frame) (a : Array Value) (s : State) : State → Prop := fun t => ∃ o, t.status = .running ∧ Ended t below o ∧ lw_Q a s o t
/-- the law's own end, with 1 on the stack, nothing written that was there before, its room as the claim has it -/
theorem lw_ret {p : Program} {l : Launch} {e : Env} {s : State} {m : MethodId} {below : List Frame} {meth : Method} {c : Code} {b : Nat} (hx : p.tables.exec = Jvm.exec) (hb : c.code = code) (hr : meth.sig.returnType = ret) (hlocks : meth.locks = false) {pc : Nat} {H : Heap} {ls : Array Slot} (hdg : decode code pc = .ok (.ireturn, 1)) : W p l e room_1 s m #[Value.ref b] below meth c H [] 600000 7302249 (lw_Z below #[Value.ref b] s) (F0 m pc ls [.int 1]) := by
  intro T hT X
  obtain ⟨fs, hret, hrun, hended, hW, hframe⟩ := X.leave (v := some (.int 1)) (hlocks := hlocks) (fun h => by rw [hr] at h; cases h)
  have hmeth' : T.vm.method? m = some meth := X.method'
  refine ⟨T.setFrames fs, ?_, .returned (some (.int 1)), hrun, hended, rfl, ⟨_, rfl⟩, hW, hframe⟩
  jvm_step X.here [X.here.top, hx, hb, hdg, hmeth', hr, ret, narrow_b1]
  (try refine ⟨rfl, ?_⟩); (try refine ⟨rfl, ?_⟩)
  first | (intro acts; rw [hret _ acts rfl rfl rfl]) | rw [hret _ _ rfl rfl rfl]
  exact Steps.refl _
/-- what holds at the law's entry: the machine, the code, the tables' words (any of lw_tbl by 'hts w (by decide +kernel)'), the script of L ints xs at the cell b, what the Statement gives of the start (any of its parts by flat_of_before) -/
def lw_At (p : Program) (s : State) (m : MethodId) (meth : Method) (c : Code) (b L : Nat) (xs : Nat → Int32) : Prop :=
  p.tables.exec = Jvm.exec ∧ c.code = code ∧ meth.sig.returnType = ret ∧ c.maxLocals = 4 ∧ s.vm.findClass R_law = some m.cls ∧ (∀ w ∈ lw_tbl, w.before #[Value.ref b] s = true) ∧ va_X b L xs s s.heap ∧ b < s.heap.size ∧ meth.locks = false ∧ (Jvm.Cond.and given_1 narrow_1).before #[Value.ref b] s = true
set_option maxHeartbeats 4000000 in
set_option maxRecDepth 100000 in
/-- THE LAW'S LOOP -/
theorem law_loop {p : Program} {l : Launch} {e : Env} {s : State} {m : MethodId} {below : List Frame} {meth : Method} {c : Code} {D : va_G} {tys : ai_ty} {b L cells slots : Nat} {xs : Nat → Int32} (hL : L ≤ 2560) (C0 : lw_At p s m meth c b L xs) (C : ai_cx tb_m169 11 p room_1 s m #[Value.ref b] c D tys (fun q => s.heap.size ≤ q) b L xs cells slots) {ad : List Nat} {q0 q49 : Nat} (e0 : ad[0]? = some q0) (e49 : ad[49]? = some q49) (hce : cells ≤ 600000) (hsl : slots ≤ 7302249) :
    ∀ (n i : Nat), i ≤ 2560 → L + 1 ≤ i + n → ∀ (ws : va_W) (H : Heap) (locs : List Loc) (ls : Array Slot), ai_wd tb_TY ad tys ws → Inv ws → va_P D vwCl ws H → va_D (fun q => s.heap.size ≤ q) ws → va_S (fun q => s.heap.size ≤ q) s.heap H locs → lv_has ls 4 [(0, .ref b), (1, .ref q0), (2, .ref q49), (3, .int (nI i))] → W p l e room_1 s m #[Value.ref b] below meth c H locs cells slots (lw_Z below #[Value.ref b] s) (F0 m 18 ls []) := by
  obtain ⟨hx, hb, hr, hml, hown, hts, hX, hbl, hlocks, hgv⟩ := C0
  have hbA : ¬ (fun q : Nat => s.heap.size ≤ q) b := Nat.not_le.mpr hbl
  have hLI : (Int32.ofNat L).toInt = (L : Int) := nI_toInt (by omega)
  have hL5 : (Int32.ofNat L - 5).toInt = (L : Int) - 5 := by
    have a := ai_subI (i := Int32.ofNat L) (j := 5) (by rw [hLI]; show -2147483648 ≤ (L : Int) - 5; omega) (by rw [hLI]; show (L : Int) - 5 ≤ 2147483647; omega)
    rw [a, hLI]
    rfl
  intro n
  induction n with
  | zero =>
    intro i hi h2 ws H locs ls hw heq hP hD hS hl
    have hiI : (nI i).toInt = (i : Int) := nI_toInt (by omega)
    refine lv_iload_n hx hb (tv_i169 (18, .iload_n 3, 1) (List.mem_of_getElem? (i := 10) rfl)) rfl (lv_at hl 3 rfl) ?_
    refine lv_aload_n hx hb (tv_i169 (19, .aload_n 0, 1) (List.mem_of_getElem? (i := 11) rfl)) rfl (lv_at hl 0 rfl) ?_
    refine va_slen hx hb hX hbl hbA hS (tv_i169 (20, .arraylength, 1) (List.mem_of_getElem? (i := 12) rfl)) ?_
    refine lv_iconst (v := 5) hx hb (tv_i169 (21, .iconst 5, 1) (List.mem_of_getElem? (i := 13) rfl)) (by decide) ?_
    refine lv_isub hx hb (tv_i169 (22, .isub, 1) (List.mem_of_getElem? (i := 14) rfl)) ?_
    refine lv_icmp_gt (tgt := 1304) hx hb (tv_i169 (23, .if_icmp .gt 1281, 3) (List.mem_of_getElem? (i := 15) rfl)) (by decide) (fun hc => ?_) (fun hc => ?_)
    · refine lv_iconst (v := 1) hx hb (tv_i169 (1304, .iconst 1, 1) (List.mem_of_getElem? (i := 904) rfl)) (by decide) ?_
      refine va_forget (fun q hq => hS.2.2 q hq) ?_
      refine W.widen (k := 600000) (n := 7302249) hce hsl ?_
      exact lw_ret hx hb hr hlocks (tv_i169 (1305, .ireturn, 1) (List.mem_of_getElem? (i := 905) rfl))
    · exact absurd (Int32.lt_iff_toInt_lt.mpr (by rw [hL5, hiI]; omega)) hc
  | succ n ih =>
    intro i hi h2 ws H locs ls hw heq hP hD hS hl
    have hiI : (nI i).toInt = (i : Int) := nI_toInt (by omega)
    refine lv_iload_n hx hb (tv_i169 (18, .iload_n 3, 1) (List.mem_of_getElem? (i := 10) rfl)) rfl (lv_at hl 3 rfl) ?_
    refine lv_aload_n hx hb (tv_i169 (19, .aload_n 0, 1) (List.mem_of_getElem? (i := 11) rfl)) rfl (lv_at hl 0 rfl) ?_
    refine va_slen hx hb hX hbl hbA hS (tv_i169 (20, .arraylength, 1) (List.mem_of_getElem? (i := 12) rfl)) ?_
    refine lv_iconst (v := 5) hx hb (tv_i169 (21, .iconst 5, 1) (List.mem_of_getElem? (i := 13) rfl)) (by decide) ?_
    refine lv_isub hx hb (tv_i169 (22, .isub, 1) (List.mem_of_getElem? (i := 14) rfl)) ?_
    refine lv_icmp_gt (tgt := 1304) hx hb (tv_i169 (23, .if_icmp .gt 1281, 3) (List.mem_of_getElem? (i := 15) rfl)) (by decide) (fun hc => ?_) (fun hc => ?_)
    · refine lv_iconst (v := 1) hx hb (tv_i169 (1304, .iconst 1, 1) (List.mem_of_getElem? (i := 904) rfl)) (by decide) ?_
      refine va_forget (fun q hq => hS.2.2 q hq) ?_
      refine W.widen (k := 600000) (n := 7302249) hce hsl ?_
      exact lw_ret hx hb hr hlocks (tv_i169 (1305, .ireturn, 1) (List.mem_of_getElem? (i := 905) rfl))
    · have h5 : i + 5 ≤ L := by
        have a : ¬ (Int32.ofNat L - 5).toInt < (nI i).toInt := fun h => hc (Int32.lt_iff_toInt_lt.mpr h)
        rw [hL5, hiI] at a
        omega
      refine lb_round r7_all C e0 e49 hw heq hP hD hS h5 hL hl (fun ws H locs ls hw heq hP hD hS hl => ?_)
      refine lv_iinc (v := nI (i + 5)) (lv' := [(3, .int (nI (i + 5))), (0, .ref b), (1, .ref q0), (2, .ref q49)]) hx hb (tv_i169 (1298, .iinc 3 5, 3) (List.mem_of_getElem? (i := 902) rfl)) hl (k := 3) rfl (by rw [← nI_add]; rfl) (by decide) rfl (fun ls hl => ?_)
      refine lv_goto (tgt := 18) hx hb (tv_i169 (1301, .goto (-1283), 3) (List.mem_of_getElem? (i := 903) rfl)) (by decide) ?_
      exact ih (i + 5) (by omega) (by omega) ws H locs ls hw heq hP hD hS (lv_sub hl [1, 2, 3, 0] rfl)
set_option maxHeartbeats 4000000 in
set_option maxRecDepth 100000 in
/-- THE LAW, from its entry -/
theorem whole_start {p : Program} {e : Env} {s : State} {m : MethodId} {below : List Frame} {meth : Method} {c : Code} (l : Launch) {b L : Nat} {xs : Nat → Int32} (hL : L ≤ 2560) (C0 : lw_At p s m meth c b L xs) : W p l e room_1 s m #[Value.ref b] below meth c s.heap [] 0 0 (lw_Z below #[Value.ref b] s) (entryFrame m ([Value.ref b] : List Value).toArray 4) := by
  obtain ⟨hx, hb, hr, hml, hown, hts, hX, hbl, hlocks, hgv⟩ := id C0
  have hA : ∀ q : Nat, s.heap.size ≤ q → (fun q : Nat => s.heap.size ≤ q) q := fun _ h => h
  have hbA : ¬ (fun q : Nat => s.heap.size ≤ q) b := Nat.not_le.mpr hbl
  have htg : ∀ w ∈ ai_GT, w.before #[Value.ref b] s = true := fun w hw => hts w (List.mem_filter.mp hw).1
  have hZ : va_Nw ct_AO s := ct_aof (hts _ st_15)
  obtain ⟨c0, iS0, hKn0⟩ := u_known (C := RX0) (T := TX0) (N := 9) (n := 9) htg (tv_uws_ok (k := 0) (r := (RX0, TX0, 9)) rfl) (htg (.instantiable RX0 9) (tv_mem (by decide +kernel)))
  obtain ⟨c1, iS1, hKn1⟩ := u_known (C := RX1) (T := TX1) (N := 3) (n := 3) htg (tv_uws_ok (k := 1) (r := (RX1, TX1, 3)) rfl) (htg (.instantiable RX1 3) (tv_mem (by decide +kernel)))
  obtain ⟨c2, iS2, hKn2⟩ := u_known (C := RX2) (T := TX2) (N := 11) (n := 11) htg (tv_uws_ok (k := 2) (r := (RX2, TX2, 11)) rfl) (htg (.instantiable RX2 11) (tv_mem (by decide +kernel)))
  obtain ⟨c3, iS3, hKn3⟩ := u_known (C := RX3) (T := TX3) (N := 3) (n := 3) htg (tv_uws_ok (k := 3) (r := (RX3, TX3, 3)) rfl) (htg (.instantiable RX3 3) (tv_mem (by decide +kernel)))
  obtain ⟨c4, iS4, hKn4⟩ := u_known (C := RX4) (T := TX4) (N := 5) (n := 5) htg (tv_uws_ok (k := 4) (r := (RX4, TX4, 5)) rfl) (htg (.instantiable RX4 5) (tv_mem (by decide +kernel)))
  obtain ⟨c5, iS5, hKn5⟩ := u_known (C := RX5) (T := TX5) (N := 11) (n := 11) htg (tv_uws_ok (k := 5) (r := (RX5, TX5, 11)) rfl) (htg (.instantiable RX5 11) (tv_mem (by decide +kernel)))
  obtain ⟨c6, iS6, hKn6⟩ := u_known (C := RX6) (T := TX6) (N := 25) (n := 25) htg (tv_uws_ok (k := 6) (r := (RX6, TX6, 25)) rfl) (htg (.instantiable RX6 25) (tv_mem (by decide +kernel)))
  obtain ⟨dC, dI, hKc⟩ : ∃ (dC : Nat → ClassId) (dI : Nat → Nat → Nat), ∀ (k : Nat) (q : vw_C), vwCl[k]? = some q → u_Kn s q.1 q.2.1 q.2.2 (dC k) (dI k) := by
    refine ⟨fun k => if k = 0 then c0 else if k = 1 then c1 else if k = 2 then c2 else if k = 3 then c3 else if k = 4 then c4 else if k = 5 then c5 else c6, fun k => if k = 0 then iS0 else if k = 1 then iS1 else if k = 2 then iS2 else if k = 3 then iS3 else if k = 4 then iS4 else if k = 5 then iS5 else iS6, ?_⟩
    intro k q hq
    match k, hq with
    | 0, hq => cases hq; exact hKn0
    | 1, hq => cases hq; exact hKn1
    | 2, hq => cases hq; exact hKn2
    | 3, hq => cases hq; exact hKn3
    | 4, hq => cases hq; exact hKn4
    | 5, hq => cases hq; exact hKn5
    | 6, hq => cases hq; exact hKn6
    | k + 7, hq => simp [vwCl] at hq
  have hS : va_S (fun q : Nat => s.heap.size ≤ q) s.heap s.heap [] := va_S.rf
  have hK : va_K (dC, dI) vwCl [] s := ⟨hKc, fun k q h => by simp at h⟩
  have hP : va_P (dC, dI) vwCl [] s.heap := fun k q h => by simp at h
  have hD : va_D (fun q : Nat => s.heap.size ≤ q) [] := ⟨fun i j p q h => by simp at h, fun k q h => by simp at h⟩
  have hl := lv_entry ([.ref b]) (n := 4) (Nat.le_of_ble_eq_true rfl)
  rw [lg_entry_eq]
  generalize (lg_sl ([.ref b]) ++ List.replicate (4 - (lg_sl ([.ref b])).length) Slot.unset).toArray = ls at hl ⊢
  have hl : lv_has ls 4 [(0, .ref b)] := hl
  refine ct_born (d := 11) (own := R_law) (r := (RX5, TX5, 11)) (N := 11) (X := []) hx hb hml hown htg hA ⟨by decide, by decide⟩ hZ hP hD hS hK (by decide) (kx5 l 10 (by decide)) rfl tyX5_ok knD5 (tv_mem (by decide +kernel)) (tv_mem (by decide +kernel)) (tv_mem (by decide +kernel)) (tv_mem (by decide +kernel)) (tv_mem (by decide +kernel)) kc5 rfl rfl rfl (by decide +kernel) (by decide) (by decide) (by decide) rfl (by decide) hl.1 (tv_i169 (0, .new 7, 3) (List.mem_of_getElem? (i := 0) rfl)) (tv_i169 (3, .dup, 1) (List.mem_of_getElem? (i := 1) rfl)) (tv_i169 (4, .invokespecial 9, 3) (List.mem_of_getElem? (i := 2) rfl)) (fun q0 w5 t5 H locs hP hD hS hK h5 hq0 => ?_)
  refine W.widen (k := 49) (n := 656) (by decide) (by decide) ?_
  refine lv_astore_n (lv' := [(1, .ref q0), (0, .ref b)]) hx hb (tv_i169 (7, .astore_n 1, 1) (List.mem_of_getElem? (i := 3) rfl)) rfl hl (by decide) rfl (fun ls hl => ?_)
  refine ct_born (d := 11) (own := R_law) (r := (RX6, TX6, 25)) (N := 25) (X := w5) hx hb hml hown htg hA ⟨by decide, by decide⟩ hZ hP hD hS hK (by decide) (kx6 l 10 (by decide)) rfl tyX6_ok knD6 (tv_mem (by decide +kernel)) (tv_mem (by decide +kernel)) (tv_mem (by decide +kernel)) (tv_mem (by decide +kernel)) (tv_mem (by decide +kernel)) kc6 rfl rfl rfl (by decide +kernel) (by decide) (by decide) (by decide) rfl (by decide) hl.1 (tv_i169 (8, .new 10, 3) (List.mem_of_getElem? (i := 4) rfl)) (tv_i169 (11, .dup, 1) (List.mem_of_getElem? (i := 5) rfl)) (tv_i169 (12, .invokespecial 12, 3) (List.mem_of_getElem? (i := 6) rfl)) (fun q49 w6 t6 H locs hP hD hS hK h6 hq49 => ?_)
  refine W.widen (k := 60) (n := 1263) (by decide) (by decide) ?_
  refine lv_astore_n (lv' := [(2, .ref q49), (1, .ref q0), (0, .ref b)]) hx hb (tv_i169 (15, .astore_n 2, 1) (List.mem_of_getElem? (i := 7) rfl)) rfl hl (by decide) rfl (fun ls hl => ?_)
  refine lv_iconst (v := 0) hx hb (tv_i169 (16, .iconst 0, 1) (List.mem_of_getElem? (i := 8) rfl)) (by decide) ?_
  refine lv_istore_n (lv' := [(3, .int 0), (2, .ref q49), (1, .ref q0), (0, .ref b)]) hx hb (tv_i169 (17, .istore_n 3, 1) (List.mem_of_getElem? (i := 9) rfl)) rfl hl (by decide) rfl (fun ls hl => ?_)
  obtain ⟨hw, heq⟩ := lb_start h5 h6
  obtain ⟨e5, h50⟩ := hq0
  obtain ⟨e6, h60⟩ := hq49
  have e0 : ((w5 ++ w6).map Prod.fst)[0]? = some q0 := by rw [List.getElem?_map, ct_get h50]; rfl
  have e49 : ((w5 ++ w6).map Prod.fst)[49]? = some q49 := by
    have a := ct_getR (L := w5) h60
    have b : w5.length = 49 := h5.1
    rw [b] at a
    rw [List.getElem?_map, a]
    rfl
  have C : ai_cx tb_m169 11 p room_1 s m #[Value.ref b] c (dC, dI) ([] ++ t5 ++ t6) (fun q => s.heap.size ≤ q) b L xs 60 1263 := ⟨hx, hb, hml, hown, htg, st_nj hts hgv, hK, hA, ⟨by decide, by decide, by decide, by decide⟩, fun _ => ⟨hX, hbl, hbA⟩⟩
  exact law_loop hL C0 C e0 e49 (by decide) (by decide) (L + 1) 0 (by decide) (by omega) (w5 ++ w6) H locs ls hw heq hP hD hS (lv_sub hl [3, 2, 1, 0] rfl)
set_option maxHeartbeats 4000000 in
theorem lw_walk (l : Launch) (b : Addr) (xs : List Int32) : MetFree l x (headSpec (Jvm.Cond.code x code maxLocals ret :: tables_1) room_1) (lw_P b xs) (fun _ _ _ _ _ => True) lw_Q := by
  refine MetFree.of_bodyS (code := code) (maxLocals := maxLocals) (ret := ret) (by decide) ?_ ?_
  · intro args s m h hn
    obtain ⟨meth, c, h1, h2, h3, h4, h5, h6, -, -⟩ := Cond.code_spec hn (atoms_spec (ws := Jvm.Cond.code x code maxLocals ret :: tables_1) h _ List.mem_cons_self)
    exact ⟨meth, c, h1, h2, h3, h4, h5, h6⟩
  · intro p e s m args below meth c s₁ B hml0 hP _
    obtain ⟨rfl, hx, hbd, hgv⟩ := hP
    obtain ⟨scr, harrAt, hlist, hof, hsmall⟩ := hx
    obtain ⟨hcb, hkn, -, -⟩ := State.arrayAt?_spec harrAt
    have hown : s.vm.findClass R_law = some m.cls := findClass_of_methodNamed B.named
    have hts0 : ∀ c ∈ (Jvm.Cond.code x code maxLocals ret :: tables_1), c.before #[Value.ref b] s = true := atoms_spec (ws := Jvm.Cond.code x code maxLocals ret :: tables_1) B.pre
    have hts : ∀ w ∈ lw_tbl, w.before #[Value.ref b] s = true := k2_hts_sels lw_privs (fun w hw => hts0 w (List.mem_cons_of_mem _ hw)) lw_privs_ok
    have hml : c.maxLocals = 4 := B.maxLocals_eq (hts0 _ List.mem_cons_self)
    have X₀ : Stand p l e room_1 s m #[Value.ref b] below meth c s₁ [] 0 0 := Stand.of_body B
    have hh0 : s₁.heap = s.heap := by rw [B.state]; rfl
    have hsz : scr.slots.size = xs.length := by rw [← Array.length_toList, hlist, List.length_map]
    have hval : ∀ j : Nat, j < xs.length → scr.slots[j]? = some (.int (xs.getD j 0)) := fun j hj => by
      rw [← Array.getElem?_toList, hlist]
      simp [hj]
    have hbl : b < s.heap.size := (Array.getElem?_eq_some_iff.mp hcb).1
    have hX : va_X b xs.length (fun j => xs.getD j 0) s s.heap := ⟨scr, hcb, hof, hkn, hsz, hval⟩
    have K : W p l e room_1 s m #[Value.ref b] below meth c s₁.heap [] 0 0 (lw_Z below #[Value.ref b] s) (entryFrame m ([Value.ref b] : List Value).toArray 4) := by
      rw [hh0]
      exact whole_start l hbd ⟨B.exec, B.bytes, B.returns, hml, hown, hts, hX, hbl, B.notSynchronized, hgv⟩
    obtain ⟨t, a1, o, b1, b2, b3⟩ := K s₁ rfl X₀
    exact ⟨t, o, a1, b1, b2, b3⟩
theorem lw_pre_spec {args : Array Value} {s : State} (h : (Jvm.Cond.and given_1 narrow_1).before args s = true) (hr : rest_1_c.before args s = true) : ∃ (b : Addr) (xs : List Int32), lw_P b xs args s := by
  have hs := flat_of_before _ h
  have hq := flat_of_before _ hr
  have hc : (Cond.count 1).before args s = true := hs _ (by decide +kernel)
  have harr : (Cond.arrayOf (.arg 0) .int).before args s = true := hs _ (by decide +kernel)
  have hle : (Cond.le (.length (.arg 0)) (.int 2560)).before args s = true := hs _ (by decide +kernel)
  have hlen : (Cond.isInt (.length (.arg 0))).before args s = true := hq _ (by decide +kernel)
  have hall : (Cond.all (.arg 0) (.isInt (.elem (.arg 0) (.index 0)))).before args s = true := hq _ (by decide +kernel)
  obtain ⟨b, xs, hb, hx⟩ := State.ints_of_pre rfl harr hlen hall
  have hsm : xs.length < 2 ^ 31 := hx.choose_spec.2.2.2
  have hev : (Term.length (.arg 0)).eval args s none [] s = some (.int xs.length.toInt32) := hx.length_eval hb
  have hv := Cond.le_ints hev (show (Term.int 2560).eval args s none [] s = some (.int 2560) from rfl)
  have hd : xs.length.toInt32 ≤ 2560 := by
    simpa [Cond.before, Cond.holds, hv] using hle
  have hN : xs.length ≤ 2560 := (Int32.ofNat_le_ofNat hsm (by decide)).mp (show Int32.ofNat xs.length ≤ Int32.ofNat 2560 from hd)
  exact ⟨b, xs, Cond.one_arg hc (show args[0]? = some (.ref b) from hb), hx, hN, h⟩
theorem lw_comes (l : Launch) : Comes l x (Jvm.Cond.code x code maxLocals ret :: tables_1) room_1 (fun tb e args s => Calls_1 tb e args s ∧ rest_1 tb e args s ∧ Pre_1 tb e args s)
    (fun _ _ args s o t => lw_Q args s o t) := by
  intro p e ha hc hk s m args below hf hfit hheap happ hpre
  obtain ⟨b, xs, hP⟩ := lw_pre_spec hpre.2.2 hpre.2.1
  obtain ⟨k, o, h1, h2, h3, hQ⟩ := lw_walk l b xs p e ha hc hk s m args below hf ((Spec.applies_iff_loose hf).mp happ).1 hP trivial
  exact ⟨k, o, h1, h2, h3, hQ⟩
theorem lw_frame {s t : State} {o : Outcome} {args : Array Value} (h : Framed s o t [] 600000 7302249) :
    Framed s o t (fieldLocs frame_1_writes args s ++ arrayLocs frame_1_arrays args s ++ staticLocs frame_1_statics s) 600000 7302249 := h
theorem lw_limb (L : Cond) (hL : ∀ (args : Array Value) (s t : State), L.after args s (.returned (some (.int 1))) t = true) :
    ArmFor flags0 classFile x code maxLocals ret World_1 tables_1 room_1 Calls_1 rest_1 Pre_1
      (fun tb e a s o t => postC L tb e a s o t ∧ Framed s o t (fieldLocs frame_1_writes a s ++ arrayLocs frame_1_arrays a s ++ staticLocs frame_1_statics s) 600000 7302249) := by
  intro l _ _ _ p e ha hc hk s m args below hf hfit hheap happ hpre
  obtain ⟨k, o, h1, h2, h3, rfl, hF⟩ := lw_comes l p e ha hc hk s m args below hf hfit hheap happ hpre
  exact ⟨k, _, h1, h2, h3, hL args s _, lw_frame hF⟩
theorem i_vc : Claimed_1_1 ∧ Claimed_1_2 := ⟨lw_limb limb_1_1 (fun args s t => by simp [limb_1_1, Cond.after, Cond.holds, Cond.value]), lw_limb limb_1_2 (fun args s t => Cond.after_iff.mpr (by
  first | (rw [show limb_1_2 = Cond.eq .result (.int 1) from rfl, Cond.eq_ints (x := 1) (y := 1) rfl rfl]; simp; done) | (simp [limb_1_2, Cond.value, Term.eval]; done)))⟩

