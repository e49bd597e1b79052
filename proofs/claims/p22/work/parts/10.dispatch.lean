/-! any instruction but calls, and that its steps are sound -/
def ai_mok (M : ai_m) : Prop := (∀ q ∈ M.2.2.2.2.2.1, decode M.2.1 q.1 = .ok (q.2.1, q.2.2)) ∧ (∀ q ∈ M.2.2.2.2.2.2.1, ai_flok M.1.cls q.2.1 q.2.2 q.1) ∧ (∀ q ∈ M.2.2.2.2.2.2.2.1, ai_fpok M.1.cls q.2.1 q.2.2.1 q.1 q.2.2.2) ∧ (∀ q ∈ M.2.2.2.2.2.2.2.2.1, Cond.constant M.1.cls q.1 (Int32.ofInt q.2) ∈ ai_GT ∧ ai_ir q.2 q.2 = true) ∧ ∀ q ∈ M.2.2.2.2.2.2.2.2.2.1, Cond.constantLong M.1.cls q.1 (Int64.ofInt q.2) ∈ ai_GT ∧ (Int64.ofInt q.2).toInt = q.2
theorem ai_ofI8 {n : Int} (h : -128 ≤ n ∧ n ≤ 127) : ((Int8.ofInt n).toInt32).toInt = n := by
  have hsz : (Int8.size : Int) = 256 := rfl
  rw [Int8.toInt_toInt32, Int8.toInt_ofInt, Int.bmod_eq_of_le] <;> omega
theorem ai_ofI16 {n : Int} (h : -32768 ≤ n ∧ n ≤ 32767) : ((Int16.ofInt n).toInt32).toInt = n := by
  have hsz : (Int16.size : Int) = 65536 := rfl
  rw [Int16.toInt_toInt32, Int16.toInt_ofInt, Int.bmod_eq_of_le] <;> omega
theorem ai_ofL (n : Fin 2) : (Int64.ofNat n).toInt = ((n : Nat) : Int) := by
  match n with
  | 0 => rfl
  | 1 => rfl
def ai_nx (TY : List ai_c) (WR : List (Nat × Nat × Nat)) (M : ai_m) (ins : Instr) (len pc : Nat) (lo : List (Nat × ai_v)) (sk : List ai_v) (en : List ai_e) (kn : List ai_k) (sb : List ai_b) : Option (List ai_s) := match ins, len with
  | .iconst n, 1 => if ai_ir n n = true then some [(pc + 1, lo, (1, 0, 0, n) :: sk, en, kn, sb)] else none
  | .bipush n, 2 => if -128 ≤ n ∧ n ≤ 127 then some [(pc + 2, lo, (1, 0, 0, n) :: sk, en, kn, sb)] else none
  | .sipush n, 3 => if -32768 ≤ n ∧ n ≤ 32767 then some [(pc + 3, lo, (1, 0, 0, n) :: sk, en, kn, sb)] else none
  | .lconst n, 1 => some [(pc + 1, lo, (2, 0, 0, ((n : Nat) : Int)) :: sk, en, kn, sb)]
  | .ldc i, 2 => (M.2.2.2.2.2.2.2.2.1.find? fun q => Nat.beq q.1 i).map fun q => [(pc + 2, lo, (1, 0, 0, q.2) :: sk, en, kn, sb)]
  | .ldc_w i, 3 => (M.2.2.2.2.2.2.2.2.1.find? fun q => Nat.beq q.1 i).map fun q => [(pc + 3, lo, (1, 0, 0, q.2) :: sk, en, kn, sb)]
  | .ldc2_w i, 3 => (M.2.2.2.2.2.2.2.2.2.1.find? fun q => Nat.beq q.1 i).map fun q => [(pc + 3, lo, (2, 0, 0, q.2) :: sk, en, kn, sb)]
  | .iload_n i, 1 => ai_nld ai_tI (i : Nat) (pc + 1) lo sk en kn sb
  | .iload i, 2 => ai_nld ai_tI i (pc + 2) lo sk en kn sb
  | .lload_n i, 1 => ai_nld ai_tL (i : Nat) (pc + 1) lo sk en kn sb
  | .lload i, 2 => ai_nld ai_tL i (pc + 2) lo sk en kn sb
  | .aload_n i, 1 => ai_nld ai_tA (i : Nat) (pc + 1) lo sk en kn sb
  | .aload i, 2 => ai_nld ai_tA i (pc + 2) lo sk en kn sb
  | .istore_n i, 1 => ai_ns1 ai_tI M.2.2.1 (i : Nat) (pc + 1) lo sk en kn sb
  | .istore i, 2 => ai_ns1 ai_tI M.2.2.1 i (pc + 2) lo sk en kn sb
  | .astore_n i, 1 => ai_ns1 ai_tA M.2.2.1 (i : Nat) (pc + 1) lo sk en kn sb
  | .astore i, 2 => ai_ns1 ai_tA M.2.2.1 i (pc + 2) lo sk en kn sb
  | .lstore_n i, 1 => ai_ns2 M.2.2.1 (i : Nat) (pc + 1) lo sk en kn sb
  | .lstore i, 2 => ai_ns2 M.2.2.1 i (pc + 2) lo sk en kn sb
  | .iinc i n, 3 => (ai_get lo i).bind fun v => if ai_ir n n = true ∧ i < M.2.2.1 then (ai_add en sb v (1, 0, 0, n)).map fun q => [(pc + 3, ai_st1 lo i q.2.2, sk, q.1, kn, q.2.1)] else none
  | .iadd, 1 => ai_n2 ai_add (pc + 1) lo sk en kn sb
  | .isub, 1 => ai_n2 ai_sub (pc + 1) lo sk en kn sb
  | .imul, 1 => ai_n2 ai_mulF (pc + 1) lo sk en kn sb
  | .iand, 1 => ai_n2 ai_andF (pc + 1) lo sk en kn sb
  | .idiv, 1 => ai_n2 ai_div (pc + 1) lo sk en kn sb
  | .irem, 1 => ai_n2 ai_rem (pc + 1) lo sk en kn sb
  | .ior, 1 => ai_n2 ai_orF (pc + 1) lo sk en kn sb
  | .ishl, 1 => ai_n2 ai_shlF (pc + 1) lo sk en kn sb
  | .ishr, 1 => ai_n2 ai_shrF (pc + 1) lo sk en kn sb
  | .iushr, 1 => ai_n2 ai_top (pc + 1) lo sk en kn sb
  | .ladd, 1 => ai_nlad (pc + 1) lo sk en kn sb
  | .lmul, 1 => ai_n2l ai_lmul (pc + 1) lo sk en kn sb
  | .ldiv, 1 => ai_n2l (ai_ltop true) (pc + 1) lo sk en kn sb
  | .lrem, 1 => ai_n2l (ai_ltop true) (pc + 1) lo sk en kn sb
  | .i2l, 1 => match sk with
    | x :: k => if x.1 = 1 then some [(pc + 1, lo, (2, x.2.1, 0, x.2.2.2) :: k, en, kn, sb)] else none
    | _ => none
  | .dup, 1 => match sk with
    | x :: k => if ¬ x.1 = 2 then some [(pc + 1, lo, x :: x :: k, en, kn, sb)] else none
    | _ => none
  | .pop, 1 => match sk with
    | x :: k => if ¬ x.1 = 2 then some [(pc + 1, lo, k, en, kn, sb)] else none
    | _ => none
  | .pop2, 1 => match sk with
    | x :: k => if x.1 = 2 then some [(pc + 1, lo, k, en, kn, sb)] else none
    | _ => none
  | .i2b, 1 => match sk with
    | x :: k => (ai_i en x).map fun _ => [(pc + 1, lo, (1, en.length, 0, 0) :: k, ai_nu en (-2147483648) 2147483647, kn, sb)]
    | _ => none
  | .i2s, 1 => match sk with
    | x :: k => (ai_i en x).map fun _ => [(pc + 1, lo, (1, en.length, 0, 0) :: k, ai_nu en (-2147483648) 2147483647, kn, sb)]
    | _ => none
  | .lcmp, 1 => match sk with
    | y :: x :: k => if x.1 = 2 ∧ y.1 = 2 then some [(pc + 1, lo, (3, x.2.1, y.2.1, y.2.2.2 - x.2.2.2) :: k, en, kn, sb)] else none
    | _ => none
  | .dup2, 1 => match sk with
    | y :: x :: k => if ¬ x.1 = 2 ∧ ¬ y.1 = 2 then some [(pc + 1, lo, y :: x :: y :: x :: k, en, kn, sb)] else none
    | _ => none
  | .ifCond .eq off, 3 => ai_nb1 0 off pc lo sk en kn sb
  | .if_icmp .eq off, 3 => ai_nb2 0 off pc lo sk en kn sb
  | .ifCond .ne off, 3 => ai_nb1 1 off pc lo sk en kn sb
  | .if_icmp .ne off, 3 => ai_nb2 1 off pc lo sk en kn sb
  | .ifCond .lt off, 3 => ai_nb1 2 off pc lo sk en kn sb
  | .if_icmp .lt off, 3 => ai_nb2 2 off pc lo sk en kn sb
  | .ifCond .ge off, 3 => ai_nb1 3 off pc lo sk en kn sb
  | .if_icmp .ge off, 3 => ai_nb2 3 off pc lo sk en kn sb
  | .ifCond .gt off, 3 => ai_nb1 4 off pc lo sk en kn sb
  | .if_icmp .gt off, 3 => ai_nb2 4 off pc lo sk en kn sb
  | .ifCond .le off, 3 => ai_nb1 5 off pc lo sk en kn sb
  | .if_icmp .le off, 3 => ai_nb2 5 off pc lo sk en kn sb
  | .goto off, 3 => (ai_tg pc off).map fun t => [(t, lo, sk, en, kn, sb)]
  | .lookupswitch dflt ps, _ => ai_nlk dflt ps.toList pc lo sk en kn sb
  | .tableswitch dflt l1 h1 offs, _ => match sk with
    | x :: k => if x.1 = 1 ∧ (h1 - l1 + 1).toNat = offs.toList.length ∧ 0 ≤ (pc : Int) + dflt ∧ (offs.toList.all fun o => decide (0 ≤ (pc : Int) + o)) = true then
        some (ai_sw en x.2.1 x.2.2.2 pc lo k kn sb 2 l1 dflt ++ (ai_sw en x.2.1 x.2.2.2 pc lo k kn sb 4 h1 dflt ++ (List.range offs.toList.length).flatMap fun j => (offs.toList[j]?).toList.flatMap fun off => ai_sw en x.2.1 x.2.2.2 pc lo k kn sb 0 (l1 + (j : Nat)) off)) else none
    | _ => none
  | .getfield i, 3 => match sk with
    | x :: k => (M.2.2.2.2.2.2.1.find? fun q => Nat.beq q.1 i).bind fun q => if x.1 = 0 then (ai_rd TY en kn q.2.1 x.2.1 q.2.2).map fun w => [(pc + 3, lo, w.2.2 :: k, w.1, w.2.1, sb)] else none
    | _ => none
  | .putfield i, 3 => match sk with
    | v :: x :: k => (M.2.2.2.2.2.2.2.1.find? fun q => Nat.beq q.1 i).bind fun q => if x.1 = 0 ∧ ((TY[x.2.1]?).bind fun t => t.2.2[q.2.2.1]?).map (fun f => f.1) = some q.2.2.2 then (ai_wf TY WR en kn q.2.1 x.2.1 q.2.2.1 v).map fun w => [(pc + 3, lo, k, en, w, sb)] else none
    | _ => none
  | .iaload, 1 => match sk with
    | y :: x :: k => if x.1 = 0 then (ai_ra TY en kn 1 x.2.1 y).map fun w => [(pc + 1, lo, w.2.2 :: k, w.1, w.2.1, ai_gt WR x.2.1 y w.2.2 sb)]
        else if x.1 = 4 ∧ M.2.2.2.2.1 = true ∧ y.1 = 1 ∧ y.2.1 = 1 ∧ 0 ≤ y.2.2.2 ∧ y.2.2.2 ≤ 4 then some [(pc + 1, lo, (1, 3 + y.2.2.2.toNat, 0, 0) :: k, en, kn, sb)] else none
    | _ => none
  | .baload, 1 => match sk with
    | y :: x :: k => if x.1 = 0 then (ai_ra TY en kn 2 x.2.1 y).map fun w => [(pc + 1, lo, w.2.2 :: k, w.1, w.2.1, ai_gt WR x.2.1 y w.2.2 sb)] else none
    | _ => none
  | .iastore, 1 => match sk with
    | v :: y :: x :: k => if x.1 = 0 then (ai_wa TY WR en kn 1 x.2.1 y v).map fun w => [(pc + 1, lo, k, en, w, sb)] else none
    | _ => none
  | .bastore, 1 => match sk with
    | v :: y :: x :: k => if x.1 = 0 then (ai_wa TY WR en kn 2 x.2.1 y v).map fun w => [(pc + 1, lo, k, en, w, sb)] else none
    | _ => none
  | .laload, 1 => match sk with
    | y :: x :: k => if x.1 = 0 ∧ ai_il TY en x.2.1 y = true then some [(pc + 1, lo, (2, en.length, 0, 0) :: k, ai_nu en (-9223372036854775808) 9223372036854775807, kn, sb)] else none
    | _ => none
  | .lastore, 1 => match sk with
    | v :: y :: x :: k => if x.1 = 0 ∧ v.1 = 2 ∧ ai_il TY en x.2.1 y = true then some [(pc + 1, lo, k, en, kn, sb)] else none
    | _ => none
  | .aaload, 1 => match sk with
    | y :: x :: k => (TY[x.2.1]?).bind fun t => (ai_i en y).bind fun w => if x.1 = 0 ∧ t.1 = 4 ∧ 0 ≤ w.1 ∧ w.2 < t.2.1 ∧ t.2.1 = t.2.2.length then some ((ai_aa t en y w.1.toNat (w.2.toNat - w.1.toNat)).map fun q => (pc + 1, lo, q.2 :: k, q.1, kn, sb)) else none
    | _ => none
  | .arraylength, 1 => match sk with
    | x :: k => (TY[x.2.1]?).bind fun t => if x.1 = 0 ∧ (t.1 = 1 ∨ t.1 = 2 ∨ t.1 = 3) ∧ t.2.1 < 2147483648 then some [(pc + 1, lo, (1, 0, 0, (t.2.1 : Int)) :: k, en, kn, sb)] else none
    | _ => none
  | _, _ => none
section AIX
variable {TY : List ai_c} {WR : List (Nat × Nat × Nat)} {w0 : va_W} {ad : List Nat} {M : ai_m} {d : Nat} {p : Program} {l : Launch} {e : Env} {R : Room} {s : State} {m : MethodId} {args : Array Value} {below : List Frame} {meth : Method} {c : Code} {D : va_G} {tys : ai_ty} {A : Nat → Prop} {b L : Nat} {sx : Nat → Int32} {cells slots : Nat} {Q : State → Prop} {r0 : List Int} {pc pc' : Nat} {lo : List (Nat × ai_v)} {sk : List ai_v} {en en' : List ai_e} {kn kn' : List ai_k} {sb sb' : List ai_b} {x y v : ai_v} {ss : List ai_s}
set_option maxHeartbeats 4000000 in
theorem ai_nx_ok (C : ai_cx M d p R s m args c D tys A b L sx cells slots) (hM : ai_mok M) {ins : Instr} {len : Nat} (hn : 1 < en.length) (hz : ai_z en = true) (hd : decode M.2.1 pc = .ok (ins, len)) (hq : ai_nx TY WR M ins len pc lo sk en kn sb = some ss) (k : ∀ st ∈ ss, ai_G TY WR w0 ad M p l e R s m args below meth c D tys A b L sx cells slots Q r0 st) : ai_G TY WR w0 ad M p l e R s m args below meth c D tys A b L sx cells slots Q r0 (pc, lo, sk, en, kn, sb) := by
  unfold ai_nx at hq
  split at hq
  · split at hq
    · rename_i hr
      cases hq
      exact ai_Jc (ai_ofI hr) hz (fun H locs ls rest k => lv_iconst C.1 C.2.1 hd rfl k) (k _ (List.mem_singleton.mpr rfl))
    · cases hq
  · split at hq
    · rename_i hr
      cases hq
      exact ai_Jc (ai_ofI8 hr) hz (fun H locs ls rest k => lv_bipush C.1 C.2.1 hd rfl k) (k _ (List.mem_singleton.mpr rfl))
    · cases hq
  · split at hq
    · rename_i hr
      cases hq
      exact ai_Jc (ai_ofI16 hr) hz (fun H locs ls rest k => lv_sipush C.1 C.2.1 hd rfl k) (k _ (List.mem_singleton.mpr rfl))
    · cases hq
  · cases hq
    exact ai_Jcl (ai_ofL _) hz (fun H locs ls rest k => lv_lconst C.1 C.2.1 hd rfl k) (k _ (List.mem_singleton.mpr rfl))
  · obtain ⟨q, h1, rfl⟩ := Option.map_eq_some_iff.mp hq
    have h2 := List.find?_some h1
    have h2 := ai_beq.mp h2
    obtain ⟨h3, h4⟩ := hM.2.2.2.1 q (List.mem_of_find?_eq_some h1)
    rw [h2] at h3
    exact ai_Jc (ai_ofI h4) hz (fun H locs ls rest k => lv_ldc C.1 C.2.1 C.2.2.2.1 (C.2.2.2.2.1 _ h3) hd k) (k _ (List.mem_singleton.mpr rfl))
  · obtain ⟨q, h1, rfl⟩ := Option.map_eq_some_iff.mp hq
    have h2 := List.find?_some h1
    have h2 := ai_beq.mp h2
    obtain ⟨h3, h4⟩ := hM.2.2.2.1 q (List.mem_of_find?_eq_some h1)
    rw [h2] at h3
    exact ai_Jc (ai_ofI h4) hz (fun H locs ls rest k => lv_ldcw C.1 C.2.1 C.2.2.2.1 (C.2.2.2.2.1 _ h3) hd k) (k _ (List.mem_singleton.mpr rfl))
  · obtain ⟨q, h1, rfl⟩ := Option.map_eq_some_iff.mp hq
    have h2 := List.find?_some h1
    have h2 := ai_beq.mp h2
    obtain ⟨h3, h4⟩ := hM.2.2.2.2 q (List.mem_of_find?_eq_some h1)
    rw [h2] at h3
    exact ai_Jcl h4 hz (fun H locs ls rest k => lv_ldc2 C.1 C.2.1 C.2.2.2.1 (C.2.2.2.2.1 _ h3) hd k) (k _ (List.mem_singleton.mpr rfl))
  · exact ai_nldI hq (fun H locs ls rest w h k => lv_iload_n C.1 C.2.1 hd rfl h k) k
  · exact ai_nldI hq (fun H locs ls rest w h k => lv_iload C.1 C.2.1 hd h k) k
  · exact ai_nldL hq (fun H locs ls rest w h k => lv_lload_n C.1 C.2.1 hd rfl h k) k
  · exact ai_nldL hq (fun H locs ls rest w h k => lv_lload C.1 C.2.1 hd h k) k
  · exact ai_nldA hq (fun H locs ls rest w h k => lv_aload_n C.1 C.2.1 hd rfl h k) k
  · exact ai_nldA hq (fun H locs ls rest w h k => lv_aload C.1 C.2.1 hd h k) k
  · exact ai_ns1I hq (fun H locs ls lv rest w h1 h2 k => lv_istore_n C.1 C.2.1 hd rfl h1 h2 rfl k) k
  · exact ai_ns1I hq (fun H locs ls lv rest w h1 h2 k => lv_istore C.1 C.2.1 hd h1 h2 rfl k) k
  · exact ai_ns1A hq (fun H locs ls lv rest w h1 h2 k => lv_astore_n C.1 C.2.1 hd rfl h1 h2 rfl k) k
  · exact ai_ns1A hq (fun H locs ls lv rest w h1 h2 k => lv_astore C.1 C.2.1 hd h1 h2 rfl k) k
  · exact ai_ns2L hq (fun H locs ls lv rest w h1 h2 k => lv_lstore_n C.1 C.2.1 hd rfl h1 h2 rfl k) k
  · exact ai_ns2L hq (fun H locs ls lv rest w h1 h2 k => lv_lstore C.1 C.2.1 hd h1 h2 rfl k) k
  · obtain ⟨v, h1, hq⟩ := Option.bind_eq_some_iff.mp hq
    split at hq
    · rename_i hc
      obtain ⟨q, h2, rfl⟩ := Option.map_eq_some_iff.mp hq
      exact ai_Jinc C h1 hz hn hc.1 hc.2 h2 hd (k _ (List.mem_singleton.mpr rfl))
    · cases hq
  · exact ai_n2_ok ai_add_ok hn hq (fun H locs ls rest i j _ _ k => lv_iadd C.1 C.2.1 hd k) k
  · exact ai_n2_ok ai_sub_ok hn hq (fun H locs ls rest i j _ _ k => lv_isub C.1 C.2.1 hd k) k
  · exact ai_n2_ok ai_mulF_ok hn hq (fun H locs ls rest i j _ _ k => lv_imul C.1 C.2.1 hd k) k
  · exact ai_n2_ok ai_andF_ok hn hq (fun H locs ls rest i j _ _ k => lv_iand C.1 C.2.1 hd k) k
  · exact ai_n2_ok ai_div_ok hn hq (fun H locs ls rest i j _ h k => lv_idiv C.1 C.2.1 hd h k) k
  · exact ai_n2_ok ai_rem_ok hn hq (fun H locs ls rest i j _ h k => lv_irem C.1 C.2.1 hd h k) k
  · exact ai_n2_ok ai_orF_ok hn hq (fun H locs ls rest i j _ _ k => lv_ior C.1 C.2.1 hd k) k
  · exact ai_n2_ok ai_shlF_ok hn hq (fun H locs ls rest i j _ _ k => lv_ishl C.1 C.2.1 hd k) k
  · exact ai_n2_ok ai_shrF_ok hn hq (fun H locs ls rest i j _ _ k => lv_ishr C.1 C.2.1 hd k) k
  · exact ai_n2_ok (ai_top_ok (fun x y => (x.toUInt32 >>> (y.toUInt32 &&& Int32.toUInt32 31)).toInt32)) hn hq (fun H locs ls rest i j _ _ k => lv_iushr C.1 C.2.1 hd rfl k) k
  · exact ai_nlad_ok C hn hd hq k
  · exact ai_n2l_ok ai_lmul_ok hn hq (fun H locs ls rest i j _ k => lv_lmul C.1 C.2.1 hd k) k
  · exact ai_n2l_ok (ai_ltop_ok true _) hn hq (fun H locs ls rest i j h k => lv_ldiv C.1 C.2.1 hd (h rfl) k) k
  · exact ai_n2l_ok (ai_ltop_ok true _) hn hq (fun H locs ls rest i j h k => lv_lrem C.1 C.2.1 hd (h rfl) k) k
  · split at hq
    · split at hq
      · rename_i hc
        cases hq
        exact ai_Ji2l C hc hd (k _ (List.mem_singleton.mpr rfl))
      · cases hq
    · cases hq
  · split at hq
    · split at hq
      · rename_i hc
        cases hq
        exact ai_Jdup C hc hd (k _ (List.mem_singleton.mpr rfl))
      · cases hq
    · cases hq
  · split at hq
    · split at hq
      · rename_i hc
        cases hq
        exact ai_Jpop C hc hd (k _ (List.mem_singleton.mpr rfl))
      · cases hq
    · cases hq
  · split at hq
    · split at hq
      · rename_i hc
        cases hq
        exact ai_Jpop2 C hc hd (k _ (List.mem_singleton.mpr rfl))
      · cases hq
    · cases hq
  · split at hq
    · obtain ⟨w, h1, rfl⟩ := Option.map_eq_some_iff.mp hq
      exact ai_Ju (f := fun x => x.toInt8.toInt32) hn h1 (fun H locs ls rest i k => lv_i2b C.1 C.2.1 hd rfl k) (k _ (List.mem_singleton.mpr rfl))
    · cases hq
  · split at hq
    · obtain ⟨w, h1, rfl⟩ := Option.map_eq_some_iff.mp hq
      exact ai_Ju (f := fun x => x.toInt16.toInt32) hn h1 (fun H locs ls rest i k => lv_i2s C.1 C.2.1 hd rfl k) (k _ (List.mem_singleton.mpr rfl))
    · cases hq
  · split at hq
    · split at hq
      · rename_i hc
        cases hq
        exact ai_Jlcmp C hc.1 hc.2 hd (k _ (List.mem_singleton.mpr rfl))
      · cases hq
    · cases hq
  · split at hq
    · split at hq
      · rename_i hc
        cases hq
        exact ai_Jdup2 C hc.1 hc.2 hd (k _ (List.mem_singleton.mpr rfl))
      · cases hq
    · cases hq
  · exact ai_nb1_ok (op := 0) (fun i => i = 0) (fun i za zb h1 h2 => (ai_P1 i za zb h1 h2).1) hq (fun H locs ls rest i tgt ht a b => lv_if_eq C.1 C.2.1 hd ht a b) k
  · exact ai_nb2_ok (op := 0) (fun i j => i = j) (fun i j za zb h1 h2 => (ai_P2' i j za zb h1 h2).1) hq (fun H locs ls rest i j tgt ht a b => lv_icmp_eq C.1 C.2.1 hd ht a b) k
  · exact ai_nb1_ok (op := 1) (fun i => ¬ i = 0) (fun i za zb h1 h2 => ⟨(ai_P1 i za zb h1 h2).1.2, fun q => (ai_P1 i za zb h1 h2).1.1 (Decidable.not_not.mp q)⟩) hq (fun H locs ls rest i tgt ht a b => lv_if_ne C.1 C.2.1 hd ht a (fun q => b (fun q2 => q2 q))) k
  · exact ai_nb2_ok (op := 1) (fun i j => ¬ i = j) (fun i j za zb h1 h2 => ⟨(ai_P2' i j za zb h1 h2).1.2, fun q => (ai_P2' i j za zb h1 h2).1.1 (Decidable.not_not.mp q)⟩) hq (fun H locs ls rest i j tgt ht a b => lv_icmp_ne C.1 C.2.1 hd ht a (fun q => b (fun q2 => q2 q))) k
  · exact ai_nb1_ok (op := 2) (fun i => i < 0) (fun i za zb h1 h2 => (ai_P1 i za zb h1 h2).2.1) hq (fun H locs ls rest i tgt ht a b => lv_if_lt C.1 C.2.1 hd ht a b) k
  · exact ai_nb2_ok (op := 2) (fun i j => i < j) (fun i j za zb h1 h2 => (ai_P2' i j za zb h1 h2).2.1) hq (fun H locs ls rest i j tgt ht a b => lv_icmp_lt C.1 C.2.1 hd ht a b) k
  · exact ai_nb1_ok (op := 3) (fun i => 0 ≤ i) (fun i za zb h1 h2 => (ai_P1 i za zb h1 h2).2.2.2.1) hq (fun H locs ls rest i tgt ht a b => lv_if_ge C.1 C.2.1 hd ht a b) k
  · exact ai_nb2_ok (op := 3) (fun i j => j ≤ i) (fun i j za zb h1 h2 => (ai_P2' i j za zb h1 h2).2.2.2.1) hq (fun H locs ls rest i j tgt ht a b => lv_icmp_ge C.1 C.2.1 hd ht a b) k
  · exact ai_nb1_ok (op := 4) (fun i => 0 < i) (fun i za zb h1 h2 => (ai_P1 i za zb h1 h2).2.2.1) hq (fun H locs ls rest i tgt ht a b => lv_if_gt C.1 C.2.1 hd ht a b) k
  · exact ai_nb2_ok (op := 4) (fun i j => j < i) (fun i j za zb h1 h2 => (ai_P2' i j za zb h1 h2).2.2.1) hq (fun H locs ls rest i j tgt ht a b => lv_icmp_gt C.1 C.2.1 hd ht a b) k
  · exact ai_nb1_ok (op := 5) (fun i => i ≤ 0) (fun i za zb h1 h2 => (ai_P1 i za zb h1 h2).2.2.2.2) hq (fun H locs ls rest i tgt ht a b => lv_if_le C.1 C.2.1 hd ht a b) k
  · exact ai_nb2_ok (op := 5) (fun i j => i ≤ j) (fun i j za zb h1 h2 => (ai_P2' i j za zb h1 h2).2.2.2.2) hq (fun H locs ls rest i j tgt ht a b => lv_icmp_le C.1 C.2.1 hd ht a b) k
  · obtain ⟨t, h1, rfl⟩ := Option.map_eq_some_iff.mp hq
    exact ai_Jgoto C (ai_tg_ok h1) hd (k _ (List.mem_singleton.mpr rfl))
  · exact ai_nlk_ok C hz hd hq k
  · split at hq
    · split at hq
      · rename_i hc
        obtain ⟨c1, c2, c3, c4⟩ := hc
        cases hq
        refine ai_Jtab C hz c1 hd c2 ⟨c3, fun o ho => by simpa using List.all_eq_true.mp c4 o ho⟩ (fun j off hj st hs => k st (List.mem_append_right _ (List.mem_append_right _ (List.mem_flatMap.mpr ⟨j, List.mem_range.mpr (List.getElem?_eq_some_iff.mp hj).1, by rw [hj]; exact List.mem_flatMap.mpr ⟨off, List.mem_singleton.mpr rfl, hs⟩⟩)))) (fun st hs => k st (List.mem_append_left _ hs)) (fun st hs => k st (List.mem_append_right _ (List.mem_append_left _ hs)))
      · cases hq
    · cases hq
  · split at hq
    · obtain ⟨q, h1, hq⟩ := Option.bind_eq_some_iff.mp hq
      have h2 := List.find?_some h1
      have h2 := ai_beq.mp h2
      have h3 := hM.2.1 q (List.mem_of_find?_eq_some h1)
      rw [h2] at h3
      split at hq
      · rename_i hc
        obtain ⟨w, h4, rfl⟩ := Option.map_eq_some_iff.mp hq
        exact ai_Jget C hn hc h4 h3 hd (k _ (List.mem_singleton.mpr rfl))
      · cases hq
    · cases hq
  · split at hq
    · obtain ⟨q, h1, hq⟩ := Option.bind_eq_some_iff.mp hq
      have h2 := List.find?_some h1
      have h2 := ai_beq.mp h2
      have h3 := hM.2.2.1 q (List.mem_of_find?_eq_some h1)
      rw [h2] at h3
      split at hq
      · rename_i hc
        obtain ⟨w, h4, rfl⟩ := Option.map_eq_some_iff.mp hq
        exact ai_Jput C hc.1 h4 (fun kd hkd => by rw [hc.2] at hkd; cases hkd; exact h3) hd (k _ (List.mem_singleton.mpr rfl))
      · cases hq
    · cases hq
  · split at hq
    · split at hq
      · rename_i hc
        obtain ⟨w, h4, rfl⟩ := Option.map_eq_some_iff.mp hq
        exact ai_Jald C (tg := 1) (Or.inl rfl) hn hc h4 hd (k _ (List.mem_singleton.mpr rfl))
      · split at hq
        · rename_i hc
          cases hq
          exact ai_Jscr C hc.2.1 hc.1 hc.2.2 hd (k _ (List.mem_singleton.mpr rfl))
        · cases hq
    · cases hq
  · split at hq
    · split at hq
      · rename_i hc
        obtain ⟨w, h4, rfl⟩ := Option.map_eq_some_iff.mp hq
        exact ai_Jald C (tg := 2) (Or.inr rfl) hn hc h4 hd (k _ (List.mem_singleton.mpr rfl))
      · cases hq
    · cases hq
  · split at hq
    · split at hq
      · rename_i hc
        obtain ⟨w, h4, rfl⟩ := Option.map_eq_some_iff.mp hq
        exact ai_Jast C (tg := 1) (Or.inl rfl) hc h4 hd (k _ (List.mem_singleton.mpr rfl))
      · cases hq
    · cases hq
  · split at hq
    · split at hq
      · rename_i hc
        obtain ⟨w, h4, rfl⟩ := Option.map_eq_some_iff.mp hq
        exact ai_Jast C (tg := 2) (Or.inr rfl) hc h4 hd (k _ (List.mem_singleton.mpr rfl))
      · cases hq
    · cases hq
  · split at hq
    · split at hq
      · rename_i hc
        cases hq
        exact ai_Jlald C hn hc.1 hc.2 hd (k _ (List.mem_singleton.mpr rfl))
      · cases hq
    · cases hq
  · split at hq
    · split at hq
      · rename_i hc
        cases hq
        exact ai_Jlast C hc.1 hc.2.1 hc.2.2 hd (k _ (List.mem_singleton.mpr rfl))
      · cases hq
    · cases hq
  · split at hq
    · obtain ⟨t, h1, hq⟩ := Option.bind_eq_some_iff.mp hq
      obtain ⟨w, h2, hq⟩ := Option.bind_eq_some_iff.mp hq
      split at hq
      · rename_i hc
        cases hq
        exact ai_Jaald C hc.1 h1 hc.2.1 h2 hc.2.2 hd (fun q hq => k _ (List.mem_map.mpr ⟨q, hq, rfl⟩))
      · cases hq
    · cases hq
  · split at hq
    · obtain ⟨t, h1, hq⟩ := Option.bind_eq_some_iff.mp hq
      split at hq
      · rename_i hc
        cases hq
        exact ai_Jlen C hz hc.1 h1 hc.2.1 hc.2.2 hd (k _ (List.mem_singleton.mpr rfl))
      · cases hq
    · cases hq
  · cases hq
end AIX
