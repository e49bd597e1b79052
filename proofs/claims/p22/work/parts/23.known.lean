/-! isWord, wordRead; the methods whose walk is known -/
theorem jd_get {M : ai_m} {d : Nat} {p : Program} {l : Launch} {e : Env} {R : Room} {s : State} {m : MethodId} {args : Array Value} {below : List Frame} {meth : Method} {c : Code} {D : va_G} {tys : ai_ty} {A : Nat → Prop} {aK aV : Nat → Nat} {H : Heap} {locs : List Loc} {cells slots : Nat} {Q : State → Prop} {pc : Nat} {ls : Array Slot} {rest : List Value} (C : jd_C M d p R s m args c D tys A aK aV cells slots) {ci j idx q0 a : Nat} (hf : ai_flok M.1.cls ci j idx) {ws : va_W} {fs : List Value} {v : Value} (hP : va_P D vwCl ws H) (w1 : ws[q0]? = some (a, .inr (ci, fs))) (hv : fs[j]? = some v) (hd : decode M.2.1 pc = .ok (.getfield idx, 3)) (k : W p l e R s m args below meth c H locs cells slots Q (F0 m (pc + 3) ls (v :: rest))) : W p l e R s m args below meth c H locs cells slots Q (F0 m pc ls (.ref a :: rest)) := by
  obtain ⟨C0, T0, N0, f1, f2, f3, f4⟩ := hf
  exact va_get C.x C.b C.ts f4 C.own C.K hP q0 w1 f1 j f2 (C.ts _ f3) (fun _ h => h) hv hd k
theorem jf_11 : ai_flok RX2 2 0 11 := tv_m37.1.1.2.1 (11, 2, 0) (by decide)
theorem jf_41 : ai_flok RX2 2 7 41 := tv_m37.1.1.2.1 (41, 2, 7) (by decide)
theorem jf_68 : ai_flok RX2 2 9 68 := tv_m37.1.1.2.1 (68, 2, 9) (by decide)
set_option maxHeartbeats 1000000 in
theorem jd_is (l : Launch) {d : Nat} {D : va_G} {tys : ai_ty} {A : Nat → Prop} {aK aV : Nat → Nat} {H : Heap} {i : Nat} (hi : i < 7) (hd : 4 ≤ d) {ws : va_W} {a q27 t0 : Nat} {fs : List Value} {zt zf : Int32} {cA : ClassId} {f : Nat → Int32} (hP : va_P D vwCl ws H) (w1 : ws[26]? = some (a, .inr (2, fs))) (f0 : fs[0]? = some (.ref q27)) (f7 : fs[7]? = some (.int zt)) (f9 : fs[9]? = some (.int zf)) (b1 : 0 ≤ zf.toInt) (b2 : zt.toInt ≤ 160) (b3 : 0 ≤ zt.toInt) (b4 : zf.toInt ≤ 160) (w2 : ws[27]? = some (q27, .inl (cA, 160, .inl f))) (ht : tys[t0]? = some (cA, .int)) : Met l yX2_isWord (ai_ws jm_is) (ai_rm d) (va_Pc [.ref a, .ref (aK i)] (jd_P D tys A aK aV H)) (jd_Q H (fun v => v = some (.int 0) ∨ v = some (.int 1))) 0 0 A := by
  refine jd_met (M := jm_is) l (by decide) (by first | exact Nat.le_refl _ | exact Nat.le_of_ble_eq_true rfl) ?_
  intro p e s m below meth c ls C hH hr hlk hl
  have hS : va_S A s.heap s.heap [] := va_S.rf
  have hr : meth.sig.returnType = (some .boolean) := hr
  subst hH
  obtain ⟨hb1, -⟩ := jd_b i hi
  have hl : lv_has ls 3 [(0, .ref a), (1, .ref (aK i))] := hl
  generalize hN : ai_JL.getD i 0 = N at hb1
  have hNI : (Int32.ofNat N).toInt = (N : Int) := nI_toInt (by omega)
  have loop : Int32.ofNat N = zt - zf → ∀ (n k : Nat), k + n = N → ∀ (ls : Array Slot) (locs : List Loc), lv_has ls 3 [(2, .int (Int32.ofNat k)), (0, .ref a), (1, .ref (aK i))] → va_S A s.heap s.heap locs → W p l e (ai_rm d) s m ([Value.ref a, Value.ref (aK i)] : List Value).toArray below meth c s.heap locs 0 0 (MQ below (jd_Q s.heap (fun v => v = some (.int 0) ∨ v = some (.int 1))) ([Value.ref a, Value.ref (aK i)] : List Value).toArray s 0 0 A) (F0 m 20 ls []) := by
    intro heq n
    have hsub : (zt - zf).toInt = zt.toInt - zf.toInt := ai_subI (by omega) (by omega)
    have hNz : (N : Int) = zt.toInt - zf.toInt := by rw [← hsub, ← heq, hNI]
    induction n with
    | zero =>
      intro k hk ls locs hl hS
      refine lv_iload_n C.x C.b (by decide +kernel : decode cX2_isWord 20 = .ok (.iload_n 2, 1)) rfl (lv_at hl 0 rfl) ?_
      refine lv_aload_n C.x C.b (by decide +kernel : decode cX2_isWord 21 = .ok (.aload_n 1, 1)) rfl (lv_at hl 2 rfl) ?_
      refine jd_V (M' := jm_len) (As := []) (rest := [.int (Int32.ofNat k)]) C hS (by omega) (by decide) (Nat.le_of_ble_eq_true rfl) jg_len (by decide +kernel) (vk_recv C.J.1 hi hS) (jd_len l hi (by omega)) rfl hl.1 rfl (by decide +kernel : decode cX2_isWord 22 = .ok (.invokevirtual 141, 3)) (fun v locs1 hv hS1 => ?_)

      subst hv
      refine lv_icmp_ge C.x C.b (by decide +kernel : decode cX2_isWord 25 = .ok (.if_icmp .ge 30, 3)) (tgt := 55) (by decide) (fun _ => ?_) (fun h => absurd (by rw [hN, show k = N by omega]; exact Int32.le_refl _) h)
      refine lv_iconst C.x C.b (by decide +kernel : decode cX2_isWord 55 = .ok (.iconst 1, 1)) (v := 1) rfl ?_
      exact W.zret C.x C.b hr rfl (fun t ht hW => ⟨_, rfl, Or.inr rfl, ht⟩) hS1.2.2 (by decide +kernel : decode cX2_isWord 56 = .ok (.ireturn, 1)) hlk
    | succ n ih =>
      intro k hk ls locs hl hS
      have hkN : k < ai_JL.getD i 0 := by rw [hN]; omega
      obtain ⟨i1, i2, i3, i4⟩ := jd_in (k := k) (N := N) (by omega) hb1
      refine lv_iload_n C.x C.b (by decide +kernel : decode cX2_isWord 20 = .ok (.iload_n 2, 1)) rfl (lv_at hl 0 rfl) ?_
      refine lv_aload_n C.x C.b (by decide +kernel : decode cX2_isWord 21 = .ok (.aload_n 1, 1)) rfl (lv_at hl 2 rfl) ?_
      refine jd_V (M' := jm_len) (As := []) (rest := [.int (Int32.ofNat k)]) C hS (by omega) (by decide) (Nat.le_of_ble_eq_true rfl) jg_len (by decide +kernel) (vk_recv C.J.1 hi hS) (jd_len l hi (by omega)) rfl hl.1 rfl (by decide +kernel : decode cX2_isWord 22 = .ok (.invokevirtual 141, 3)) (fun v locs1 hv hS1 => ?_)

      subst hv
      refine lv_icmp_ge C.x C.b (by decide +kernel : decode cX2_isWord 25 = .ok (.if_icmp .ge 30, 3)) (tgt := 55) (by decide) (fun h => absurd i2 (Int32.not_lt.mpr (by rw [← hN]; exact h))) (fun _ => ?_)
      refine lv_aload_n C.x C.b (by decide +kernel : decode cX2_isWord 28 = .ok (.aload_n 0, 1)) rfl (lv_at hl 1 rfl) ?_
      refine jd_get C jf_11 hP w1 f0 (by decide +kernel : decode cX2_isWord 29 = .ok (.getfield 11, 3)) ?_
      refine lv_aload_n C.x C.b (by decide +kernel : decode cX2_isWord 32 = .ok (.aload_n 0, 1)) rfl (lv_at hl 1 rfl) ?_
      refine jd_get C jf_68 hP w1 f9 (by decide +kernel : decode cX2_isWord 33 = .ok (.getfield 68, 3)) ?_
      refine lv_iload_n C.x C.b (by decide +kernel : decode cX2_isWord 36 = .ok (.iload_n 2, 1)) rfl (lv_at hl 0 rfl) ?_
      refine lv_iadd C.x C.b (by decide +kernel : decode cX2_isWord 37 = .ok (.iadd, 1)) ?_
      have hkI : (Int32.ofNat k).toInt = (k : Int) := nI_toInt (by omega)
      have hix : (zf + Int32.ofNat k).toInt = zf.toInt + k := by rw [ai_addI (by omega) (by omega), hkI]
      refine va_iald C.x C.b C.K hP 27 t0 w2 ht (vp_in_iff.mpr ⟨by omega, by omega⟩) (by decide +kernel : decode cX2_isWord 38 = .ok (.iaload, 1)) ?_
      refine lv_aload_n C.x C.b (by decide +kernel : decode cX2_isWord 39 = .ok (.aload_n 1, 1)) rfl (lv_at hl 2 rfl) ?_
      refine lv_iload_n C.x C.b (by decide +kernel : decode cX2_isWord 40 = .ok (.iload_n 2, 1)) rfl (lv_at hl 0 rfl) ?_
      refine jd_V (M' := jm_ca) (n := 1) (As := [.int (Int32.ofNat k)]) C hS1 (by omega) (by decide) (Nat.le_of_ble_eq_true rfl) jg_ca (by decide +kernel) (vk_recv C.J.1 hi hS1) (jd_ca l hi hkN (by omega)) rfl hl.1 rfl (by decide +kernel : decode cX2_isWord 41 = .ok (.invokevirtual 145, 3)) (fun v locs2 hv hS2 => ?_)
      subst hv
      refine lv_icmp_eq C.x C.b (by decide +kernel : decode cX2_isWord 44 = .ok (.if_icmp .eq 5, 3)) (tgt := 49) (by decide) (fun _ => ?_) (fun _ => ?_)
      · refine lv_iinc C.x C.b (by decide +kernel : decode cX2_isWord 49 = .ok (.iinc 2 1, 3)) hl (k := 0) rfl (v := Int32.ofNat (k + 1)) (nI_succ k).symm (by decide) (lv' := [(2, .int (Int32.ofNat (k + 1))), (0, .ref a), (1, .ref (aK i))]) rfl (fun ls3 hl3 => ?_)
        refine lv_goto C.x C.b (by decide +kernel : decode cX2_isWord 52 = .ok (.goto (-32), 3)) (tgt := 20) (by decide) ?_
        exact ih (k + 1) (by omega) ls3 locs2 hl3 hS2
      · refine lv_iconst C.x C.b (by decide +kernel : decode cX2_isWord 47 = .ok (.iconst 0, 1)) (v := 0) rfl ?_
        exact W.zret C.x C.b hr rfl (fun t ht hW => ⟨_, rfl, Or.inl rfl, ht⟩) hS2.2.2 (by decide +kernel : decode cX2_isWord 48 = .ok (.ireturn, 1)) hlk
  refine lv_aload_n C.x C.b (by decide +kernel : decode cX2_isWord 0 = .ok (.aload_n 1, 1)) rfl (lv_at hl 1 rfl) ?_
  refine jd_V (M' := jm_len) (As := []) (rest := []) C hS (by omega) (by decide) (Nat.le_of_ble_eq_true rfl) jg_len (by decide +kernel) (vk_recv C.J.1 hi hS) (jd_len l hi (by omega)) rfl hl.1 rfl (by decide +kernel : decode cX2_isWord 1 = .ok (.invokevirtual 141, 3)) (fun v locs1 hv hS1 => ?_)

  subst hv
  refine lv_aload_n C.x C.b (by decide +kernel : decode cX2_isWord 4 = .ok (.aload_n 0, 1)) rfl (lv_at hl 0 rfl) ?_
  refine jd_get C jf_41 hP w1 f7 (by decide +kernel : decode cX2_isWord 5 = .ok (.getfield 41, 3)) ?_
  refine lv_aload_n C.x C.b (by decide +kernel : decode cX2_isWord 8 = .ok (.aload_n 0, 1)) rfl (lv_at hl 0 rfl) ?_
  refine jd_get C jf_68 hP w1 f9 (by decide +kernel : decode cX2_isWord 9 = .ok (.getfield 68, 3)) ?_
  refine lv_isub C.x C.b (by decide +kernel : decode cX2_isWord 12 = .ok (.isub, 1)) ?_
  refine lv_icmp_eq C.x C.b (by decide +kernel : decode cX2_isWord 13 = .ok (.if_icmp .eq 5, 3)) (tgt := 18) (by decide) (fun heq => ?_) (fun _ => ?_)
  · refine lv_iconst C.x C.b (by decide +kernel : decode cX2_isWord 18 = .ok (.iconst 0, 1)) (v := 0) rfl ?_
    refine lv_istore_n C.x C.b (by decide +kernel : decode cX2_isWord 19 = .ok (.istore_n 2, 1)) (i := 2) rfl hl (by decide) (lv' := [(2, .int 0), (0, .ref a), (1, .ref (aK i))]) rfl (fun ls2 hl2 => ?_)
    exact loop (by rw [← hN]; exact heq) N 0 (by omega) ls2 locs1 hl2 hS1
  · refine lv_iconst C.x C.b (by decide +kernel : decode cX2_isWord 16 = .ok (.iconst 0, 1)) (v := 0) rfl ?_
    exact W.zret C.x C.b hr rfl (fun t ht hW => ⟨_, rfl, Or.inl rfl, ht⟩) hS1.2.2 (by decide +kernel : decode cX2_isWord 17 = .ok (.ireturn, 1)) hlk
theorem jd_fi {ad : List Nat} {f : ai_f} {x : Value} (h : ai_fd ad f x) (h1 : f.1 = 1) : ∃ i : Int32, x = .int i ∧ f.2.2.1 ≤ i.toInt ∧ i.toInt ≤ f.2.2.2 := by
  rcases h with ⟨q, -⟩ | ⟨-, h⟩ | ⟨q, -⟩
  · omega
  · exact h
  · omega
theorem jd_fr {ad : List Nat} {f : ai_f} {x : Value} (h : ai_fd ad f x) (h1 : f.1 = 0) : ∃ q, ad[f.2.1]? = some q ∧ x = .ref q := by
  rcases h with ⟨-, h⟩ | ⟨q, -⟩ | ⟨q, -⟩
  · exact h
  · omega
  · omega
/-- wordRead's walk -/
theorem jd_wr {d : Nat} {p : Program} {l : Launch} {e : Env} {R : Room} {s : State} {m : MethodId} {args : Array Value} {below : List Frame} {meth : Method} {c : Code} {D : va_G} {tys : ai_ty} {A : Nat → Prop} {aK aV : Nat → Nat} {H : Heap} {locs : List Loc} {cells slots : Nat} {Q : State → Prop} {ls : Array Slot} (C : jd_C tb_m37 d p R s m args c D tys A aK aV cells slots) (h6 : 6 ≤ d) (hS : va_S A s.heap H locs) {ws : va_W} {a q27 t0 : Nat} {fs : List Value} {zt zf : Int32} {cA : ClassId} {f : Nat → Int32} (hP : va_P D vwCl ws H) (w1 : ws[26]? = some (a, .inr (2, fs))) (f0 : fs[0]? = some (.ref q27)) (f7 : fs[7]? = some (.int zt)) (f9 : fs[9]? = some (.int zf)) (b1 : 0 ≤ zf.toInt) (b2 : zt.toInt ≤ 160) (b3 : 0 ≤ zt.toInt) (b4 : zf.toInt ≤ 160) (w2 : ws[27]? = some (q27, .inl (cA, 160, .inl f))) (ht : tys[t0]? = some (cA, .int))
    (hl : lv_has ls 2 [(0, .ref a)]) (k1 : ∀ (z : Int32) (ls : Array Slot) (locs : List Loc), 0 ≤ z.toInt → z.toInt ≤ 7 → lv_has ls 2 [] → va_S A s.heap H locs → W p l e R s m args below meth c H locs cells slots Q (F0 m 20 ls [.int z])) (k2 : ∀ (z : Int32) (ls : Array Slot) (locs : List Loc), 0 ≤ z.toInt → z.toInt ≤ 7 → lv_has ls 2 [] → va_S A s.heap H locs → W p l e R s m args below meth c H locs cells slots Q (F0 m 29 ls [.int z])) : W p l e R s m args below meth c H locs cells slots Q (F0 m 0 ls []) := by
  have loop : ∀ (n j : Nat), j + n = 7 → ∀ (ls : Array Slot) (locs : List Loc), lv_has ls 2 [(1, .int (Int32.ofNat j)), (0, .ref a)] → va_S A s.heap H locs → W p l e R s m args below meth c H locs cells slots Q (F0 m 2 ls []) := by
    intro n
    induction n with
    | zero =>
      intro j hj ls locs hl hS
      have e7 : j = 7 := by omega
      subst e7
      refine lv_iload_n C.x C.b (by decide +kernel : decode cX2_wordRead 2 = .ok (.iload_n 1, 1)) rfl (lv_at hl 0 rfl) ?_
      refine lv_bipush C.x C.b (by decide +kernel : decode cX2_wordRead 3 = .ok (.bipush 7, 2)) (v := 7) rfl ?_
      refine lv_icmp_ge C.x C.b (by decide +kernel : decode cX2_wordRead 5 = .ok (.if_icmp .ge 22, 3)) (tgt := 27) (by decide) (fun _ => ?_) (fun h => absurd (by decide) h)
      refine lv_bipush C.x C.b (by decide +kernel : decode cX2_wordRead 27 = .ok (.bipush 7, 2)) (v := 7) rfl ?_
      exact k2 7 ls locs (by decide) (by decide) (lv_sub hl [] rfl) hS
    | succ n ih =>
      intro j hj ls locs hl hS
      have hi : j < 7 := by omega
      have hjI : (Int32.ofNat j).toInt = (j : Int) := nI_toInt (by omega)
      refine lv_iload_n C.x C.b (by decide +kernel : decode cX2_wordRead 2 = .ok (.iload_n 1, 1)) rfl (lv_at hl 0 rfl) ?_
      refine lv_bipush C.x C.b (by decide +kernel : decode cX2_wordRead 3 = .ok (.bipush 7, 2)) (v := 7) rfl ?_
      refine lv_icmp_ge C.x C.b (by decide +kernel : decode cX2_wordRead 5 = .ok (.if_icmp .ge 22, 3)) (tgt := 27) (by decide) (fun h => absurd h (nI_ge hi (by decide))) (fun _ => ?_)
      refine lv_aload_n C.x C.b (by decide +kernel : decode cX2_wordRead 8 = .ok (.aload_n 0, 1)) rfl (lv_at hl 1 rfl) ?_
      refine lv_iload_n C.x C.b (by decide +kernel : decode cX2_wordRead 9 = .ok (.iload_n 1, 1)) rfl (lv_at hl 0 rfl) ?_
      refine jd_S (M' := jm_sp) (n := 1) (As := [.int (Int32.ofNat j)]) (rest := [.ref a]) C hS (by omega) (by decide) (Nat.le_of_ble_eq_true rfl) jg_sp (by decide +kernel) (jd_sp l hi) rfl hl.1 rfl (by decide +kernel : decode cX2_wordRead 10 = .ok (.invokestatic 133, 3)) (fun v locs1 hv hS1 => ?_)
      subst hv
      refine jd_V (M' := jm_is) (n := 1) (As := [.ref (aK j)]) (rest := []) C hS1 (by omega) (by decide) (Nat.le_of_ble_eq_true rfl) jg_is (by decide +kernel) (va_recv C.K hP (q := (RX2, TX2, 11)) rfl w1) (jd_is l hi (by omega) hP w1 f0 f7 f9 b1 b2 b3 b4 w2 ht) rfl hl.1 rfl (by decide +kernel : decode cX2_wordRead 13 = .ok (.invokevirtual 137, 3)) (fun v locs2 hv hS2 => ?_)
      rcases hv with hv | hv
      · subst hv
        refine lv_if_eq C.x C.b (by decide +kernel : decode cX2_wordRead 16 = .ok (.ifCond .eq 5, 3)) (tgt := 21) (by decide) (fun _ => ?_) (fun h => absurd rfl h)
        refine lv_iinc C.x C.b (by decide +kernel : decode cX2_wordRead 21 = .ok (.iinc 1 1, 3)) hl (k := 0) rfl (v := Int32.ofNat (j + 1)) (nI_succ j).symm (by decide) (lv' := [(1, .int (Int32.ofNat (j + 1))), (0, .ref a)]) rfl (fun ls3 hl3 => ?_)
        refine lv_goto C.x C.b (by decide +kernel : decode cX2_wordRead 24 = .ok (.goto (-22), 3)) (tgt := 2) (by decide) ?_
        exact ih (j + 1) (by omega) ls3 locs2 hl3 hS2
      · subst hv
        refine lv_if_eq C.x C.b (by decide +kernel : decode cX2_wordRead 16 = .ok (.ifCond .eq 5, 3)) (tgt := 21) (by decide) (fun h => absurd h (by decide)) (fun _ => ?_)
        refine lv_iload_n C.x C.b (by decide +kernel : decode cX2_wordRead 19 = .ok (.iload_n 1, 1)) rfl (lv_at hl 0 rfl) ?_
        exact k1 _ ls locs2 (by omega) (by omega) (lv_sub hl [] rfl) hS2
  refine lv_iconst C.x C.b (by decide +kernel : decode cX2_wordRead 0 = .ok (.iconst 0, 1)) (v := 0) rfl ?_
  refine lv_istore_n C.x C.b (by decide +kernel : decode cX2_wordRead 1 = .ok (.istore_n 1, 1)) (i := 1) rfl hl (by decide) (lv' := [(1, .int 0), (0, .ref a)]) rfl (fun ls2 hl2 => ?_)
  exact loop 7 0 rfl ls2 locs hl2 hS
/-- .. as a walk that is known -/
theorem wr_known {TY : List ai_c} {WR : List (Nat × Nat × Nat)} {w0 : va_W} {ad : List Nat} {M : ai_m} {d : Nat} {p : Program} {l : Launch} {e : Env} {R : Room} {s : State} {m : MethodId} {args : Array Value} {below : List Frame} {meth : Method} {c : Code} {D : va_G} {tys : ai_ty} {A : Nat → Prop} {b L : Nat} {sx : Nat → Int32} {cells slots : Nat} {Q : State → Prop} {r0 : List Int} {st : ai_s} (C : ai_cx tb_m37 d p R s m args c D tys A b L sx cells slots) (h6 : 6 ≤ d) (h0 : st.1 = 0) (h1 : ai_get st.2.1 0 = some (0, 26, 0, 0)) (hs : st.2.2.1.isEmpty = true) (hn : Nat.blt 1 st.2.2.2.1.length = true)
    (k1 : ai_G tb_TY WR w0 ad tb_m37 p l e R s m args below meth c D tys A b L sx cells slots Q r0 (20, [], [(1, st.2.2.2.1.length, 0, 0)], ai_nu st.2.2.2.1 0 7, st.2.2.2.2.1, st.2.2.2.2.2))
    (k2 : ai_G tb_TY WR w0 ad tb_m37 p l e R s m args below meth c D tys A b L sx cells slots Q r0 (29, [], [(1, st.2.2.2.1.length, 0, 0)], ai_nu st.2.2.2.1 0 7, st.2.2.2.2.1, st.2.2.2.2.2)) : ai_G tb_TY WR w0 ad tb_m37 p l e R s m args below meth c D tys A b L sx cells slots Q r0 st := by
  intro r lv skc ws H locs ls hxx g hP hD hS hl
  obtain ⟨g1, g2, g3, g4, g5, g6, g7, g8⟩ := g
  obtain ⟨n0, x0, i0, j0⟩ := ai_get_ok g3 h1
  obtain ⟨aK, aV, hJ⟩ := C.2.2.2.2.2.1.2
  have C' : jd_C tb_m37 d p R s m args c D tys A aK aV cells slots := ⟨C.1, C.2.1, C.2.2.1, C.2.2.2.1, C.2.2.2.2.1, C.2.2.2.2.2.2.1, hJ, C.2.2.2.2.2.2.2.2.1.1, C.2.2.2.2.2.2.2.2.1.2.1, C.2.2.2.2.2.2.2.2.1.2.2.1, C.2.2.2.2.2.2.2.2.1.2.2.2⟩
  have hsk : skc = [] := by
    rw [List.isEmpty_iff.mp hs] at g4
    exact g4.nil
  subst hsk
  obtain ⟨a, e1, w1, v1, c1⟩ := g5.get (c := 26) rfl
  obtain ⟨q27, e2, w2, v2, c2⟩ := g5.get (c := 27) rfl
  rcases c1 with ⟨-, fs, rfl, -, hf⟩ | ⟨q, -⟩ | ⟨q, -⟩ | ⟨q, -⟩
  · rcases c2 with ⟨q, -⟩ | ⟨-, cA, f, rfl, ⟨t0, ht⟩, -⟩ | ⟨q, -⟩ | ⟨q, -⟩
    · exact absurd q (by decide)
    · obtain ⟨y0, f0, d0⟩ := hf 0 _ rfl
      obtain ⟨y7, f7, d7⟩ := hf 7 _ rfl
      obtain ⟨y9, f9, d9⟩ := hf 9 _ rfl
      obtain ⟨q0, z0, rfl⟩ := jd_fr d0 rfl
      obtain ⟨zt, rfl, t1, t2⟩ := jd_fi d7 rfl
      obtain ⟨zf, rfl, u1, u2⟩ := jd_fi d9 rfl
      have hq : q0 = q27 := Option.some.inj (z0.symm.trans v2)
      subst hq
      have hx0 : x0 = .ref a := by
        rcases j0 with ⟨-, q, q1, q2⟩ | ⟨q, -⟩ | ⟨q, -⟩ | ⟨q, -⟩ | ⟨q, -⟩
        · rw [q2, Option.some.inj (q1.symm.trans v1)]
        all_goals exact absurd q (by decide)
      subst hx0
      have hl' : lv_has ls 2 [(0, .ref a)] := ⟨hl.1, hl.2.1, fun q hq => by
        rcases List.mem_cons.mp hq with rfl | hq
        · exact lv_at hl n0 i0
        · cases hq⟩
      rw [h0]
      refine jd_wr C' h6 hS hP w1 f0 f7 f9 u1 t2 t1 u2 w2 ht hl' (fun z ls' locs' z1 z2 hl2 hS2 => ?_) (fun z ls' locs' z1 z2 hl2 hS2 => ?_)
      · exact k1 (r ++ [z.toInt]) [] [.int z] ws H locs' ls' (hxx.tr ai_x.push) ⟨g1.nu z1 z2, g2.mono ai_x.push, trivial, ⟨Or.inr (Or.inl ⟨rfl, _, _, ai_last g1.1, rfl, by show z.toInt = z.toInt + 0; omega⟩), trivial⟩, g5, g6.mono ai_x.push, g7, ai_sc1 ai_x.push (by rw [g1.1]; exact Nat.le_of_ble_eq_true hn) g8⟩ hP hD hS2 hl2
      · exact k2 (r ++ [z.toInt]) [] [.int z] ws H locs' ls' (hxx.tr ai_x.push) ⟨g1.nu z1 z2, g2.mono ai_x.push, trivial, ⟨Or.inr (Or.inl ⟨rfl, _, _, ai_last g1.1, rfl, by show z.toInt = z.toInt + 0; omega⟩), trivial⟩, g5, g6.mono ai_x.push, g7, ai_sc1 ai_x.push (by rw [g1.1]; exact Nat.le_of_ble_eq_true hn) g8⟩ hP hD hS2 hl2
    · exact absurd q (by decide)
    · exact absurd q (by decide)
  · exact absurd q (by decide)
  · exact absurd q (by decide)
  · exact absurd q (by decide)
theorem su_ok : ai_SU tb_K := by
  intro mid d cu st xs M hq hM w0 ad p l e R s m args below meth c D tys A b L sx cells slots Q r0 C k
  dsimp only at hq
  split at hq
  · rename_i hg
    rw [Bool.and_eq_true] at hg
    have hg0 := ai_beq.mp hg.1
    have hg6 := Nat.le_of_ble_eq_true hg.2
    have hq2 : tb_su mid st = some xs := hq
    clear hq
    unfold tb_su at hq2
    split at hq2
    · rename_i hm
      subst hm
      have hM' : M = tb_m150 := (Option.some.inj hM).symm
      subst hM'
      split at hq2
      · rename_i hc
        simp only [Bool.and_eq_true] at hc
        obtain ⟨⟨⟨⟨c0, c2⟩, c4⟩, cs⟩, cn⟩ := hc
        injection hq2 with hq2
        subst hq2
        exact lo_known (M := tb_m150) C hg0 c0 c2 c4 cs cn rfl (k _ (List.mem_singleton.mpr rfl))
      · cases hq2
    · split at hq2
      · rename_i hm
        subst hm
        have hM' : M = tb_m37 := (Option.some.inj hM).symm
        subst hM'
        split at hq2
        · rename_i hc
          simp only [Bool.and_eq_true, decide_eq_true_eq] at hc
          obtain ⟨⟨c0, cs⟩, cn⟩ := hc
          injection hq2 with hq2
          subst hq2
          exact wr_known (TY := tb_TY) (M := tb_m37) C hg6 hg0 c0 cs cn (k _ List.mem_cons_self) (k _ (List.mem_cons_of_mem _ (List.mem_singleton.mpr rfl)))
        · cases hq2
      · cases hq2
  · cases hq
