/-! isWord, wordRead: which word -/
theorem sp_is_iff {g : Nat → Int} {f e : Nat} {w : List Int} : sp_is g f e w = true ↔ e - f = w.length ∧ ∀ k, k < w.length → w[k]? = some (g (f + k)) := by
  unfold sp_is
  rw [Bool.and_eq_true, decide_eq_true_eq, List.all_eq_true]
  refine ⟨fun h => ⟨h.1, fun k hk => decide_eq_true_eq.mp (h.2 k (List.mem_range.mpr hk))⟩, fun h => ⟨h.1, fun k hk => decide_eq_true_eq.mpr (h.2 k (List.mem_range.mp hk))⟩⟩
theorem sp_is_congr {g g' : Nat → Int} {f e : Nat} {w : List Int} (h : ∀ i, f ≤ i → i < e → g i = g' i) : sp_is g f e w = sp_is g' f e w := by
  rw [Bool.eq_iff_iff, sp_is_iff, sp_is_iff]
  refine ⟨fun k => ⟨k.1, fun i hi => by rw [k.2 i hi, h (f + i) (by omega) (by omega)]⟩, fun k => ⟨k.1, fun i hi => by rw [k.2 i hi, h (f + i) (by omega) (by omega)]⟩⟩
def sp_P (P : List Int → Bool) : Nat := if P (sp_W.getD 0 []) = true then 0 else if P (sp_W.getD 1 []) = true then 1 else if P (sp_W.getD 2 []) = true then 2 else if P (sp_W.getD 3 []) = true then 3 else if P (sp_W.getD 4 []) = true then 4 else if P (sp_W.getD 5 []) = true then 5 else if P (sp_W.getD 6 []) = true then 6 else 7
theorem sp_word_P {g : Nat → Int} {f e : Nat} : sp_word g f e = sp_P (sp_is g f e) := by
  unfold sp_word
  generalize sp_is g f e = P
  show (if P (sp_W.getD 0 []) = true then some 0 else if P (sp_W.getD 1 []) = true then some 1 else if P (sp_W.getD 2 []) = true then some 2 else if P (sp_W.getD 3 []) = true then some 3 else if P (sp_W.getD 4 []) = true then some 4 else if P (sp_W.getD 5 []) = true then some 5 else if P (sp_W.getD 6 []) = true then some 6 else (none : Option Nat)).getD 7 = sp_P P
  unfold sp_P
  by_cases h0 : P (sp_W.getD 0 []) = true
  · rw [if_pos h0, if_pos h0]; rfl
  rw [if_neg h0, if_neg h0]
  by_cases h1 : P (sp_W.getD 1 []) = true
  · rw [if_pos h1, if_pos h1]; rfl
  rw [if_neg h1, if_neg h1]
  by_cases h2 : P (sp_W.getD 2 []) = true
  · rw [if_pos h2, if_pos h2]; rfl
  rw [if_neg h2, if_neg h2]
  by_cases h3 : P (sp_W.getD 3 []) = true
  · rw [if_pos h3, if_pos h3]; rfl
  rw [if_neg h3, if_neg h3]
  by_cases h4 : P (sp_W.getD 4 []) = true
  · rw [if_pos h4, if_pos h4]; rfl
  rw [if_neg h4, if_neg h4]
  by_cases h5 : P (sp_W.getD 5 []) = true
  · rw [if_pos h5, if_pos h5]; rfl
  rw [if_neg h5, if_neg h5]
  by_cases h6 : P (sp_W.getD 6 []) = true
  · rw [if_pos h6, if_pos h6]; rfl
  rw [if_neg h6, if_neg h6]
  rfl
theorem sp_P_at {P : List Int → Bool} {j : Nat} (hj : j ≤ 7) (h : ∀ i, i < j → P (sp_W.getD i []) = false) (h1 : j < 7 → P (sp_W.getD j []) = true) : sp_P P = j := by
  have n : ∀ i, i < j → ¬ P (sp_W.getD i []) = true := fun i hi hc => by rw [h i hi] at hc; cases hc
  unfold sp_P
  match j, hj, h1, n with
  | 0, _, h1, n => rw [if_pos (h1 (by decide))]
  | 1, _, h1, n => rw [if_neg (n 0 (by decide)), if_pos (h1 (by decide))]
  | 2, _, h1, n => rw [if_neg (n 0 (by decide)), if_neg (n 1 (by decide)), if_pos (h1 (by decide))]
  | 3, _, h1, n => rw [if_neg (n 0 (by decide)), if_neg (n 1 (by decide)), if_neg (n 2 (by decide)), if_pos (h1 (by decide))]
  | 4, _, h1, n => rw [if_neg (n 0 (by decide)), if_neg (n 1 (by decide)), if_neg (n 2 (by decide)), if_neg (n 3 (by decide)), if_pos (h1 (by decide))]
  | 5, _, h1, n => rw [if_neg (n 0 (by decide)), if_neg (n 1 (by decide)), if_neg (n 2 (by decide)), if_neg (n 3 (by decide)), if_neg (n 4 (by decide)), if_pos (h1 (by decide))]
  | 6, _, h1, n => rw [if_neg (n 0 (by decide)), if_neg (n 1 (by decide)), if_neg (n 2 (by decide)), if_neg (n 3 (by decide)), if_neg (n 4 (by decide)), if_neg (n 5 (by decide)), if_pos (h1 (by decide))]
  | 7, _, h1, n => rw [if_neg (n 0 (by decide)), if_neg (n 1 (by decide)), if_neg (n 2 (by decide)), if_neg (n 3 (by decide)), if_neg (n 4 (by decide)), if_neg (n 5 (by decide)), if_neg (n 6 (by decide))]
  | j + 8, hj, _, _ => exact absurd hj (by omega)
theorem sp_P_le {P : List Int → Bool} : sp_P P ≤ 7 := by
  unfold sp_P
  repeat' split
  all_goals omega
theorem jw : ∀ i, i < 7 → (sp_W.getD i []).length = ai_JL.getD i 0 ∧ ∀ k, k < ai_JL.getD i 0 → (sp_W.getD i [])[k]? = some (ai_jb i k).toInt := by decide
theorem jw3 : ∀ i, i < 7 → 3 ≤ ai_JL.getD i 0 := by decide
set_option maxHeartbeats 1000000 in
theorem jd_is2 (l : Launch) {d : Nat} {D : va_G} {tys : ai_ty} {A : Nat → Prop} {aK aV : Nat → Nat} {H : Heap} {i : Nat} (hi : i < 7) (hd : 4 ≤ d) {ws : va_W} {a q27 t0 : Nat} {fs : List Value} {zt zf : Int32} {cA : ClassId} {f : Nat → Int32} (hP : va_P D vwCl ws H) (w1 : ws[26]? = some (a, .inr (2, fs))) (f0 : fs[0]? = some (.ref q27)) (f7 : fs[7]? = some (.int zt)) (f9 : fs[9]? = some (.int zf)) (b1 : 0 ≤ zf.toInt) (b2 : zt.toInt ≤ 160) (b3 : 0 ≤ zt.toInt) (b4 : zf.toInt ≤ 160) (w2 : ws[27]? = some (q27, .inl (cA, 160, .inl f))) (ht : tys[t0]? = some (cA, .int)) : Met l yX2_isWord (ai_ws jm_is) (ai_rm d) (va_Pc [.ref a, .ref (aK i)] (jd_P D tys A aK aV H)) (jd_Q H (fun v => (v = some (.int 0) ∧ sp_is (fun n => (f n).toInt) zf.toInt.toNat zt.toInt.toNat (sp_W.getD i []) = false) ∨ (v = some (.int 1) ∧ sp_is (fun n => (f n).toInt) zf.toInt.toNat zt.toInt.toNat (sp_W.getD i []) = true))) 0 0 A := by
  refine jd_met (M := jm_is) l (by decide) (by first | exact Nat.le_refl _ | exact Nat.le_of_ble_eq_true rfl) ?_
  intro p e s m below meth c ls C hH hr hlk hl
  have hS : va_S A s.heap s.heap [] := va_S.rf
  have hr : meth.sig.returnType = (some .boolean) := hr
  subst hH
  obtain ⟨hb1, -⟩ := jd_b i hi
  obtain ⟨jw1, jw2⟩ := jw i hi
  have hl : lv_has ls 3 [(0, .ref a), (1, .ref (aK i))] := hl
  generalize hN : ai_JL.getD i 0 = N at hb1 jw1 jw2
  have hNI : (Int32.ofNat N).toInt = (N : Int) := nI_toInt (by omega)
  have loop : Int32.ofNat N = zt - zf → ∀ (n k : Nat), k + n = N → (∀ j, j < k → (f (zf.toInt.toNat + j)).toInt = (ai_jb i j).toInt) → ∀ (ls : Array Slot) (locs : List Loc), lv_has ls 3 [(2, .int (Int32.ofNat k)), (0, .ref a), (1, .ref (aK i))] → va_S A s.heap s.heap locs → W p l e (ai_rm d) s m ([Value.ref a, Value.ref (aK i)] : List Value).toArray below meth c s.heap locs 0 0 (MQ below (jd_Q s.heap (fun v => (v = some (.int 0) ∧ sp_is (fun n => (f n).toInt) zf.toInt.toNat zt.toInt.toNat (sp_W.getD i []) = false) ∨ (v = some (.int 1) ∧ sp_is (fun n => (f n).toInt) zf.toInt.toNat zt.toInt.toNat (sp_W.getD i []) = true))) ([Value.ref a, Value.ref (aK i)] : List Value).toArray s 0 0 A) (F0 m 20 ls []) := by
    intro heq n
    have hsub : (zt - zf).toInt = zt.toInt - zf.toInt := ai_subI (by omega) (by omega)
    have hNz : (N : Int) = zt.toInt - zf.toInt := by rw [← hsub, ← heq, hNI]
    induction n with
    | zero =>
      intro k hk hpre ls locs hl hS
      refine lv_iload_n C.x C.b (by decide +kernel : decode cX2_isWord 20 = .ok (.iload_n 2, 1)) rfl (lv_at hl 0 rfl) ?_
      refine lv_aload_n C.x C.b (by decide +kernel : decode cX2_isWord 21 = .ok (.aload_n 1, 1)) rfl (lv_at hl 2 rfl) ?_
      refine jd_V (M' := jm_len) (As := []) (rest := [.int (Int32.ofNat k)]) C hS (by omega) (by decide) (Nat.le_of_ble_eq_true rfl) jg_len (by decide +kernel) (vk_recv C.J.1 hi hS) (jd_len l hi (by omega)) rfl hl.1 rfl (by decide +kernel : decode cX2_isWord 22 = .ok (.invokevirtual 141, 3)) (fun v locs1 hv hS1 => ?_)

      subst hv
      refine lv_icmp_ge C.x C.b (by decide +kernel : decode cX2_isWord 25 = .ok (.if_icmp .ge 30, 3)) (tgt := 55) (by decide) (fun _ => ?_) (fun h => absurd (by rw [hN, show k = N by omega]; exact Int32.le_refl _) h)
      refine lv_iconst C.x C.b (by decide +kernel : decode cX2_isWord 55 = .ok (.iconst 1, 1)) (v := 1) rfl ?_
      exact W.zret C.x C.b hr rfl (fun t ht hW => ⟨_, rfl, Or.inr ⟨rfl, sp_is_iff.mpr ⟨by rw [jw1]; omega, fun j hj => by rw [jw2 j (by omega), ← hpre j (by omega)]⟩⟩, ht⟩) hS1.2.2 (by decide +kernel : decode cX2_isWord 56 = .ok (.ireturn, 1)) hlk
    | succ n ih =>
      intro k hk hpre ls locs hl hS
      have hkN : k < ai_JL.getD i 0 := by rw [hN]; omega
      obtain ⟨i1, i2, i3, i4⟩ := jd_in (k := k) (N := N) (by omega) hb1
      refine lv_iload_n C.x C.b (by decide +kernel : decode cX2_isWord 20 = .ok (.iload_n 2, 1)) rfl (lv_at hl 0 rfl) ?_
      refine lv_aload_n C.x C.b (by decide +kernel : decode cX2_isWord 21 = .ok (.aload_n 1, 1)) rfl (lv_at hl 2 rfl) ?_
      refine jd_V (M' := jm_len) (As := []) (rest := [.int (Int32.ofNat k)]) C hS (by omega) (by decide) (Nat.le_of_ble_eq_true rfl) jg_len (by decide +kernel) (vk_recv C.J.1 hi hS) (jd_len l hi (by omega)) rfl hl.1 rfl (by decide +kernel : decode cX2_isWord 22 = .ok (.invokevirtual 141, 3)) (fun v locs1 hv hS1 => ?_)

      subst hv
      refine lv_icmp_ge C.x C.b (by decide +kernel : decode cX2_isWord 25 = .ok (.if_icmp .ge 30, 3)) (tgt := 55) (by decide) (fun h => absurd i2 (Int32.not_lt.mpr (by rw [← hN]; exact h))) (fun _ => ?_)
      refine lv_aload_n C.x C.b (by decide +kernel : decode cX2_isWord 28 = .ok (.aload_n 0, 1)) rfl (lv_at hl 1 rfl) ?_
      refine jd_get C jf_11 hP w1 f0 (by decide +kernel : decode cX2_isWord 29 = .ok (.getfield 11, 3)) ?_
      refine lv_aload_n C.x C.b (by decide +kernel : decode cX2_isWord 32 = .ok (.aload_n 0, 1)) rfl (lv_at hl 1 rfl) ?_
      refine jd_get C jf_68 hP w1 f9 (by decide +kernel : decode cX2_isWord 33 = .ok (.getfield 68, 3)) ?_
      refine lv_iload_n C.x C.b (by decide +kernel : decode cX2_isWord 36 = .ok (.iload_n 2, 1)) rfl (lv_at hl 0 rfl) ?_
      refine lv_iadd C.x C.b (by decide +kernel : decode cX2_isWord 37 = .ok (.iadd, 1)) ?_
      have hkI : (Int32.ofNat k).toInt = (k : Int) := nI_toInt (by omega)
      have hix : (zf + Int32.ofNat k).toInt = zf.toInt + k := by rw [ai_addI (by omega) (by omega), hkI]
      have hcl : (zf + Int32.ofNat k).toNatClampNeg = zf.toInt.toNat + k := by
        show (zf + Int32.ofNat k).toInt.toNat = _
        omega
      refine va_iald C.x C.b C.K hP 27 t0 w2 ht (vp_in_iff.mpr ⟨by omega, by omega⟩) (by decide +kernel : decode cX2_isWord 38 = .ok (.iaload, 1)) ?_
      refine lv_aload_n C.x C.b (by decide +kernel : decode cX2_isWord 39 = .ok (.aload_n 1, 1)) rfl (lv_at hl 2 rfl) ?_
      refine lv_iload_n C.x C.b (by decide +kernel : decode cX2_isWord 40 = .ok (.iload_n 2, 1)) rfl (lv_at hl 0 rfl) ?_
      refine jd_V (M' := jm_ca) (n := 1) (As := [.int (Int32.ofNat k)]) C hS1 (by omega) (by decide) (Nat.le_of_ble_eq_true rfl) jg_ca (by decide +kernel) (vk_recv C.J.1 hi hS1) (jd_ca l hi hkN (by omega)) rfl hl.1 rfl (by decide +kernel : decode cX2_isWord 41 = .ok (.invokevirtual 145, 3)) (fun v locs2 hv hS2 => ?_)
      subst hv
      refine lv_icmp_eq C.x C.b (by decide +kernel : decode cX2_isWord 44 = .ok (.if_icmp .eq 5, 3)) (tgt := 49) (by decide) (fun heq2 => ?_) (fun hne2 => ?_)
      · refine lv_iinc C.x C.b (by decide +kernel : decode cX2_isWord 49 = .ok (.iinc 2 1, 3)) hl (k := 0) rfl (v := Int32.ofNat (k + 1)) (nI_succ k).symm (by decide) (lv' := [(2, .int (Int32.ofNat (k + 1))), (0, .ref a), (1, .ref (aK i))]) rfl (fun ls3 hl3 => ?_)
        refine lv_goto C.x C.b (by decide +kernel : decode cX2_isWord 52 = .ok (.goto (-32), 3)) (tgt := 20) (by decide) ?_
        refine ih (k + 1) (by omega) (fun j hj => ?_) ls3 locs2 hl3 hS2
        by_cases hjk : j < k
        · exact hpre j hjk
        · have ejk : j = k := by omega
          subst ejk
          rw [← heq2, hcl]
      · refine lv_iconst C.x C.b (by decide +kernel : decode cX2_isWord 47 = .ok (.iconst 0, 1)) (v := 0) rfl ?_
        exact W.zret C.x C.b hr rfl (fun t ht hW => ⟨_, rfl, Or.inl ⟨rfl, by
          rw [Bool.eq_false_iff]
          intro hc
          have h3 := (sp_is_iff.mp hc).2 k (by omega)
          rw [jw2 k (by omega)] at h3
          have h3 := Option.some.inj h3
          exact hne2 (Int32.toInt_inj.mp (by rw [hcl]; exact h3.symm))⟩, ht⟩) hS2.2.2 (by decide +kernel : decode cX2_isWord 48 = .ok (.ireturn, 1)) hlk
  refine lv_aload_n C.x C.b (by decide +kernel : decode cX2_isWord 0 = .ok (.aload_n 1, 1)) rfl (lv_at hl 1 rfl) ?_
  refine jd_V (M' := jm_len) (As := []) (rest := []) C hS (by omega) (by decide) (Nat.le_of_ble_eq_true rfl) jg_len (by decide +kernel) (vk_recv C.J.1 hi hS) (jd_len l hi (by omega)) rfl hl.1 rfl (by decide +kernel : decode cX2_isWord 1 = .ok (.invokevirtual 141, 3)) (fun v locs1 hv hS1 => ?_)

  subst hv
  refine lv_aload_n C.x C.b (by decide +kernel : decode cX2_isWord 4 = .ok (.aload_n 0, 1)) rfl (lv_at hl 0 rfl) ?_
  refine jd_get C jf_41 hP w1 f7 (by decide +kernel : decode cX2_isWord 5 = .ok (.getfield 41, 3)) ?_
  refine lv_aload_n C.x C.b (by decide +kernel : decode cX2_isWord 8 = .ok (.aload_n 0, 1)) rfl (lv_at hl 0 rfl) ?_
  refine jd_get C jf_68 hP w1 f9 (by decide +kernel : decode cX2_isWord 9 = .ok (.getfield 68, 3)) ?_
  refine lv_isub C.x C.b (by decide +kernel : decode cX2_isWord 12 = .ok (.isub, 1)) ?_
  refine lv_icmp_eq C.x C.b (by decide +kernel : decode cX2_isWord 13 = .ok (.if_icmp .eq 5, 3)) (tgt := 18) (by decide) (fun heq => ?_) (fun hne => ?_)
  · refine lv_iconst C.x C.b (by decide +kernel : decode cX2_isWord 18 = .ok (.iconst 0, 1)) (v := 0) rfl ?_
    refine lv_istore_n C.x C.b (by decide +kernel : decode cX2_isWord 19 = .ok (.istore_n 2, 1)) (i := 2) rfl hl (by decide) (lv' := [(2, .int 0), (0, .ref a), (1, .ref (aK i))]) rfl (fun ls2 hl2 => ?_)
    exact loop (by rw [← hN]; exact heq) N 0 (by omega) (fun j hj => absurd hj (Nat.not_lt_zero _)) ls2 locs1 hl2 hS1
  · refine lv_iconst C.x C.b (by decide +kernel : decode cX2_isWord 16 = .ok (.iconst 0, 1)) (v := 0) rfl ?_
    exact W.zret C.x C.b hr rfl (fun t ht hW => ⟨_, rfl, Or.inl ⟨rfl, by
      rw [Bool.eq_false_iff]
      intro hc
      have h3 := (sp_is_iff.mp hc).1
      have hsub : (zt - zf).toInt = zt.toInt - zf.toInt := ai_subI (by omega) (by omega)
      have hN3 : 3 ≤ N := by rw [← hN]; exact jw3 i hi
      exact hne (Int32.toInt_inj.mp (by rw [hN, hNI, hsub]; omega))⟩, ht⟩) hS1.2.2 (by decide +kernel : decode cX2_isWord 17 = .ok (.ireturn, 1)) hlk
/-- wordRead, and which word it tells -/
theorem jd_wr2 {d : Nat} {p : Program} {l : Launch} {e : Env} {R : Room} {s : State} {m : MethodId} {args : Array Value} {below : List Frame} {meth : Method} {c : Code} {D : va_G} {tys : ai_ty} {A : Nat → Prop} {aK aV : Nat → Nat} {H : Heap} {locs : List Loc} {cells slots : Nat} {Q : State → Prop} {ls : Array Slot} (C : jd_C tb_m37 d p R s m args c D tys A aK aV cells slots) (h6 : 6 ≤ d) (hS : va_S A s.heap H locs) {ws : va_W} {a q27 t0 : Nat} {fs : List Value} {zt zf : Int32} {cA : ClassId} {f : Nat → Int32} (hP : va_P D vwCl ws H) (w1 : ws[26]? = some (a, .inr (2, fs))) (f0 : fs[0]? = some (.ref q27)) (f7 : fs[7]? = some (.int zt)) (f9 : fs[9]? = some (.int zf)) (b1 : 0 ≤ zf.toInt) (b2 : zt.toInt ≤ 160) (b3 : 0 ≤ zt.toInt) (b4 : zf.toInt ≤ 160) (w2 : ws[27]? = some (q27, .inl (cA, 160, .inl f))) (ht : tys[t0]? = some (cA, .int))
    (hl : lv_has ls 2 [(0, .ref a)]) (k1 : ∀ (j : Nat) (ls : Array Slot) (locs : List Loc), j < 7 → sp_word (fun n => (f n).toInt) zf.toInt.toNat zt.toInt.toNat = j → lv_has ls 2 [] → va_S A s.heap H locs → W p l e R s m args below meth c H locs cells slots Q (F0 m 20 ls [.int (Int32.ofNat j)])) (k2 : ∀ (ls : Array Slot) (locs : List Loc), sp_word (fun n => (f n).toInt) zf.toInt.toNat zt.toInt.toNat = 7 → lv_has ls 2 [] → va_S A s.heap H locs → W p l e R s m args below meth c H locs cells slots Q (F0 m 29 ls [.int 7])) : W p l e R s m args below meth c H locs cells slots Q (F0 m 0 ls []) := by
  have loop : ∀ (n j : Nat), j + n = 7 → (∀ i, i < j → sp_is (fun n => (f n).toInt) zf.toInt.toNat zt.toInt.toNat (sp_W.getD i []) = false) → ∀ (ls : Array Slot) (locs : List Loc), lv_has ls 2 [(1, .int (Int32.ofNat j)), (0, .ref a)] → va_S A s.heap H locs → W p l e R s m args below meth c H locs cells slots Q (F0 m 2 ls []) := by
    intro n
    induction n with
    | zero =>
      intro j hj hpre ls locs hl hS
      have e7 : j = 7 := by omega
      subst e7
      refine lv_iload_n C.x C.b (by decide +kernel : decode cX2_wordRead 2 = .ok (.iload_n 1, 1)) rfl (lv_at hl 0 rfl) ?_
      refine lv_bipush C.x C.b (by decide +kernel : decode cX2_wordRead 3 = .ok (.bipush 7, 2)) (v := 7) rfl ?_
      refine lv_icmp_ge C.x C.b (by decide +kernel : decode cX2_wordRead 5 = .ok (.if_icmp .ge 22, 3)) (tgt := 27) (by decide) (fun _ => ?_) (fun h => absurd (by decide) h)
      refine lv_bipush C.x C.b (by decide +kernel : decode cX2_wordRead 27 = .ok (.bipush 7, 2)) (v := 7) rfl ?_
      exact k2 ls locs (by rw [sp_word_P]; exact sp_P_at (by decide) hpre (fun h => absurd h (by decide))) (lv_sub hl [] rfl) hS
    | succ n ih =>
      intro j hj hpre ls locs hl hS
      have hi : j < 7 := by omega
      have hjI : (Int32.ofNat j).toInt = (j : Int) := nI_toInt (by omega)
      refine lv_iload_n C.x C.b (by decide +kernel : decode cX2_wordRead 2 = .ok (.iload_n 1, 1)) rfl (lv_at hl 0 rfl) ?_
      refine lv_bipush C.x C.b (by decide +kernel : decode cX2_wordRead 3 = .ok (.bipush 7, 2)) (v := 7) rfl ?_
      refine lv_icmp_ge C.x C.b (by decide +kernel : decode cX2_wordRead 5 = .ok (.if_icmp .ge 22, 3)) (tgt := 27) (by decide) (fun h => absurd h (nI_ge hi (by decide))) (fun _ => ?_)
      refine lv_aload_n C.x C.b (by decide +kernel : decode cX2_wordRead 8 = .ok (.aload_n 0, 1)) rfl (lv_at hl 1 rfl) ?_
      refine lv_iload_n C.x C.b (by decide +kernel : decode cX2_wordRead 9 = .ok (.iload_n 1, 1)) rfl (lv_at hl 0 rfl) ?_
      refine jd_S (M' := jm_sp) (n := 1) (As := [.int (Int32.ofNat j)]) (rest := [.ref a]) C hS (by omega) (by decide) (Nat.le_of_ble_eq_true rfl) jg_sp (by decide +kernel) (jd_sp l hi) rfl hl.1 rfl (by decide +kernel : decode cX2_wordRead 10 = .ok (.invokestatic 133, 3)) (fun v locs1 hv hS1 => ?_)
      subst hv
      refine jd_V (M' := jm_is) (n := 1) (As := [.ref (aK j)]) (rest := []) C hS1 (by omega) (by decide) (Nat.le_of_ble_eq_true rfl) jg_is (by decide +kernel) (va_recv C.K hP (q := (RX2, TX2, 11)) rfl w1) (jd_is2 l hi (by omega) hP w1 f0 f7 f9 b1 b2 b3 b4 w2 ht) rfl hl.1 rfl (by decide +kernel : decode cX2_wordRead 13 = .ok (.invokevirtual 137, 3)) (fun v locs2 hv hS2 => ?_)
      rcases hv with ⟨hv, hno⟩ | ⟨hv, hyes⟩
      · subst hv
        refine lv_if_eq C.x C.b (by decide +kernel : decode cX2_wordRead 16 = .ok (.ifCond .eq 5, 3)) (tgt := 21) (by decide) (fun _ => ?_) (fun h => absurd rfl h)
        refine lv_iinc C.x C.b (by decide +kernel : decode cX2_wordRead 21 = .ok (.iinc 1 1, 3)) hl (k := 0) rfl (v := Int32.ofNat (j + 1)) (nI_succ j).symm (by decide) (lv' := [(1, .int (Int32.ofNat (j + 1))), (0, .ref a)]) rfl (fun ls3 hl3 => ?_)
        refine lv_goto C.x C.b (by decide +kernel : decode cX2_wordRead 24 = .ok (.goto (-22), 3)) (tgt := 2) (by decide) ?_
        refine ih (j + 1) (by omega) (fun i hij => ?_) ls3 locs2 hl3 hS2
        by_cases hijj : i < j
        · exact hpre i hijj
        · rw [show i = j by omega]
          exact hno
      · subst hv
        refine lv_if_eq C.x C.b (by decide +kernel : decode cX2_wordRead 16 = .ok (.ifCond .eq 5, 3)) (tgt := 21) (by decide) (fun h => absurd h (by decide)) (fun _ => ?_)
        refine lv_iload_n C.x C.b (by decide +kernel : decode cX2_wordRead 19 = .ok (.iload_n 1, 1)) rfl (lv_at hl 0 rfl) ?_
        exact k1 j ls locs2 hi (by rw [sp_word_P]; exact sp_P_at (by omega) hpre (fun _ => hyes)) (lv_sub hl [] rfl) hS2
  refine lv_iconst C.x C.b (by decide +kernel : decode cX2_wordRead 0 = .ok (.iconst 0, 1)) (v := 0) rfl ?_
  refine lv_istore_n C.x C.b (by decide +kernel : decode cX2_wordRead 1 = .ok (.istore_n 1, 1)) (i := 1) rfl hl (by decide) (lv' := [(1, .int 0), (0, .ref a)]) rfl (fun ls2 hl2 => ?_)
  exact loop 7 0 rfl (fun i hi => absurd hi (Nat.not_lt_zero _)) ls2 locs hl2 hS
