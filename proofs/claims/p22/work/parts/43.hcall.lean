/-! a call by hand: a method of an object, no arguments, nothing returned -/
def hc_Q (P : va_W → Prop) (D : va_G) (A : Nat → Prop) : Array Value → State → Outcome → State → Prop := fun _ st oc t => (∃ ws : va_W, P ws ∧ va_P D vwCl ws t.heap ∧ va_D A ws ∧ oc = .returned none) ∧ va_F A st t
section HCL
variable {ad : List Nat} {M : ai_m} {d : Nat} {p : Program} {l : Launch} {e : Env} {R : Room} {s : State} {m : MethodId} {args : Array Value} {below : List Frame} {meth : Method} {c : Code} {D : va_G} {tys : ai_ty} {A : Nat → Prop} {b L : Nat} {sx : Nat → Int32} {cells slots : Nat} {Q : State → Prop}
theorem hcall {q : ai_l5} {M' : ai_m} {pc cl : Nat} {t : ai_c} {rets : List Nat} {P : va_W → Prop} {ws : va_W} {x : Value} {lv : List (Nat × Value)}
    (C : ai_cx M d p R s m args c D tys A b L sx cells slots) (hd1 : 1 ≤ d) (hdec : decode M.2.1 pc = .ok (.invokevirtual q.1, 3)) (hlok : ai_lok tb_MT M.1.cls q) (hq0 : q.2.1 = 0) (hq1 : q.2.2.2.1 = 0) (hM' : tb_MT[q.2.2.1]? = some M') (hsc : M'.2.2.2.2.1 = false) (hml : M'.2.2.1 ≤ 17) (hm1 : 1 ≤ M'.2.2.1) (hv : M'.2.2.2.1 = none)
    (ht : tb_TY[cl]? = some t) (t0 : t.1 = 0) (t1 : t.2.1 = q.2.2.2.2) (hw : ai_wd tb_TY ad tys ws) (hx : ai_dv ad b [0] (0, cl, 0, 0) x)
    (hr : ∀ pcr ∈ rets, decode M'.2.1 pcr = .ok (.return_, 1))
    (callee : ∀ {p : Program} {e : Env} {R : Room} {s : State} {m : MethodId} {args : Array Value} {below : List Frame} {meth : Method} {c : Code} {Q : State → Prop}, ai_cx M' (d - 1) p R s m args c D tys A b L sx 0 0 → (∀ (pcr : Nat) (ws' : va_W) (lv' : List (Nat × Value)), pcr ∈ rets → P ws' → hG M' p l e R s m args below meth c D A 0 0 Q pcr lv' [] ws') → ∀ lv0, ai_lo ad b [0] [(0, (0, cl, 0, 0))] lv0 → hG M' p l e R s m args below meth c D A 0 0 Q 0 lv0 [] ws)
    (k : ∀ ws', P ws' → hG M p l e R s m args below meth c D A cells slots Q (pc + 3) lv [] ws') : hG M p l e R s m args below meth c D A cells slots Q pc lv [x] ws := by
  intro H locs ls hP hD hS hl
  obtain ⟨a, e1, w1, w2, w3⟩ := hw.get ht
  have hxa : x = .ref a := by
    rcases hx with ⟨-, q', q1, q2⟩ | ⟨q', -⟩ | ⟨q', -⟩ | ⟨q', -⟩ | ⟨q', -⟩
    · rw [q2, Option.some.inj (q1.symm.trans w2)]
    · exact absurd (id q' : (0 : Nat) = 1) (by decide)
    · exact absurd (id q' : (0 : Nat) = 2) (by decide)
    · exact absurd (id q' : (0 : Nat) = 3) (by decide)
    · exact absurd (id q' : (0 : Nat) = 4) (by decide)
  subst hxa
  unfold ai_lok at hlok
  rw [hq0] at hlok
  obtain ⟨M2, rr, m1, m2, m3, m4⟩ := hlok
  rw [hM'] at m1
  cases m1
  obtain ⟨hok, hpl⟩ := (tv_MT M' (List.mem_of_getElem? hM')).1
  have hA : ∀ q, H.size ≤ q → A q := fun q hq => C.2.2.2.2.2.2.2.1 q (Nat.le_trans hS.1 hq)
  have met : Met l M'.1 (ai_ws M') (ai_rm (d - 1)) (va_Pc [.ref a] (fun U => U.heap = H ∧ va_K D vwCl tys U ∧ ai_nj A U)) (hc_Q P D A) 0 0 A := by
    refine Met.ofW (cc := M'.2.1) (maxL := M'.2.2.1) (ret := M'.2.2.2.1) hpl rfl ?_
    intro p e s m args below meth c s₁ B hmL hv'
    obtain ⟨rfl, hH, hK, hN⟩ := hv'
    have hts := atoms_spec (ws := ai_ws M') B.pre
    have hown : s.vm.findClass M'.1.cls = some m.cls := findClass_of_methodNamed B.named
    have C' : ai_cx M' (d - 1) p (headSpec (ai_ws M') (ai_rm (d - 1))).room s m ([Value.ref a] : List Value).toArray c D tys A b L sx 0 0 :=
      ⟨B.exec, B.bytes, hmL, hown, fun w h => hts w (List.mem_cons_of_mem _ h), hN, hK, fun q hq => hA q (by rw [← hH]; exact hq), ⟨Nat.le_refl _, Nat.le_refl _, Nat.zero_le _, Nat.zero_le _⟩, fun h => by rw [hsc] at h; cases h⟩
    have hl' := lv_entry [Value.ref a] (n := M'.2.2.1) (by exact hm1)
    rw [lg_entry_eq]
    have hh : s.heap = H := hH
    refine callee C' (fun pcr ws' lv' hpr hPw => ?_) (lv_args 0 [.ref a]) ⟨rfl, Or.inl ⟨rfl, a, w2, rfl⟩, trivial⟩ s.heap [] _ (by rw [hh]; exact hP) hD va_S.rf hl'
    intro H2 locs2 ls2 hP2 hD2 hS2 hl2
    exact W.vret C'.1 C'.2.1 (B.returns.trans hv) (fun t ht hW => ⟨⟨ws', hPw, by rw [ht]; exact hP2, hD2, rfl⟩, hS2.F ht⟩) hS2.2.2 (hr pcr hpr) B.notSynchronized
  rcases w3 with ⟨-, fs, rfl, -⟩ | ⟨q1, -⟩ | ⟨q1, -⟩ | ⟨q1, -⟩
  · rw [t1] at w1
    refine ai_callW (va_runV (C := rr.1) (As := []) (rest := []) (Ts := ai_GT) (own := M.1.cls) ⟨C.1, C.2.1, C.2.2.1, C.2.2.2.1, C.2.2.2.2.1⟩ met (cwV q.2.2.2.1 C.2.2.2.2.1 m3 rfl rfl rfl m4 (ai_roomOK C hd1 hml)) ⟨ai_PcB, va_recv C.2.2.2.2.2.2.1 hP m2 w1, ai_PcW C hS⟩ rfl (by rw [hq1]; rfl) hl.1 rfl (lv_room (Nat.zero_le _)) hdec ⟨C.2.2.2.2.2.2.2.2.1.2.2.1, C.2.2.2.2.2.2.2.2.1.2.2.2⟩) (fun v0 st₀ t LL h0 hL hQ => ?_)
    obtain ⟨⟨ws', p1, p2, p3, p4⟩, hF⟩ := hQ
    injection p4 with p4
    subst p4
    exact k ws' p1 t.heap (locs ++ LL) ls p2 p3 (ai_SF hS h0 hF hL) hl
  · omega
  · omega
  · omega
end HCL
/-! the walk that knows advance, wordRead, step, nameHere -/
def su_T (WR : List (Nat × Nat × Nat)) (mid : Nat) (st : ai_s) : Option (List ai_s) := if Nat.beq mid 34 = true then su_av WR st else if Nat.beq mid 37 = true then su_wr WR st else if Nat.beq mid 104 = true then su_st WR st else if Nat.beq mid 103 = true then su_nh st WR else none
def hkT (WR : List (Nat × Nat × Nat)) : ai_K := (tb_TY, WR, tb_MT, [], su_T WR, [])
theorem hkT_su {WR : List (Nat × Nat × Nat)} : ai_SU (hkT WR) := by
  intro mid d cu st xs M h0 hM0 w0 ad p l e R s m args below meth c D tys A b L sx cells slots Q r0 C k
  have h : (if (Nat.beq st.1 0 && Nat.ble (ai_gd mid) d) = true then su_T WR mid st else none) = some xs := h0
  have hM : tb_MT[mid]? = some M := hM0
  clear h0 hM0
  split at h
  · rename_i hc
    rw [Bool.and_eq_true, ai_beq] at hc
    have hd : ai_gd mid ≤ d := Nat.le_of_ble_eq_true hc.2
    unfold su_T at h
    split at h
    · rename_i h34
      cases ai_beq.mp h34
      cases Option.some.inj (hM.symm.trans (rfl : tb_MT[34]? = some tb_m34))
      exact su_av_ok h hc.1 hd C k
    · split at h
      · rename_i h37
        cases ai_beq.mp h37
        cases Option.some.inj (hM.symm.trans (rfl : tb_MT[37]? = some tb_m37))
        exact su_wr_ok h hc.1 hd C k
      · split at h
        · rename_i h104
          cases ai_beq.mp h104
          cases Option.some.inj (hM.symm.trans (rfl : tb_MT[104]? = some tb_m104))
          exact su_st_ok h hc.1 hd C k
        · split at h
          · rename_i h103
            cases ai_beq.mp h103
            cases Option.some.inj (hM.symm.trans (rfl : tb_MT[103]? = some tb_m103))
            exact su_nh_ok h hc.1 hd C k
          · cases h
  · cases h
section HNT
variable {ad : List Nat} {M : ai_m} {d : Nat} {p : Program} {l : Launch} {e : Env} {R : Room} {s : State} {m : MethodId} {args : Array Value} {below : List Frame} {meth : Method} {c : Code} {D : va_G} {tys : ai_ty} {A : Nat → Prop} {b L : Nat} {sx : Nat → Int32} {cells slots : Nat} {Q : State → Prop}
theorem hsegT {WR : List (Nat × Nat × Nat)} {n mid : Nat} {cu : List Nat} {st : ai_s} {xs : List ai_s} (h : ai_ex (hkT WR) n mid M d cu st = some xs) (hM : tb_MT[mid]? = some M) (C : ai_cx M d p R s m args c D tys A b L sx cells slots) {r : List Int} {lv : List (Nat × Value)} {sk : List Value} {ws : va_W} (g : ai_gm tb_TY WR ws ad b L sx tys M.2.2.2.2.1 r st lv sk ws)
    (k : ∀ x ∈ xs, ∀ (r' : List Int) (lv' : List (Nat × Value)) (sk' : List Value) (ws' : va_W), ai_x r r' → ai_gm tb_TY WR ws ad b L sx tys M.2.2.2.2.1 r' x lv' sk' ws' → hG M p l e R s m args below meth c D A cells slots Q x.1 lv' sk' ws') : hG M p l e R s m args below meth c D A cells slots Q st.1 lv sk ws :=
  fun H locs ls hP hD hS hl => (ai_ex_ok (K := hkT WR) hkT_su tv_MT n) mid d cu st xs M h hM C (fun x hx r' lv' sk' ws' H' locs' ls' hx' g' hP' hD' hS' hl' => k x hx r' lv' sk' ws' hx' g' H' locs' ls' hP' hD' hS' hl') r lv sk ws H locs ls ai_x.rf g hP hD hS hl
end HNT
