/-! a call by hand that answers yes or no; plansMissingTest -/
def hb_Q (P : va_W → Int32 → Prop) (D : va_G) (A : Nat → Prop) : Array Value → State → Outcome → State → Prop := fun _ st oc t => (∃ (ws : va_W) (z : Int32), P ws z ∧ va_P D vwCl ws t.heap ∧ va_D A ws ∧ oc = .returned (some (.int z))) ∧ va_F A st t
section HCB
variable {ad : List Nat} {M : ai_m} {d : Nat} {p : Program} {l : Launch} {e : Env} {R : Room} {s : State} {m : MethodId} {args : Array Value} {below : List Frame} {meth : Method} {c : Code} {D : va_G} {tys : ai_ty} {A : Nat → Prop} {b L : Nat} {sx : Nat → Int32} {cells slots : Nat} {Q : State → Prop}
theorem hcallB {q : ai_l5} {M' : ai_m} {pc cl : Nat} {t : ai_c} {rets : List Nat} {P : va_W → Int32 → Prop} {ws : va_W} {x : Value} {lv : List (Nat × Value)}
    (C : ai_cx M d p R s m args c D tys A b L sx cells slots) (hd1 : 1 ≤ d) (hdec : decode M.2.1 pc = .ok (.invokevirtual q.1, 3)) (hlok : ai_lok tb_MT M.1.cls q) (hq0 : q.2.1 = 0) (hq1 : q.2.2.2.1 = 0) (hM' : tb_MT[q.2.2.1]? = some M') (hsc : M'.2.2.2.2.1 = false) (hml : M'.2.2.1 ≤ 17) (hm1 : 1 ≤ M'.2.2.1) (hv : M'.2.2.2.1 = some .boolean)
    (ht : tb_TY[cl]? = some t) (t0 : t.1 = 0) (t1 : t.2.1 = q.2.2.2.2) (hw : ai_wd tb_TY ad tys ws) (hx : ai_dv ad b [0] (0, cl, 0, 0) x)
    (hr : ∀ pcr ∈ rets, decode M'.2.1 pcr = .ok (.ireturn, 1)) (h01 : ∀ ws z, P ws z → z = 0 ∨ z = 1)
    (callee : ∀ {p : Program} {e : Env} {R : Room} {s : State} {m : MethodId} {args : Array Value} {below : List Frame} {meth : Method} {c : Code} {Q : State → Prop}, ai_cx M' (d - 1) p R s m args c D tys A b L sx 0 0 → (∀ (pcr : Nat) (ws' : va_W) (z : Int32) (lv' : List (Nat × Value)), pcr ∈ rets → P ws' z → hG M' p l e R s m args below meth c D A 0 0 Q pcr lv' [.int z] ws') → ∀ lv0, ai_lo ad b [0] [(0, (0, cl, 0, 0))] lv0 → hG M' p l e R s m args below meth c D A 0 0 Q 0 lv0 [] ws)
    (k : ∀ ws' z, P ws' z → hG M p l e R s m args below meth c D A cells slots Q (pc + 3) lv [.int z] ws') : hG M p l e R s m args below meth c D A cells slots Q pc lv [x] ws := by
  intro H locs ls hP hD hS hl
  obtain ⟨a, e1, w1, w2, w3⟩ := hw.get ht
  have hxa : x = .ref a := by
    rcases hx with ⟨-, q', q1, q2⟩ | ⟨q', -⟩ | ⟨q', -⟩ | ⟨q', -⟩ | ⟨q', -⟩
    · rw [q2, Option.some.inj (q1.symm.trans w2)]
    · exact absurd (id q' : (0 : Nat) = 1) (by decide)
    · exact absurd (id q' : (0 : Nat) = 2) (by decide)
    · exact absurd (id q' : (0 : Nat) = 3) (by decide)
    · exact absurd (id q' : (0 : Nat) = 4) (by decide)
  subst hxa
  unfold ai_lok at hlok
  rw [hq0] at hlok
  obtain ⟨M2, rr, m1, m2, m3, m4⟩ := hlok
  rw [hM'] at m1
  cases m1
  obtain ⟨hok, hpl⟩ := (tv_MT M' (List.mem_of_getElem? hM')).1
  have hA : ∀ q, H.size ≤ q → A q := fun q hq => C.2.2.2.2.2.2.2.1 q (Nat.le_trans hS.1 hq)
  have met : Met l M'.1 (ai_ws M') (ai_rm (d - 1)) (va_Pc [.ref a] (fun U => U.heap = H ∧ va_K D vwCl tys U ∧ ai_nj A U)) (hb_Q P D A) 0 0 A := by
    refine Met.ofW (cc := M'.2.1) (maxL := M'.2.2.1) (ret := M'.2.2.2.1) hpl rfl ?_
    intro p e s m args below meth c s₁ B hmL hv'
    obtain ⟨rfl, hH, hK, hN⟩ := hv'
    have hts := atoms_spec (ws := ai_ws M') B.pre
    have hown : s.vm.findClass M'.1.cls = some m.cls := findClass_of_methodNamed B.named
    have C' : ai_cx M' (d - 1) p (headSpec (ai_ws M') (ai_rm (d - 1))).room s m ([Value.ref a] : List Value).toArray c D tys A b L sx 0 0 :=
      ⟨B.exec, B.bytes, hmL, hown, fun w h => hts w (List.mem_cons_of_mem _ h), hN, hK, fun q hq => hA q (by rw [← hH]; exact hq), ⟨Nat.le_refl _, Nat.le_refl _, Nat.zero_le _, Nat.zero_le _⟩, fun h => by rw [hsc] at h; cases h⟩
    have hl' := lv_entry [Value.ref a] (n := M'.2.2.1) (by exact hm1)
    rw [lg_entry_eq]
    have hh : s.heap = H := hH
    refine callee C' (fun pcr ws' z lv' hpr hPw => ?_) (lv_args 0 [.ref a]) ⟨rfl, Or.inl ⟨rfl, a, w2, rfl⟩, trivial⟩ s.heap [] _ (by rw [hh]; exact hP) hD va_S.rf hl'
    intro H2 locs2 ls2 hP2 hD2 hS2 hl2
    exact W.zret C'.1 C'.2.1 (B.returns.trans hv) (by rcases h01 ws' z hPw with rfl | rfl <;> rfl) (fun t ht hW => ⟨⟨ws', z, hPw, by rw [ht]; exact hP2, hD2, rfl⟩, hS2.F ht⟩) hS2.2.2 (hr pcr hpr) B.notSynchronized
  rcases w3 with ⟨-, fs, rfl, -⟩ | ⟨q1, -⟩ | ⟨q1, -⟩ | ⟨q1, -⟩
  · rw [t1] at w1
    refine ai_callW (va_runV (C := rr.1) (As := []) (rest := []) (Ts := ai_GT) (own := M.1.cls) ⟨C.1, C.2.1, C.2.2.1, C.2.2.2.1, C.2.2.2.2.1⟩ met (cwV q.2.2.2.1 C.2.2.2.2.1 m3 rfl rfl rfl m4 (ai_roomOK C hd1 hml)) ⟨ai_PcB, va_recv C.2.2.2.2.2.2.1 hP m2 w1, ai_PcW C hS⟩ rfl (by rw [hq1]; rfl) hl.1 rfl (lv_room (Nat.zero_le _)) hdec ⟨C.2.2.2.2.2.2.2.2.1.2.2.1, C.2.2.2.2.2.2.2.2.1.2.2.2⟩) (fun v0 st₀ t LL h0 hL hQ => ?_)
    obtain ⟨⟨ws', z, p1, p2, p3, p4⟩, hF⟩ := hQ
    injection p4 with p4
    subst p4
    exact k ws' z p1 t.heap (locs ++ LL) ls p2 p3 (ai_SF hS h0 hF hL) hl
  · omega
  · omega
  · omega
end HCB
def pm_lo (i : Nat) : List (Nat × ai_v) := [(0, (0, 26, 0, 0)), (1, (1, 0, 0, (i : Int)))]
def pm_st (i : Nat) : ai_s := (2, pm_lo i, [], [(0, 0, false, 0, 0), (0, 2555, false, 1, 0), (0, 8, false, 2, 0), (0, 4, false, 3, 0), (0, 4, false, 4, 0)], [(28, 3, (1, 2, 0, 0)), (28, 0, (1, 3, 0, 0)), (33, i, (1, 4, 0, 0))], [])
def pm_e (x : ai_s) (v : Nat) (h : ai_e → Bool) : Bool := (x.2.2.2.1[v]?).any h
def pm_ok (i : Nat) (x : ai_s) : Bool :=
  (Nat.beq x.1 54 && (decide (x.2.2.1 = [(1, 0, 0, 0)]) && pm_e x 2 fun e => decide (e.2.1 ≤ (i : Int)))) ||
  ((pm_e x 2 fun e => decide ((i : Int) + 1 ≤ e.1)) &&
   ((Nat.beq x.1 46 && (decide (x.2.2.1 = [(1, 0, 0, 1)]) && ((pm_e x 4 fun e => decide (e.2.1 ≤ 3)) && (av_f x 5 4 3 none 0 || av_f x 4 3 4 none 1)))) ||
    (Nat.beq x.1 50 && (x.2.2.1.isEmpty && (decide (ai_get x.2.1 0 = some (0, 26, 0, 0)) && (decide (ai_get x.2.1 1 = some (1, 0, 0, (i : Int) + 1)) && ((pm_e x 4 fun e => decide (4 ≤ e.1)) || (av_f x 4 4 3 none 0 || av_f x 5 3 4 none 1))))))))
noncomputable def pm_r (i : Nat) : Bool := (ai_ex (hk []) 100 30 tb_m30 6 [50] (pm_st i)).any fun xs => xs.all (pm_ok i)
theorem pm_r0 : ((List.range 8).all pm_r) = true := by decide +kernel
def pm_8 : ai_s := (2, pm_lo 8, [], [(0, 0, false, 0, 0), (0, 2555, false, 1, 0), (0, 8, false, 2, 0)], [(28, 3, (1, 2, 0, 0))], [])
theorem pm_r8 : ((ai_ex (hk []) 100 30 tb_m30 6 [50] pm_8).any fun xs => xs.all fun x => Nat.beq x.1 54 && decide (x.2.2.1 = [(1, 0, 0, 0)])) = true := by decide +kernel
def pm_0 : ai_s := (0, tn_lo, [], [(0, 0, false, 0, 0), (0, 2555, false, 1, 0)], [], [])
theorem pm_r00 : ((ai_ex (hk []) 20 30 tb_m30 6 [2] pm_0).any fun xs => xs.all fun x => Nat.beq x.1 2 && (x.2.2.1.isEmpty && (decide (ai_get x.2.1 0 = some (0, 26, 0, 0)) && decide (ai_get x.2.1 1 = some (1, 0, 0, 0))))) = true := by decide +kernel
