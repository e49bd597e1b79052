/-! the machine's own String.length and charAt; spelling, isWord, wordRead: by hand -/
def jm (y : MethodName) (c : ByteArray) (n : Nat) (r : Option FieldType) : ai_m := (y, c, n, r, false, [], [], [], [], [], [], [])
def jd_C (M : ai_m) (d : Nat) (p : Program) (R : Room) (s : State) (m : MethodId) (args : Array Value) (c : Code) (D : va_G) (tys : ai_ty) (A : Nat → Prop) (aK aV : Nat → Nat) (cells slots : Nat) : Prop := (p.tables.exec = Jvm.exec) ∧ (c.code = M.2.1) ∧ (c.maxLocals = M.2.2.1) ∧ (s.vm.findClass M.1.cls = some m.cls) ∧ (∀ w ∈ ai_GT, w.before args s = true) ∧ (va_K D vwCl tys s) ∧ (ai_jt aK aV A s) ∧ (d ≤ R.frames) ∧ (36 * d ≤ R.locals) ∧ (cells ≤ R.cells) ∧ (slots ≤ R.slots)
theorem jd_C.x {M : ai_m} {d : Nat} {p : Program} {R : Room} {s : State} {m : MethodId} {args : Array Value} {c : Code} {D : va_G} {tys : ai_ty} {A : Nat → Prop} {aK aV : Nat → Nat} {cells slots : Nat} (C : jd_C M d p R s m args c D tys A aK aV cells slots) : p.tables.exec = Jvm.exec := C.1
theorem jd_C.b {M : ai_m} {d : Nat} {p : Program} {R : Room} {s : State} {m : MethodId} {args : Array Value} {c : Code} {D : va_G} {tys : ai_ty} {A : Nat → Prop} {aK aV : Nat → Nat} {cells slots : Nat} (C : jd_C M d p R s m args c D tys A aK aV cells slots) : c.code = M.2.1 := C.2.1
theorem jd_C.ml {M : ai_m} {d : Nat} {p : Program} {R : Room} {s : State} {m : MethodId} {args : Array Value} {c : Code} {D : va_G} {tys : ai_ty} {A : Nat → Prop} {aK aV : Nat → Nat} {cells slots : Nat} (C : jd_C M d p R s m args c D tys A aK aV cells slots) : c.maxLocals = M.2.2.1 := C.2.2.1
theorem jd_C.own {M : ai_m} {d : Nat} {p : Program} {R : Room} {s : State} {m : MethodId} {args : Array Value} {c : Code} {D : va_G} {tys : ai_ty} {A : Nat → Prop} {aK aV : Nat → Nat} {cells slots : Nat} (C : jd_C M d p R s m args c D tys A aK aV cells slots) : s.vm.findClass M.1.cls = some m.cls := C.2.2.2.1
theorem jd_C.ts {M : ai_m} {d : Nat} {p : Program} {R : Room} {s : State} {m : MethodId} {args : Array Value} {c : Code} {D : va_G} {tys : ai_ty} {A : Nat → Prop} {aK aV : Nat → Nat} {cells slots : Nat} (C : jd_C M d p R s m args c D tys A aK aV cells slots) : ∀ w ∈ ai_GT, w.before args s = true := C.2.2.2.2.1
theorem jd_C.K {M : ai_m} {d : Nat} {p : Program} {R : Room} {s : State} {m : MethodId} {args : Array Value} {c : Code} {D : va_G} {tys : ai_ty} {A : Nat → Prop} {aK aV : Nat → Nat} {cells slots : Nat} (C : jd_C M d p R s m args c D tys A aK aV cells slots) : va_K D vwCl tys s := C.2.2.2.2.2.1
theorem jd_C.J {M : ai_m} {d : Nat} {p : Program} {R : Room} {s : State} {m : MethodId} {args : Array Value} {c : Code} {D : va_G} {tys : ai_ty} {A : Nat → Prop} {aK aV : Nat → Nat} {cells slots : Nat} (C : jd_C M d p R s m args c D tys A aK aV cells slots) : ai_jt aK aV A s := C.2.2.2.2.2.2.1
theorem jd_C.fr {M : ai_m} {d : Nat} {p : Program} {R : Room} {s : State} {m : MethodId} {args : Array Value} {c : Code} {D : va_G} {tys : ai_ty} {A : Nat → Prop} {aK aV : Nat → Nat} {cells slots : Nat} (C : jd_C M d p R s m args c D tys A aK aV cells slots) : d ≤ R.frames := C.2.2.2.2.2.2.2.1
theorem jd_C.lc {M : ai_m} {d : Nat} {p : Program} {R : Room} {s : State} {m : MethodId} {args : Array Value} {c : Code} {D : va_G} {tys : ai_ty} {A : Nat → Prop} {aK aV : Nat → Nat} {cells slots : Nat} (C : jd_C M d p R s m args c D tys A aK aV cells slots) : 36 * d ≤ R.locals := C.2.2.2.2.2.2.2.2.1
theorem jd_C.ce {M : ai_m} {d : Nat} {p : Program} {R : Room} {s : State} {m : MethodId} {args : Array Value} {c : Code} {D : va_G} {tys : ai_ty} {A : Nat → Prop} {aK aV : Nat → Nat} {cells slots : Nat} (C : jd_C M d p R s m args c D tys A aK aV cells slots) : cells ≤ R.cells := C.2.2.2.2.2.2.2.2.2.1
theorem jd_C.sl {M : ai_m} {d : Nat} {p : Program} {R : Room} {s : State} {m : MethodId} {args : Array Value} {c : Code} {D : va_G} {tys : ai_ty} {A : Nat → Prop} {aK aV : Nat → Nat} {cells slots : Nat} (C : jd_C M d p R s m args c D tys A aK aV cells slots) : slots ≤ R.slots := C.2.2.2.2.2.2.2.2.2.2
def jd_P (D : va_G) (tys : ai_ty) (A : Nat → Prop) (aK aV : Nat → Nat) (H : Heap) : State → Prop := fun U => U.heap = H ∧ va_K D vwCl tys U ∧ ai_jt aK aV A U
def jd_Q (H : Heap) (S : Option Value → Prop) : Array Value → State → Outcome → State → Prop := fun _ _ oc t => ∃ v, oc = .returned v ∧ S v ∧ t.heap = H
theorem jd_met {M : ai_m} {d : Nat} {D : va_G} {tys : ai_ty} {A : Nat → Prop} {aK aV : Nat → Nat} {H : Heap} {vals : List Value} {S : Option Value → Prop} (l : Launch) (hpl : plainName M.1.cls = true) (hw : (lg_sl vals).length ≤ M.2.2.1)
    (walk : ∀ {p : Program} {e : Env} {s : State} {m : MethodId} {below : List Frame} {meth : Method} {c : Code} {ls : Array Slot}, jd_C M d p (ai_rm d) s m vals.toArray c D tys A aK aV 0 0 → s.heap = H → meth.sig.returnType = M.2.2.2.1 → meth.locks = false → lv_has ls M.2.2.1 (lv_args 0 vals) → W p l e (ai_rm d) s m vals.toArray below meth c s.heap [] 0 0 (MQ below (jd_Q H S) vals.toArray s 0 0 A) (F0 m 0 ls [])) :
    Met l M.1 (ai_ws M) (ai_rm d) (va_Pc vals (jd_P D tys A aK aV H)) (jd_Q H S) 0 0 A := by
  refine Met.ofW (cc := M.2.1) (maxL := M.2.2.1) (ret := M.2.2.2.1) hpl rfl ?_
  intro p e s m args below meth c s₁ B hml hv
  obtain ⟨rfl, hH, hK, hJ⟩ := hv
  have hts := atoms_spec (ws := ai_ws M) B.pre
  have hown := findClass_of_methodNamed B.named
  have hl := lv_entry vals (n := M.2.2.1) hw
  rw [lg_entry_eq]
  exact walk ⟨B.exec, B.bytes, hml, hown, fun w h => hts w (List.mem_cons_of_mem _ h), hK, hJ, Nat.le_refl _, Nat.le_refl _, Nat.zero_le _, Nat.zero_le _⟩ hH B.returns B.notSynchronized hl
section JDK
variable {M : ai_m} {d : Nat} {p : Program} {l : Launch} {e : Env} {R : Room} {s : State} {m : MethodId} {args : Array Value} {below : List Frame} {meth : Method} {c : Code} {D : va_G} {tys : ai_ty} {A : Nat → Prop} {aK aV : Nat → Nat} {H : Heap} {locs : List Loc} {cells slots : Nat} {Q : State → Prop} {pc : Nat} {ls : Array Slot} {rest : List Value} {S : Option Value → Prop}
theorem jd_PB {vals : List Value} : FrameBlind (va_Pc vals (jd_P D tys A aK aV H)) := fun a U g mk q => by
  obtain ⟨q0, q1, qK, qJ⟩ := q
  exact ⟨q0, q1, va_K.moved (u := U) (U := U.calling g mk a) (Vm.Alike.refl U.vm) qK, ai_jt.same (s := U) (U := U.calling g mk a) rfl rfl qJ⟩
theorem jd_PW (C : jd_C M d p R s m args c D tys A aK aV cells slots) {vals : List Value} (hS : va_S A s.heap H locs) : ∀ U : State, U.heap = H → s.WarmedH U.vm → va_Pc vals (jd_P D tys A aK aV H) vals.toArray U := fun U hU hW =>
  ⟨rfl, hU, va_K.moved hW.alike C.K, C.J.moved hW (by rw [hU]; exact hS)⟩
theorem jd_rm (C : jd_C M d p R s m args c D tys A aK aV cells slots) (h1 : 1 ≤ d) {M' : ai_m} (h2 : M'.2.2.1 ≤ 17) : (ai_rm (d - 1)).frames + 1 ≤ R.frames ∧ 8 + (M'.2.2.1 + 11) + (ai_rm (d - 1)).locals ≤ R.locals := by
  have a := C.fr
  have b := C.lc
  show d - 1 + 1 ≤ _ ∧ 8 + (M'.2.2.1 + 11) + 36 * (d - 1) ≤ _
  omega
/-- a call that changes nothing -/
theorem jd_V {M' : ai_m} {cls : String} {index a : Nat} {As : List Value} {n : Nat} (C : jd_C M d p R s m args c D tys A aK aV cells slots) (hS : va_S A s.heap H locs) (h1 : 1 ≤ d) (h2 : M'.2.2.1 ≤ 17) (h3 : (rest.map fun v => v.category).sum ≤ 8) (good : GoodIn ai_GT (wsV M.1.cls index cls M'.1 (ai_ws M'))) (hy : M'.1.cls = cls ∧ M'.1.cls ≠ "java/lang/invoke/MethodHandle" ∧ M'.1.cls ≠ "java/lang/invoke/VarHandle" ∧ (parseMethodDescriptor M'.1.desc).map (fun d => d.parameters.length) = some n)
    (recv : ∃ cell : Cell, H[a]? = some cell ∧ cell.vm.isStatics = false ∧ s.vm.findClass cls = some cell.cls) (met : Met l M'.1 (ai_ws M') (ai_rm (d - 1)) (va_Pc (.ref a :: As) (jd_P D tys A aK aV H)) (jd_Q H S) 0 0 A) (hlen : As.length = n) (hl : ls.size = M.2.2.1) {stk : List Value} (hstk : stk = As.reverse ++ .ref a :: rest) (hd : decode M.2.1 pc = .ok (.invokevirtual index, 3))
    (kk : ∀ (v : Option Value) (locs' : List Loc), S v → va_S A s.heap H locs' → W p l e R s m args below meth c H locs' cells slots Q (F0 m (pc + 3) ls (v.toList ++ rest))) : W p l e R s m args below meth c H locs cells slots Q (F0 m pc ls stk) := by
  subst hstk
  refine ai_callW (Qa := jd_Q H S (Value.ref a :: As).toArray) (free := A) (va_runV (C := cls) (As := As) (rest := rest) (Ts := ai_GT) (own := M.1.cls) ⟨C.x, C.b, C.ml, C.own, C.ts⟩ met (cwV n C.ts good rfl rfl rfl hy (jd_rm C h1 h2)) ⟨jd_PB, recv, jd_PW C hS⟩ rfl hlen hl rfl (lv_room h3) hd ⟨C.ce, C.sl⟩) ?_
  intro v st₀ t L h0 hL hq
  obtain ⟨v', e1, e2, e3⟩ := hq
  cases e1
  rw [e3]
  exact kk v (locs ++ L) e2 ⟨hS.1, hS.2.1, fun q hq => by
    rcases List.mem_append.mp hq with h | h
    · exact hS.2.2 q h
    · exact hL q h⟩
theorem jd_S {M' : ai_m} {index : Nat} {As : List Value} {n : Nat} (C : jd_C M d p R s m args c D tys A aK aV cells slots) (hS : va_S A s.heap H locs) (h1 : 1 ≤ d) (h2 : M'.2.2.1 ≤ 17) (h3 : (rest.map fun v => v.category).sum ≤ 8) (good : GoodIn ai_GT (va_wsS M.1.cls index M'.1 (ai_ws M'))) (hy : M'.1.cls ≠ "java/lang/invoke/MethodHandle" ∧ M'.1.cls ≠ "java/lang/invoke/VarHandle" ∧ (parseMethodDescriptor M'.1.desc).map (fun d => d.parameters.length) = some n)
    (met : Met l M'.1 (ai_ws M') (ai_rm (d - 1)) (va_Pc As (jd_P D tys A aK aV H)) (jd_Q H S) 0 0 A) (hlen : As.length = n) (hl : ls.size = M.2.2.1) {stk : List Value} (hstk : stk = As.reverse ++ rest) (hd : decode M.2.1 pc = .ok (.invokestatic index, 3))
    (kk : ∀ (v : Option Value) (locs' : List Loc), S v → va_S A s.heap H locs' → W p l e R s m args below meth c H locs' cells slots Q (F0 m (pc + 3) ls (v.toList ++ rest))) : W p l e R s m args below meth c H locs cells slots Q (F0 m pc ls stk) := by
  subst hstk
  refine ai_callW (Qa := jd_Q H S As.toArray) (free := A) (va_runS (As := As) (rest := rest) (Ts := ai_GT) (own := M.1.cls) ⟨C.x, C.b, C.ml, C.own, C.ts⟩ met (va_cwS n C.ts good rfl rfl rfl hy (jd_rm C h1 h2)) ⟨jd_PB, jd_PW C hS⟩ rfl hlen hl rfl (lv_room h3) hd ⟨C.ce, C.sl⟩) ?_
  intro v st₀ t L h0 hL hq
  obtain ⟨v', e1, e2, e3⟩ := hq
  cases e1
  rw [e3]
  exact kk v (locs ++ L) e2 ⟨hS.1, hS.2.1, fun q hq => by
    rcases List.mem_append.mp hq with h | h
    · exact hS.2.2 q h
    · exact hL q h⟩
theorem jd_gV {own cls : String} {index : Nat} {M' : ai_m} (hc : Cond.code M'.1 M'.2.1 M'.2.2.1 M'.2.2.2.1 ∈ ai_GT) (h1 : Cond.methodLink own index M'.1 ∈ ai_GT) (h2 : Cond.instanceMethod M'.1 ∈ ai_GT) (h3 : Cond.selects cls M'.1 M'.1 ∈ ai_GT) (h4 : Cond.initialized cls ∈ ai_GT) : GoodIn ai_GT (wsV own index cls M'.1 (ai_ws M')) := tv_good fun w hw => by
  unfold wsV at hw
  rcases List.mem_append.mp hw with hw | hw
  · simp only [List.mem_cons, List.not_mem_nil, or_false] at hw
    rcases hw with rfl | rfl | rfl | rfl
    · exact h1
    · exact h2
    · exact h3
    · exact h4
  · rcases List.mem_cons.mp hw with rfl | hw
    · exact hc
    · exact hw
theorem jd_gS {own : String} {index : Nat} {M' : ai_m} (hc : Cond.code M'.1 M'.2.1 M'.2.2.1 M'.2.2.2.1 ∈ ai_GT) (h1 : Cond.methodLink own index M'.1 ∈ ai_GT) (h2 : Cond.static M'.1 ∈ ai_GT) (h4 : Cond.initialized M'.1.cls ∈ ai_GT) : GoodIn ai_GT (va_wsS own index M'.1 (ai_ws M')) := tv_good fun w hw => by
  unfold va_wsS at hw
  rcases List.mem_append.mp hw with hw | hw
  · simp only [List.mem_cons, List.not_mem_nil, or_false] at hw
    rcases hw with rfl | rfl | rfl
    · exact h1
    · exact h2
    · exact h4
  · rcases List.mem_cons.mp hw with rfl | hw
    · exact hc
    · exact hw
end JDK
def jm_coder : ai_m := jm yJ0_coder_7d493 cJ0_coder_7d493 1 (some .byte)
set_option maxRecDepth 100000 in
theorem jc_coder : Cond.code yJ0_coder_7d493 cJ0_coder_7d493 1 (some .byte) ∈ ai_GT := List.mem_filter.mpr ⟨List.mem_of_getElem? (i := 342) rfl, rfl⟩
def jm_len : ai_m := jm yJ0_length_8abf5 cJ0_length_8abf5 1 (some .int)
set_option maxRecDepth 100000 in
theorem jc_len : Cond.code yJ0_length_8abf5 cJ0_length_8abf5 1 (some .int) ∈ ai_GT := List.mem_filter.mpr ⟨List.mem_of_getElem? (i := 338) rfl, rfl⟩
def jm_lat : ai_m := jm yJ0_isLatin1_aae02 cJ0_isLatin1_aae02 1 (some .boolean)
set_option maxRecDepth 100000 in
theorem jc_lat : Cond.code yJ0_isLatin1_aae02 cJ0_isLatin1_aae02 1 (some .boolean) ∈ ai_GT := List.mem_filter.mpr ⟨List.mem_of_getElem? (i := 352) rfl, rfl⟩
def jm_pre : ai_m := jm yJ3_checkIndex_8e157 cJ3_checkIndex_8e157 3 (some .int)
set_option maxRecDepth 100000 in
theorem jc_pre : Cond.code yJ3_checkIndex_8e157 cJ3_checkIndex_8e157 3 (some .int) ∈ ai_GT := List.mem_filter.mpr ⟨List.mem_of_getElem? (i := 363) rfl, rfl⟩
def jm_chk : ai_m := jm yJ0_checkIndex_df160 cJ0_checkIndex_df160 2 none
set_option maxRecDepth 100000 in
theorem jc_chk : Cond.code yJ0_checkIndex_df160 cJ0_checkIndex_df160 2 none ∈ ai_GT := List.mem_filter.mpr ⟨List.mem_of_getElem? (i := 358) rfl, rfl⟩
def jm_cl : ai_m := jm yJ1_charAt_3b067 cJ1_charAt_3b067 2 (some .char)
set_option maxRecDepth 100000 in
theorem jc_cl : Cond.code yJ1_charAt_3b067 cJ1_charAt_3b067 2 (some .char) ∈ ai_GT := List.mem_filter.mpr ⟨List.mem_of_getElem? (i := 355) rfl, rfl⟩
def jm_ca : ai_m := jm yJ0_charAt_5068e cJ0_charAt_5068e 2 (some .char)
set_option maxRecDepth 100000 in
theorem jc_ca : Cond.code yJ0_charAt_5068e cJ0_charAt_5068e 2 (some .char) ∈ ai_GT := List.mem_filter.mpr ⟨List.mem_of_getElem? (i := 348) rfl, rfl⟩
def jm_sp : ai_m := jm yX2_spelling cX2_spelling 1 (some (.object "java/lang/String"))
set_option maxRecDepth 100000 in
theorem jc_sp : Cond.code yX2_spelling cX2_spelling 1 (some (.object "java/lang/String")) ∈ ai_GT := List.mem_filter.mpr ⟨List.mem_of_getElem? (i := 323) rfl, rfl⟩
def jm_is : ai_m := jm yX2_isWord cX2_isWord 3 (some .boolean)
set_option maxRecDepth 100000 in
theorem jc_is : Cond.code yX2_isWord cX2_isWord 3 (some .boolean) ∈ ai_GT := List.mem_filter.mpr ⟨List.mem_of_getElem? (i := 334) rfl, rfl⟩
theorem jg_coder : GoodIn ai_GT (wsV RJ0 335 RJ0 yJ0_coder_7d493 (ai_ws jm_coder)) := jd_gV (M' := jm_coder) jc_coder (tw_mem (i := 339) (by decide +kernel) : (.methodLink RJ0 335 yJ0_coder_7d493 : Cond) ∈ ai_GT) (tw_mem (i := 340) (by decide +kernel) : (.instanceMethod yJ0_coder_7d493 : Cond) ∈ ai_GT) (tw_mem (i := 341) (by decide +kernel) : (.selects RJ0 yJ0_coder_7d493 yJ0_coder_7d493 : Cond) ∈ ai_GT) (tw_mem (i := 59) (by decide +kernel) : (.initialized RJ0 : Cond) ∈ ai_GT)
theorem jg_lat : GoodIn ai_GT (wsV RJ0 492 RJ0 yJ0_isLatin1_aae02 (ai_ws jm_lat)) := jd_gV (M' := jm_lat) jc_lat (tw_mem (i := 349) (by decide +kernel) : (.methodLink RJ0 492 yJ0_isLatin1_aae02 : Cond) ∈ ai_GT) (tw_mem (i := 350) (by decide +kernel) : (.instanceMethod yJ0_isLatin1_aae02 : Cond) ∈ ai_GT) (tw_mem (i := 351) (by decide +kernel) : (.selects RJ0 yJ0_isLatin1_aae02 yJ0_isLatin1_aae02 : Cond) ∈ ai_GT) (tw_mem (i := 59) (by decide +kernel) : (.initialized RJ0 : Cond) ∈ ai_GT)
theorem jg_pre : GoodIn ai_GT (va_wsS RJ0 1059 yJ3_checkIndex_8e157 (ai_ws jm_pre)) := jd_gS (M' := jm_pre) jc_pre (tw_mem (i := 361) (by decide +kernel) : (.methodLink RJ0 1059 yJ3_checkIndex_8e157 : Cond) ∈ ai_GT) (tw_mem (i := 362) (by decide +kernel) : (.static yJ3_checkIndex_8e157 : Cond) ∈ ai_GT) (tw_mem (i := 61) (by decide +kernel) : (.initialized RJ3 : Cond) ∈ ai_GT)
theorem jg_chk : GoodIn ai_GT (va_wsS RJ1 9 yJ0_checkIndex_df160 (ai_ws jm_chk)) := jd_gS (M' := jm_chk) jc_chk (tw_mem (i := 356) (by decide +kernel) : (.methodLink RJ1 9 yJ0_checkIndex_df160 : Cond) ∈ ai_GT) (tw_mem (i := 357) (by decide +kernel) : (.static yJ0_checkIndex_df160 : Cond) ∈ ai_GT) (tw_mem (i := 59) (by decide +kernel) : (.initialized RJ0 : Cond) ∈ ai_GT)
theorem jg_cl : GoodIn ai_GT (va_wsS RJ0 495 yJ1_charAt_3b067 (ai_ws jm_cl)) := jd_gS (M' := jm_cl) jc_cl (tw_mem (i := 353) (by decide +kernel) : (.methodLink RJ0 495 yJ1_charAt_3b067 : Cond) ∈ ai_GT) (tw_mem (i := 354) (by decide +kernel) : (.static yJ1_charAt_3b067 : Cond) ∈ ai_GT) (tw_mem (i := 60) (by decide +kernel) : (.initialized RJ1 : Cond) ∈ ai_GT)
theorem jg_len : GoodIn ai_GT (wsV RX2 141 RJ0 yJ0_length_8abf5 (ai_ws jm_len)) := jd_gV (M' := jm_len) jc_len (tw_mem (i := 335) (by decide +kernel) : (.methodLink RX2 141 yJ0_length_8abf5 : Cond) ∈ ai_GT) (tw_mem (i := 336) (by decide +kernel) : (.instanceMethod yJ0_length_8abf5 : Cond) ∈ ai_GT) (tw_mem (i := 337) (by decide +kernel) : (.selects RJ0 yJ0_length_8abf5 yJ0_length_8abf5 : Cond) ∈ ai_GT) (tw_mem (i := 59) (by decide +kernel) : (.initialized RJ0 : Cond) ∈ ai_GT)
theorem jg_ca : GoodIn ai_GT (wsV RX2 145 RJ0 yJ0_charAt_5068e (ai_ws jm_ca)) := jd_gV (M' := jm_ca) jc_ca (tw_mem (i := 345) (by decide +kernel) : (.methodLink RX2 145 yJ0_charAt_5068e : Cond) ∈ ai_GT) (tw_mem (i := 346) (by decide +kernel) : (.instanceMethod yJ0_charAt_5068e : Cond) ∈ ai_GT) (tw_mem (i := 347) (by decide +kernel) : (.selects RJ0 yJ0_charAt_5068e yJ0_charAt_5068e : Cond) ∈ ai_GT) (tw_mem (i := 59) (by decide +kernel) : (.initialized RJ0 : Cond) ∈ ai_GT)
theorem jg_sp : GoodIn ai_GT (va_wsS RX2 133 yX2_spelling (ai_ws jm_sp)) := jd_gS (M' := jm_sp) jc_sp (tw_mem (i := 321) (by decide +kernel) : (.methodLink RX2 133 yX2_spelling : Cond) ∈ ai_GT) (tw_mem (i := 322) (by decide +kernel) : (.static yX2_spelling : Cond) ∈ ai_GT) (tw_mem (i := 54) (by decide +kernel) : (.initialized RX2 : Cond) ∈ ai_GT)
theorem jg_is : GoodIn ai_GT (wsV RX2 137 RX2 yX2_isWord (ai_ws jm_is)) := jd_gV (M' := jm_is) jc_is (tw_mem (i := 331) (by decide +kernel) : (.methodLink RX2 137 yX2_isWord : Cond) ∈ ai_GT) (tw_mem (i := 333) (by decide +kernel) : (.instanceMethod yX2_isWord : Cond) ∈ ai_GT) (tw_mem (i := 5) (by decide +kernel) : (.selects RX2 yX2_isWord yX2_isWord : Cond) ∈ ai_GT) (tw_mem (i := 54) (by decide +kernel) : (.initialized RX2 : Cond) ∈ ai_GT)
theorem jd_coder (l : Launch) {d : Nat} {D : va_G} {tys : ai_ty} {A : Nat → Prop} {aK aV : Nat → Nat} {H : Heap} {i : Nat} (hi : i < 7) : Met l yJ0_coder_7d493 (ai_ws jm_coder) (ai_rm d) (va_Pc [.ref (aK i)] (jd_P D tys A aK aV H)) (jd_Q H (fun v => v = some (.int 0))) 0 0 A := by
  refine jd_met (M := jm_coder) l (by decide) (by first | exact Nat.le_refl _ | exact Nat.le_of_ble_eq_true rfl) ?_
  intro p e s m below meth c ls C hH hr hlk hl
  have hS : va_S A s.heap s.heap [] := va_S.rf
  have hr : meth.sig.returnType = (some .byte) := hr
  have hl : lv_has ls 1 [(0, .ref (aK i))] := hl
  refine va_gets C.x C.b C.J.2.2.1 hS C.own (C.ts _ (tw_mem (i := 343) (by decide +kernel) : (.fieldLink RJ0 38 "java/lang/String" "COMPACT_STRINGS" "Z" : Cond) ∈ ai_GT)) (fun _ h => h) (by decide +kernel : decode cJ0_coder_7d493 0 = .ok (.getstatic 38, 3)) ?_
  refine lv_if_eq C.x C.b (by decide +kernel : decode cJ0_coder_7d493 3 = .ok (.ifCond .eq 10, 3)) (tgt := 13) (by decide) (fun h => absurd h (by decide)) (fun _ => ?_)
  refine lv_aload_n C.x C.b (by decide +kernel : decode cJ0_coder_7d493 6 = .ok (.aload_n 0, 1)) rfl (lv_at hl 0 rfl) ?_
  refine vk_getf C.x C.b (C.J.1.1 i hi).2.1 hS C.own (C.ts _ (tw_mem (i := 1133) (by decide +kernel) : (.fieldLink RJ0 15 "java/lang/String" "coder" "B" : Cond) ∈ ai_GT)) (fun _ h => h) (by decide +kernel : decode cJ0_coder_7d493 7 = .ok (.getfield 15, 3)) ?_
  refine lv_goto C.x C.b (by decide +kernel : decode cJ0_coder_7d493 10 = .ok (.goto 4, 3)) (tgt := 14) (by decide) ?_
  exact W.zret C.x C.b hr rfl (fun t ht hW => ⟨_, rfl, rfl, by rw [ht]; exact hH⟩) hS.2.2 (by decide +kernel : decode cJ0_coder_7d493 14 = .ok (.ireturn, 1)) hlk
theorem jd_lat (l : Launch) {d : Nat} {D : va_G} {tys : ai_ty} {A : Nat → Prop} {aK aV : Nat → Nat} {H : Heap} {i : Nat} (hi : i < 7) : Met l yJ0_isLatin1_aae02 (ai_ws jm_lat) (ai_rm d) (va_Pc [.ref (aK i)] (jd_P D tys A aK aV H)) (jd_Q H (fun v => v = some (.int 1))) 0 0 A := by
  refine jd_met (M := jm_lat) l (by decide) (by first | exact Nat.le_refl _ | exact Nat.le_of_ble_eq_true rfl) ?_
  intro p e s m below meth c ls C hH hr hlk hl
  have hS : va_S A s.heap s.heap [] := va_S.rf
  have hr : meth.sig.returnType = (some .boolean) := hr
  have hl : lv_has ls 1 [(0, .ref (aK i))] := hl
  refine va_gets C.x C.b C.J.2.2.1 hS C.own (C.ts _ (tw_mem (i := 343) (by decide +kernel) : (.fieldLink RJ0 38 "java/lang/String" "COMPACT_STRINGS" "Z" : Cond) ∈ ai_GT)) (fun _ h => h) (by decide +kernel : decode cJ0_isLatin1_aae02 0 = .ok (.getstatic 38, 3)) ?_
  refine lv_if_eq C.x C.b (by decide +kernel : decode cJ0_isLatin1_aae02 3 = .ok (.ifCond .eq 14, 3)) (tgt := 17) (by decide) (fun h => absurd h (by decide)) (fun _ => ?_)
  refine lv_aload_n C.x C.b (by decide +kernel : decode cJ0_isLatin1_aae02 6 = .ok (.aload_n 0, 1)) rfl (lv_at hl 0 rfl) ?_
  refine vk_getf C.x C.b (C.J.1.1 i hi).2.1 hS C.own (C.ts _ (tw_mem (i := 1133) (by decide +kernel) : (.fieldLink RJ0 15 "java/lang/String" "coder" "B" : Cond) ∈ ai_GT)) (fun _ h => h) (by decide +kernel : decode cJ0_isLatin1_aae02 7 = .ok (.getfield 15, 3)) ?_
  refine lv_if_ne C.x C.b (by decide +kernel : decode cJ0_isLatin1_aae02 10 = .ok (.ifCond .ne 7, 3)) (tgt := 17) (by decide) (fun h => absurd rfl h) (fun _ => ?_)
  refine lv_iconst C.x C.b (by decide +kernel : decode cJ0_isLatin1_aae02 13 = .ok (.iconst 1, 1)) (v := 1) rfl ?_
  refine lv_goto C.x C.b (by decide +kernel : decode cJ0_isLatin1_aae02 14 = .ok (.goto 4, 3)) (tgt := 18) (by decide) ?_
  exact W.zret C.x C.b hr rfl (fun t ht hW => ⟨_, rfl, rfl, by rw [ht]; exact hH⟩) hS.2.2 (by decide +kernel : decode cJ0_isLatin1_aae02 18 = .ok (.ireturn, 1)) hlk
theorem jd_len (l : Launch) {d : Nat} {D : va_G} {tys : ai_ty} {A : Nat → Prop} {aK aV : Nat → Nat} {H : Heap} {i : Nat} (hi : i < 7) (hd : 1 ≤ d) : Met l yJ0_length_8abf5 (ai_ws jm_len) (ai_rm d) (va_Pc [.ref (aK i)] (jd_P D tys A aK aV H)) (jd_Q H (fun v => v = some (.int (Int32.ofNat (ai_JL.getD i 0))))) 0 0 A := by
  refine jd_met (M := jm_len) l (by decide) (by first | exact Nat.le_refl _ | exact Nat.le_of_ble_eq_true rfl) ?_
  intro p e s m below meth c ls C hH hr hlk hl
  have hS : va_S A s.heap s.heap [] := va_S.rf
  have hr : meth.sig.returnType = (some .int) := hr
  have hl : lv_has ls 1 [(0, .ref (aK i))] := hl
  refine lv_aload_n C.x C.b (by decide +kernel : decode cJ0_length_8abf5 0 = .ok (.aload_n 0, 1)) rfl (lv_at hl 0 rfl) ?_
  refine vk_getf C.x C.b (C.J.1.1 i hi).2.2.1 hS C.own (C.ts _ (tw_mem (i := 1132) (by decide +kernel) : (.fieldLink RJ0 9 "java/lang/String" "value" "[B" : Cond) ∈ ai_GT)) (fun _ h => h) (by decide +kernel : decode cJ0_length_8abf5 1 = .ok (.getfield 9, 3)) ?_
  refine va_tlen C.x C.b (C.J.1.1 i hi).2.2.2 hS rfl (by decide +kernel : decode cJ0_length_8abf5 4 = .ok (.arraylength, 1)) ?_
  refine lv_aload_n C.x C.b (by decide +kernel : decode cJ0_length_8abf5 5 = .ok (.aload_n 0, 1)) rfl (lv_at hl 0 rfl) ?_
  refine jd_V (M' := jm_coder) (As := []) C hS hd (by decide) (Nat.le_of_ble_eq_true rfl) jg_coder (by decide +kernel) (vk_recv C.J.1 hi hS) (jd_coder l hi) rfl hl.1 rfl (by decide +kernel : decode cJ0_length_8abf5 6 = .ok (.invokevirtual 335, 3)) (fun v locs' hv hS' => ?_)
  subst hv
  refine lv_ishr C.x C.b (by decide +kernel : decode cJ0_length_8abf5 9 = .ok (.ishr, 1)) ?_
  exact W.iret C.x C.b hr (fun t ht hW => ⟨_, rfl, by rw [(by decide : ∀ i, i < 7 → (Int32.ofNat (ai_JL.getD i 0)) >>> ((0 : Int32) &&& 31) = Int32.ofNat (ai_JL.getD i 0)) i hi], by rw [ht]; exact hH⟩) hS'.2.2 (by decide +kernel : decode cJ0_length_8abf5 10 = .ok (.ireturn, 1)) hlk
theorem jd_pre (l : Launch) {d : Nat} {D : va_G} {tys : ai_ty} {A : Nat → Prop} {aK aV : Nat → Nat} {H : Heap} {k n : Int32} {f : Value} (hf : (lg_sl [.int k, .int n, f]).length ≤ 3) (h1 : ¬ k < 0) (h2 : k < n) : Met l yJ3_checkIndex_8e157 (ai_ws jm_pre) (ai_rm d) (va_Pc [.int k, .int n, f] (jd_P D tys A aK aV H)) (jd_Q H (fun v => v = some (.int k))) 0 0 A := by
  refine jd_met (M := jm_pre) l (by decide) hf ?_
  intro p e s m below meth c ls C hH hr hlk hl
  have hS : va_S A s.heap s.heap [] := va_S.rf
  have hr : meth.sig.returnType = some .int := hr
  refine lv_iload_n C.x C.b (by decide +kernel : decode cJ3_checkIndex_8e157 0 = .ok (.iload_n 0, 1)) rfl (lv_at hl 0 rfl) ?_
  refine lv_if_lt C.x C.b (by decide +kernel : decode cJ3_checkIndex_8e157 1 = .ok (.ifCond .lt 8, 3)) (tgt := 9) (by decide) (fun h => absurd h h1) (fun _ => ?_)
  refine lv_iload_n C.x C.b (by decide +kernel : decode cJ3_checkIndex_8e157 4 = .ok (.iload_n 0, 1)) rfl (lv_at hl 0 rfl) ?_
  refine lv_iload_n C.x C.b (by decide +kernel : decode cJ3_checkIndex_8e157 5 = .ok (.iload_n 1, 1)) rfl (lv_at hl 1 rfl) ?_
  refine lv_icmp_lt C.x C.b (by decide +kernel : decode cJ3_checkIndex_8e157 6 = .ok (.if_icmp .lt 10, 3)) (tgt := 16) (by decide) (fun _ => ?_) (fun h => absurd h2 h)
  refine lv_iload_n C.x C.b (by decide +kernel : decode cJ3_checkIndex_8e157 16 = .ok (.iload_n 0, 1)) rfl (lv_at hl 0 rfl) ?_
  exact W.iret C.x C.b hr (fun t ht hW => ⟨_, rfl, rfl, by rw [ht]; exact hH⟩) hS.2.2 (by decide +kernel : decode cJ3_checkIndex_8e157 17 = .ok (.ireturn, 1)) hlk
theorem jd_chk (l : Launch) {d : Nat} {D : va_G} {tys : ai_ty} {A : Nat → Prop} {aK aV : Nat → Nat} {H : Heap} {k n : Int32} (h1 : ¬ k < 0) (h2 : k < n) (hd : 1 ≤ d) : Met l yJ0_checkIndex_df160 (ai_ws jm_chk) (ai_rm d) (va_Pc [.int k, .int n] (jd_P D tys A aK aV H)) (jd_Q H (fun v => v = none)) 0 0 A := by
  refine jd_met (M := jm_chk) l (by decide) (by first | exact Nat.le_refl _ | exact Nat.le_of_ble_eq_true rfl) ?_
  intro p e s m below meth c ls C hH hr hlk hl
  have hS : va_S A s.heap s.heap [] := va_S.rf
  have hr : meth.sig.returnType = none := hr
  have hl : lv_has ls 2 [(0, .int k), (1, .int n)] := hl
  rcases C.J.2.2.2 with hz | ⟨q, hz⟩
  · refine lv_iload_n C.x C.b (by decide +kernel : decode cJ0_checkIndex_df160 0 = .ok (.iload_n 0, 1)) rfl (lv_at hl 0 rfl) ?_
    refine lv_iload_n C.x C.b (by decide +kernel : decode cJ0_checkIndex_df160 1 = .ok (.iload_n 1, 1)) rfl (lv_at hl 1 rfl) ?_
    refine va_gets C.x C.b hz hS C.own (C.ts _ (tw_mem (i := 359) (by decide +kernel) : (.fieldLink RJ0 1053 "jdk/internal/util/Preconditions" "SIOOBE_FORMATTER" "Ljava/util/function/BiFunction;" : Cond) ∈ ai_GT)) (fun _ h => h) (by decide +kernel : decode cJ0_checkIndex_df160 2 = .ok (.getstatic 1053, 3)) ?_
    refine jd_S (M' := jm_pre) (n := 3) (As := [.int k, .int n, .null]) (rest := []) C hS hd (by decide) (Nat.le_of_ble_eq_true rfl) jg_pre (by decide +kernel) (jd_pre l (Nat.le_of_ble_eq_true rfl) h1 h2) rfl hl.1 rfl (by decide +kernel : decode cJ0_checkIndex_df160 5 = .ok (.invokestatic 1059, 3)) (fun v locs' hv hS' => ?_)
    subst hv
    refine lv_pop C.x C.b (by decide +kernel : decode cJ0_checkIndex_df160 8 = .ok (.pop, 1)) rfl ?_
    exact W.vret C.x C.b hr (fun t ht hW => ⟨_, rfl, rfl, by rw [ht]; exact hH⟩) hS'.2.2 (by decide +kernel : decode cJ0_checkIndex_df160 9 = .ok (.return_, 1)) hlk
  · refine lv_iload_n C.x C.b (by decide +kernel : decode cJ0_checkIndex_df160 0 = .ok (.iload_n 0, 1)) rfl (lv_at hl 0 rfl) ?_
    refine lv_iload_n C.x C.b (by decide +kernel : decode cJ0_checkIndex_df160 1 = .ok (.iload_n 1, 1)) rfl (lv_at hl 1 rfl) ?_
    refine va_gets C.x C.b hz hS C.own (C.ts _ (tw_mem (i := 359) (by decide +kernel) : (.fieldLink RJ0 1053 "jdk/internal/util/Preconditions" "SIOOBE_FORMATTER" "Ljava/util/function/BiFunction;" : Cond) ∈ ai_GT)) (fun _ h => h) (by decide +kernel : decode cJ0_checkIndex_df160 2 = .ok (.getstatic 1053, 3)) ?_
    refine jd_S (M' := jm_pre) (n := 3) (As := [.int k, .int n, .ref q]) (rest := []) C hS hd (by decide) (Nat.le_of_ble_eq_true rfl) jg_pre (by decide +kernel) (jd_pre l (Nat.le_of_ble_eq_true rfl) h1 h2) rfl hl.1 rfl (by decide +kernel : decode cJ0_checkIndex_df160 5 = .ok (.invokestatic 1059, 3)) (fun v locs' hv hS' => ?_)
    subst hv
    refine lv_pop C.x C.b (by decide +kernel : decode cJ0_checkIndex_df160 8 = .ok (.pop, 1)) rfl ?_
    exact W.vret C.x C.b hr (fun t ht hW => ⟨_, rfl, rfl, by rw [ht]; exact hH⟩) hS'.2.2 (by decide +kernel : decode cJ0_checkIndex_df160 9 = .ok (.return_, 1)) hlk

theorem jd_in {k N : Nat} (h : k < N) (hN : N < 256) : ¬ Int32.ofNat k < 0 ∧ Int32.ofNat k < Int32.ofNat N ∧ vp_in (Int32.ofNat k) N ∧ (Int32.ofNat k).toNatClampNeg = k := ⟨nI_pos (by omega), nI_lt h (by omega), vp_in_nI h (by omega), nI_clamp (by omega)⟩
def ai_jb (i k : Nat) : Int32 := (ai_JB.getD i []).getD k 0
theorem jd_b : ∀ i, i < 7 → ai_JL.getD i 0 < 256 ∧ ∀ k, k < ai_JL.getD i 0 → (((ai_jb i k) &&& 255).toUInt32 % 65536).toInt32 = ai_jb i k := by decide
theorem jd_cl (l : Launch) {d : Nat} {D : va_G} {tys : ai_ty} {A : Nat → Prop} {aK aV : Nat → Nat} {H : Heap} {i k : Nat} (hi : i < 7) (hk : k < ai_JL.getD i 0) (hd : 2 ≤ d) : Met l yJ1_charAt_3b067 (ai_ws jm_cl) (ai_rm d) (va_Pc [.ref (aV i), .int (Int32.ofNat k)] (jd_P D tys A aK aV H)) (jd_Q H (fun v => v = some (.int (ai_jb i k)))) 0 0 A := by
  refine jd_met (M := jm_cl) l (by decide) (by first | exact Nat.le_refl _ | exact Nat.le_of_ble_eq_true rfl) ?_
  intro p e s m below meth c ls C hH hr hlk hl
  have hS : va_S A s.heap s.heap [] := va_S.rf
  have hr : meth.sig.returnType = (some .char) := hr
  have hl : lv_has ls 2 [(0, .ref (aV i)), (1, .int (Int32.ofNat k))] := hl
  obtain ⟨hb1, hb2⟩ := jd_b i hi
  obtain ⟨i1, i2, i3, i4⟩ := jd_in hk hb1
  refine lv_iload_n C.x C.b (by decide +kernel : decode cJ1_charAt_3b067 0 = .ok (.iload_n 1, 1)) rfl (lv_at hl 1 rfl) ?_
  refine lv_aload_n C.x C.b (by decide +kernel : decode cJ1_charAt_3b067 1 = .ok (.aload_n 0, 1)) rfl (lv_at hl 0 rfl) ?_
  refine va_tlen C.x C.b (C.J.1.1 i hi).2.2.2 hS rfl (by decide +kernel : decode cJ1_charAt_3b067 2 = .ok (.arraylength, 1)) ?_
  refine jd_S (M' := jm_chk) (n := 2) (As := [.int (Int32.ofNat k), .int (Int32.ofNat (ai_JL.getD i 0))]) (rest := []) C hS (by omega) (by decide) (Nat.le_of_ble_eq_true rfl) jg_chk (by decide +kernel) (jd_chk l i1 i2 (by omega)) rfl hl.1 rfl (by decide +kernel : decode cJ1_charAt_3b067 3 = .ok (.invokestatic 9, 3)) (fun v locs' hv hS' => ?_)
  subst hv
  refine lv_aload_n C.x C.b (by decide +kernel : decode cJ1_charAt_3b067 6 = .ok (.aload_n 0, 1)) rfl (lv_at hl 0 rfl) ?_
  refine lv_iload_n C.x C.b (by decide +kernel : decode cJ1_charAt_3b067 7 = .ok (.iload_n 1, 1)) rfl (lv_at hl 1 rfl) ?_
  refine va_tb C.x C.b (C.J.1.1 i hi).2.2.2 hS' i3 (v := .int (ai_jb i k)) (by rw [i4]; rfl) (by decide +kernel : decode cJ1_charAt_3b067 8 = .ok (.baload, 1)) ?_
  refine lv_sipush C.x C.b (by decide +kernel : decode cJ1_charAt_3b067 9 = .ok (.sipush 255, 3)) (v := 255) rfl ?_
  refine lv_iand C.x C.b (by decide +kernel : decode cJ1_charAt_3b067 12 = .ok (.iand, 1)) ?_
  refine lv_i2c C.x C.b (by decide +kernel : decode cJ1_charAt_3b067 13 = .ok (.i2c, 1)) (v := ai_jb i k) (hb2 k hk) ?_
  exact W.zret C.x C.b hr (by rw [← hb2 k hk]; exact pk_nc _) (fun t ht hW => ⟨_, rfl, rfl, by rw [ht]; exact hH⟩) hS'.2.2 (by decide +kernel : decode cJ1_charAt_3b067 14 = .ok (.ireturn, 1)) hlk
theorem jd_ca (l : Launch) {d : Nat} {D : va_G} {tys : ai_ty} {A : Nat → Prop} {aK aV : Nat → Nat} {H : Heap} {i k : Nat} (hi : i < 7) (hk : k < ai_JL.getD i 0) (hd : 3 ≤ d) : Met l yJ0_charAt_5068e (ai_ws jm_ca) (ai_rm d) (va_Pc [.ref (aK i), .int (Int32.ofNat k)] (jd_P D tys A aK aV H)) (jd_Q H (fun v => v = some (.int (ai_jb i k)))) 0 0 A := by
  refine jd_met (M := jm_ca) l (by decide) (by first | exact Nat.le_refl _ | exact Nat.le_of_ble_eq_true rfl) ?_
  intro p e s m below meth c ls C hH hr hlk hl
  have hS : va_S A s.heap s.heap [] := va_S.rf
  have hr : meth.sig.returnType = (some .char) := hr
  have hl : lv_has ls 2 [(0, .ref (aK i)), (1, .int (Int32.ofNat k))] := hl
  obtain ⟨hb1, hb2⟩ := jd_b i hi
  refine lv_aload_n C.x C.b (by decide +kernel : decode cJ0_charAt_5068e 0 = .ok (.aload_n 0, 1)) rfl (lv_at hl 0 rfl) ?_
  refine jd_V (M' := jm_lat) (As := []) (rest := []) C hS (by omega) (by decide) (Nat.le_of_ble_eq_true rfl) jg_lat (by decide +kernel) (vk_recv C.J.1 hi hS) (jd_lat l hi) rfl hl.1 rfl (by decide +kernel : decode cJ0_charAt_5068e 1 = .ok (.invokevirtual 492, 3)) (fun v locs' hv hS' => ?_)
  subst hv
  refine lv_if_eq C.x C.b (by decide +kernel : decode cJ0_charAt_5068e 4 = .ok (.ifCond .eq 12, 3)) (tgt := 16) (by decide) (fun h => absurd h (by decide)) (fun _ => ?_)
  refine lv_aload_n C.x C.b (by decide +kernel : decode cJ0_charAt_5068e 7 = .ok (.aload_n 0, 1)) rfl (lv_at hl 0 rfl) ?_
  refine vk_getf C.x C.b (C.J.1.1 i hi).2.2.1 hS' C.own (C.ts _ (tw_mem (i := 1132) (by decide +kernel) : (.fieldLink RJ0 9 "java/lang/String" "value" "[B" : Cond) ∈ ai_GT)) (fun _ h => h) (by decide +kernel : decode cJ0_charAt_5068e 8 = .ok (.getfield 9, 3)) ?_
  refine lv_iload_n C.x C.b (by decide +kernel : decode cJ0_charAt_5068e 11 = .ok (.iload_n 1, 1)) rfl (lv_at hl 1 rfl) ?_
  refine jd_S (M' := jm_cl) (n := 2) (As := [.ref (aV i), .int (Int32.ofNat k)]) (rest := []) C hS' (by omega) (by decide) (Nat.le_of_ble_eq_true rfl) jg_cl (by decide +kernel) (jd_cl l hi hk (by omega)) rfl hl.1 rfl (by decide +kernel : decode cJ0_charAt_5068e 12 = .ok (.invokestatic 495, 3)) (fun v locs2 hv hS2 => ?_)
  subst hv
  exact W.zret C.x C.b hr (by rw [← hb2 k hk]; exact pk_nc _) (fun t ht hW => ⟨_, rfl, rfl, by rw [ht]; exact hH⟩) hS2.2.2 (by decide +kernel : decode cJ0_charAt_5068e 15 = .ok (.ireturn, 1)) hlk
theorem jd_sp0 (l : Launch) {d : Nat} {D : va_G} {tys : ai_ty} {A : Nat → Prop} {aK aV : Nat → Nat} {H : Heap} : Met l yX2_spelling (ai_ws jm_sp) (ai_rm d) (va_Pc [.int 0] (jd_P D tys A aK aV H)) (jd_Q H (fun v => v = some (.ref (aK 0)))) 0 0 A := by
  refine jd_met (M := jm_sp) l (by decide) (by first | exact Nat.le_refl _ | exact Nat.le_of_ble_eq_true rfl) ?_
  intro p e s m below meth c ls C hH hr hlk hl
  have hS : va_S A s.heap s.heap [] := va_S.rf
  have hr : meth.sig.returnType = (some (.object "java/lang/String")) := hr
  have hl : lv_has ls 1 [(0, .int 0)] := hl
  have hR : vk_R RX2 149 "plain" (aK 0) s := C.J.2.1 0 (149, "plain") rfl
  refine lv_iload_n C.x C.b (by decide +kernel : decode cX2_spelling 0 = .ok (.iload_n 0, 1)) rfl (lv_at hl 0 rfl) ?_
  refine lv_tableIn C.x C.b (by decide +kernel : decode cX2_spelling 1 = .ok (.tableswitch 57 0 5 #[39, 42, 45, 48, 51, 54], 39)) (x := 0) (by decide) (by decide) (off := 39) rfl (tgt := 40) (by decide) ?_
  refine va_ldcS C.x C.b C.own hR (by decide +kernel : decode cX2_spelling 40 = .ok (.ldc 149, 2)) ?_
  exact W.aret C.x C.b hr (Or.inl ⟨_, rfl⟩) (Or.inr ⟨_, rfl⟩) (fun t ht hW => ⟨_, rfl, rfl, by rw [ht]; exact hH⟩) hS.2.2 (by decide +kernel : decode cX2_spelling 42 = .ok (.areturn, 1)) hlk
theorem jd_sp1 (l : Launch) {d : Nat} {D : va_G} {tys : ai_ty} {A : Nat → Prop} {aK aV : Nat → Nat} {H : Heap} : Met l yX2_spelling (ai_ws jm_sp) (ai_rm d) (va_Pc [.int 1] (jd_P D tys A aK aV H)) (jd_Q H (fun v => v = some (.ref (aK 1)))) 0 0 A := by
  refine jd_met (M := jm_sp) l (by decide) (by first | exact Nat.le_refl _ | exact Nat.le_of_ble_eq_true rfl) ?_
  intro p e s m below meth c ls C hH hr hlk hl
  have hS : va_S A s.heap s.heap [] := va_S.rf
  have hr : meth.sig.returnType = (some (.object "java/lang/String")) := hr
  have hl : lv_has ls 1 [(0, .int 1)] := hl
  have hR : vk_R RX2 151 "snake" (aK 1) s := C.J.2.1 1 (151, "snake") rfl
  refine lv_iload_n C.x C.b (by decide +kernel : decode cX2_spelling 0 = .ok (.iload_n 0, 1)) rfl (lv_at hl 0 rfl) ?_
  refine lv_tableIn C.x C.b (by decide +kernel : decode cX2_spelling 1 = .ok (.tableswitch 57 0 5 #[39, 42, 45, 48, 51, 54], 39)) (x := 1) (by decide) (by decide) (off := 42) rfl (tgt := 43) (by decide) ?_
  refine va_ldcS C.x C.b C.own hR (by decide +kernel : decode cX2_spelling 43 = .ok (.ldc 151, 2)) ?_
  exact W.aret C.x C.b hr (Or.inl ⟨_, rfl⟩) (Or.inr ⟨_, rfl⟩) (fun t ht hW => ⟨_, rfl, rfl, by rw [ht]; exact hH⟩) hS.2.2 (by decide +kernel : decode cX2_spelling 45 = .ok (.areturn, 1)) hlk
theorem jd_sp2 (l : Launch) {d : Nat} {D : va_G} {tys : ai_ty} {A : Nat → Prop} {aK aV : Nat → Nat} {H : Heap} : Met l yX2_spelling (ai_ws jm_sp) (ai_rm d) (va_Pc [.int 2] (jd_P D tys A aK aV H)) (jd_Q H (fun v => v = some (.ref (aK 2)))) 0 0 A := by
  refine jd_met (M := jm_sp) l (by decide) (by first | exact Nat.le_refl _ | exact Nat.le_of_ble_eq_true rfl) ?_
  intro p e s m below meth c ls C hH hr hlk hl
  have hS : va_S A s.heap s.heap [] := va_S.rf
  have hr : meth.sig.returnType = (some (.object "java/lang/String")) := hr
  have hl : lv_has ls 1 [(0, .int 2)] := hl
  have hR : vk_R RX2 153 "sea" (aK 2) s := C.J.2.1 2 (153, "sea") rfl
  refine lv_iload_n C.x C.b (by decide +kernel : decode cX2_spelling 0 = .ok (.iload_n 0, 1)) rfl (lv_at hl 0 rfl) ?_
  refine lv_tableIn C.x C.b (by decide +kernel : decode cX2_spelling 1 = .ok (.tableswitch 57 0 5 #[39, 42, 45, 48, 51, 54], 39)) (x := 2) (by decide) (by decide) (off := 45) rfl (tgt := 46) (by decide) ?_
  refine va_ldcS C.x C.b C.own hR (by decide +kernel : decode cX2_spelling 46 = .ok (.ldc 153, 2)) ?_
  exact W.aret C.x C.b hr (Or.inl ⟨_, rfl⟩) (Or.inr ⟨_, rfl⟩) (fun t ht hW => ⟨_, rfl, rfl, by rw [ht]; exact hH⟩) hS.2.2 (by decide +kernel : decode cX2_spelling 48 = .ok (.areturn, 1)) hlk
theorem jd_sp3 (l : Launch) {d : Nat} {D : va_G} {tys : ai_ty} {A : Nat → Prop} {aK aV : Nat → Nat} {H : Heap} : Met l yX2_spelling (ai_ws jm_sp) (ai_rm d) (va_Pc [.int 3] (jd_P D tys A aK aV H)) (jd_Q H (fun v => v = some (.ref (aK 3)))) 0 0 A := by
  refine jd_met (M := jm_sp) l (by decide) (by first | exact Nat.le_refl _ | exact Nat.le_of_ble_eq_true rfl) ?_
  intro p e s m below meth c ls C hH hr hlk hl
  have hS : va_S A s.heap s.heap [] := va_S.rf
  have hr : meth.sig.returnType = (some (.object "java/lang/String")) := hr
  have hl : lv_has ls 1 [(0, .int 3)] := hl
  have hR : vk_R RX2 155 "age" (aK 3) s := C.J.2.1 3 (155, "age") rfl
  refine lv_iload_n C.x C.b (by decide +kernel : decode cX2_spelling 0 = .ok (.iload_n 0, 1)) rfl (lv_at hl 0 rfl) ?_
  refine lv_tableIn C.x C.b (by decide +kernel : decode cX2_spelling 1 = .ok (.tableswitch 57 0 5 #[39, 42, 45, 48, 51, 54], 39)) (x := 3) (by decide) (by decide) (off := 48) rfl (tgt := 49) (by decide) ?_
  refine va_ldcS C.x C.b C.own hR (by decide +kernel : decode cX2_spelling 49 = .ok (.ldc 155, 2)) ?_
  exact W.aret C.x C.b hr (Or.inl ⟨_, rfl⟩) (Or.inr ⟨_, rfl⟩) (fun t ht hW => ⟨_, rfl, rfl, by rw [ht]; exact hH⟩) hS.2.2 (by decide +kernel : decode cX2_spelling 51 = .ok (.areturn, 1)) hlk
theorem jd_sp4 (l : Launch) {d : Nat} {D : va_G} {tys : ai_ty} {A : Nat → Prop} {aK aV : Nat → Nat} {H : Heap} : Met l yX2_spelling (ai_ws jm_sp) (ai_rm d) (va_Pc [.int 4] (jd_P D tys A aK aV H)) (jd_Q H (fun v => v = some (.ref (aK 4)))) 0 0 A := by
  refine jd_met (M := jm_sp) l (by decide) (by first | exact Nat.le_refl _ | exact Nat.le_of_ble_eq_true rfl) ?_
  intro p e s m below meth c ls C hH hr hlk hl
  have hS : va_S A s.heap s.heap [] := va_S.rf
  have hr : meth.sig.returnType = (some (.object "java/lang/String")) := hr
  have hl : lv_has ls 1 [(0, .int 4)] := hl
  have hR : vk_R RX2 157 "guest" (aK 4) s := C.J.2.1 4 (157, "guest") rfl
  refine lv_iload_n C.x C.b (by decide +kernel : decode cX2_spelling 0 = .ok (.iload_n 0, 1)) rfl (lv_at hl 0 rfl) ?_
  refine lv_tableIn C.x C.b (by decide +kernel : decode cX2_spelling 1 = .ok (.tableswitch 57 0 5 #[39, 42, 45, 48, 51, 54], 39)) (x := 4) (by decide) (by decide) (off := 51) rfl (tgt := 52) (by decide) ?_
  refine va_ldcS C.x C.b C.own hR (by decide +kernel : decode cX2_spelling 52 = .ok (.ldc 157, 2)) ?_
  exact W.aret C.x C.b hr (Or.inl ⟨_, rfl⟩) (Or.inr ⟨_, rfl⟩) (fun t ht hW => ⟨_, rfl, rfl, by rw [ht]; exact hH⟩) hS.2.2 (by decide +kernel : decode cX2_spelling 54 = .ok (.areturn, 1)) hlk
theorem jd_sp5 (l : Launch) {d : Nat} {D : va_G} {tys : ai_ty} {A : Nat → Prop} {aK aV : Nat → Nat} {H : Heap} : Met l yX2_spelling (ai_ws jm_sp) (ai_rm d) (va_Pc [.int 5] (jd_P D tys A aK aV H)) (jd_Q H (fun v => v = some (.ref (aK 5)))) 0 0 A := by
  refine jd_met (M := jm_sp) l (by decide) (by first | exact Nat.le_refl _ | exact Nat.le_of_ble_eq_true rfl) ?_
  intro p e s m below meth c ls C hH hr hlk hl
  have hS : va_S A s.heap s.heap [] := va_S.rf
  have hr : meth.sig.returnType = (some (.object "java/lang/String")) := hr
  have hl : lv_has ls 1 [(0, .int 5)] := hl
  have hR : vk_R RX2 159 "laughs" (aK 5) s := C.J.2.1 5 (159, "laughs") rfl
  refine lv_iload_n C.x C.b (by decide +kernel : decode cX2_spelling 0 = .ok (.iload_n 0, 1)) rfl (lv_at hl 0 rfl) ?_
  refine lv_tableIn C.x C.b (by decide +kernel : decode cX2_spelling 1 = .ok (.tableswitch 57 0 5 #[39, 42, 45, 48, 51, 54], 39)) (x := 5) (by decide) (by decide) (off := 54) rfl (tgt := 55) (by decide) ?_
  refine va_ldcS C.x C.b C.own hR (by decide +kernel : decode cX2_spelling 55 = .ok (.ldc 159, 2)) ?_
  exact W.aret C.x C.b hr (Or.inl ⟨_, rfl⟩) (Or.inr ⟨_, rfl⟩) (fun t ht hW => ⟨_, rfl, rfl, by rw [ht]; exact hH⟩) hS.2.2 (by decide +kernel : decode cX2_spelling 57 = .ok (.areturn, 1)) hlk
theorem jd_sp6 (l : Launch) {d : Nat} {D : va_G} {tys : ai_ty} {A : Nat → Prop} {aK aV : Nat → Nat} {H : Heap} : Met l yX2_spelling (ai_ws jm_sp) (ai_rm d) (va_Pc [.int 6] (jd_P D tys A aK aV H)) (jd_Q H (fun v => v = some (.ref (aK 6)))) 0 0 A := by
  refine jd_met (M := jm_sp) l (by decide) (by first | exact Nat.le_refl _ | exact Nat.le_of_ble_eq_true rfl) ?_
  intro p e s m below meth c ls C hH hr hlk hl
  have hS : va_S A s.heap s.heap [] := va_S.rf
  have hr : meth.sig.returnType = (some (.object "java/lang/String")) := hr
  have hl : lv_has ls 1 [(0, .int 6)] := hl
  have hR : vk_R RX2 160 "plan" (aK 6) s := C.J.2.1 6 (160, "plan") rfl
  refine lv_iload_n C.x C.b (by decide +kernel : decode cX2_spelling 0 = .ok (.iload_n 0, 1)) rfl (lv_at hl 0 rfl) ?_
  refine lv_tableOut C.x C.b (by decide +kernel : decode cX2_spelling 1 = .ok (.tableswitch 57 0 5 #[39, 42, 45, 48, 51, 54], 39)) (x := 6) (Or.inr (by decide)) (tgt := 58) (by decide) ?_
  refine va_ldcS C.x C.b C.own hR (by decide +kernel : decode cX2_spelling 58 = .ok (.ldc 160, 2)) ?_
  exact W.aret C.x C.b hr (Or.inl ⟨_, rfl⟩) (Or.inr ⟨_, rfl⟩) (fun t ht hW => ⟨_, rfl, rfl, by rw [ht]; exact hH⟩) hS.2.2 (by decide +kernel : decode cX2_spelling 60 = .ok (.areturn, 1)) hlk
theorem jd_sp (l : Launch) {d : Nat} {D : va_G} {tys : ai_ty} {A : Nat → Prop} {aK aV : Nat → Nat} {H : Heap} {i : Nat} (hi : i < 7) : Met l yX2_spelling (ai_ws jm_sp) (ai_rm d) (va_Pc [.int (Int32.ofNat i)] (jd_P D tys A aK aV H)) (jd_Q H (fun v => v = some (.ref (aK i)))) 0 0 A := by
  match i, hi with
  | 0, _ => exact jd_sp0 l
  | 1, _ => exact jd_sp1 l
  | 2, _ => exact jd_sp2 l
  | 3, _ => exact jd_sp3 l
  | 4, _ => exact jd_sp4 l
  | 5, _ => exact jd_sp5 l
  | 6, _ => exact jd_sp6 l

