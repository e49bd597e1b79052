section
/-! every case that only reads -/
theorem r7_all : r7_alls := by
  intro pc hpc
  simp only [List.mem_cons, List.not_mem_nil, or_false] at hpc
  rcases hpc with rfl | rfl | rfl | rfl | rfl | rfl | rfl | rfl | rfl | rfl | rfl | rfl | rfl | rfl | rfl | rfl | rfl | rfl | rfl | rfl
  · exact ⟨[], fun _ h => absurd h List.not_mem_nil, r7_k0⟩
  · exact ⟨[], fun _ h => absurd h List.not_mem_nil, r7_k1⟩
  · exact ⟨[], fun _ h => absurd h List.not_mem_nil, r7_k2⟩
  · exact ⟨[], fun _ h => absurd h List.not_mem_nil, r7_k3⟩
  · exact ⟨[mm_0], List.forall_mem_cons.mpr ⟨mm_0_ok, fun _ h => absurd h List.not_mem_nil⟩, r7_k4⟩
  · exact ⟨[mm_1], List.forall_mem_cons.mpr ⟨mm_1_ok, fun _ h => absurd h List.not_mem_nil⟩, r7_k5⟩
  · exact ⟨[mm_2], List.forall_mem_cons.mpr ⟨mm_2_ok, fun _ h => absurd h List.not_mem_nil⟩, r7_k6⟩
  · exact ⟨[mm_3], List.forall_mem_cons.mpr ⟨mm_3_ok, fun _ h => absurd h List.not_mem_nil⟩, r7_k7⟩
  · exact ⟨[mm_4, mm_7], List.forall_mem_cons.mpr ⟨mm_4_ok, List.forall_mem_cons.mpr ⟨mm_7_ok, fun _ h => absurd h List.not_mem_nil⟩⟩, r7_k8⟩
  · exact ⟨[mm_8], List.forall_mem_cons.mpr ⟨mm_8_ok, fun _ h => absurd h List.not_mem_nil⟩, r7_k9⟩
  · exact ⟨[mm_12], List.forall_mem_cons.mpr ⟨mm_12_ok, fun _ h => absurd h List.not_mem_nil⟩, r7_k10⟩
  · exact ⟨[mm_10, mm_13, mm_14], List.forall_mem_cons.mpr ⟨mm_10_ok, List.forall_mem_cons.mpr ⟨mm_13_ok, List.forall_mem_cons.mpr ⟨mm_14_ok, fun _ h => absurd h List.not_mem_nil⟩⟩⟩, r7_k11⟩
  · exact ⟨[mm_15], List.forall_mem_cons.mpr ⟨mm_15_ok, fun _ h => absurd h List.not_mem_nil⟩, r7_k12⟩
  · exact ⟨[], fun _ h => absurd h List.not_mem_nil, r7_k13⟩
  · exact ⟨[mm_16], List.forall_mem_cons.mpr ⟨mm_16_ok, fun _ h => absurd h List.not_mem_nil⟩, r7_k14⟩
  · exact ⟨[mm_17], List.forall_mem_cons.mpr ⟨mm_17_ok, fun _ h => absurd h List.not_mem_nil⟩, r7_k15⟩
  · exact ⟨[mm_18], List.forall_mem_cons.mpr ⟨mm_18_ok, fun _ h => absurd h List.not_mem_nil⟩, r7_k16⟩
  · exact ⟨[], fun _ h => absurd h List.not_mem_nil, r7_k17⟩
  · exact ⟨[], fun _ h => absurd h List.not_mem_nil, r7_k18⟩
  · exact ⟨[], fun _ h => absurd h List.not_mem_nil, r7_k19⟩
end
section
/-! a round of the law -/
section RND7
variable {ad : List Nat} {p : Program} {l : Launch} {e : Env} {R : Room} {s : State} {m : MethodId} {args : Array Value} {below : List Frame} {meth : Method} {c : Code} {D : va_G} {tys : ai_ty} {A : Nat → Prop} {b L : Nat} {sx : Nat → Int32} {cells slots : Nat} {Q : State → Prop}
theorem lw_round {i q0 q49 : Nat} {ws : va_W} (hall : r7_alls) (C : ai_cx tb_m169 11 p R s m args c D tys A b L sx cells slots) (e0 : ad[0]? = some q0) (e49 : ad[49]? = some q49) (hi : i + 5 ≤ L) (hL : L ≤ 2560) (hw : ai_wd tb_TY ad tys ws) (hI : Inv ws)
    (k : ∀ wc, ai_wd tb_TY ad tys wc → Inv wc → hG tb_m169 p l e R s m args below meth c D A cells slots Q 1298 [(0, .ref b), (1, .ref q0), (2, .ref q49), (3, .int (nI i))] [] wc) : hG tb_m169 p l e R s m args below meth c D A cells slots Q 26 [(0, .ref b), (1, .ref q0), (2, .ref q49), (3, .int (nI i))] [] ws := by
  refine lw_head C e0 e49 hi hL hw hI (fun pc hpc ws' hw' hI' => ?_)
  by_cases hr : pc ∈ ([255, 268, 291, 324, 528, 551, 574, 597, 630, 663, 696, 719, 742, 925, 948, 981, 1034, 1262, 1275, 1298] : List Nat)
  · exact lw_rd hall hr C e0 e49 hi hL hw' hI' k
  unfold r7_cut at hpc
  simp only [List.mem_cons, List.not_mem_nil, or_false] at hpc hr
  rcases hpc with rfl | rfl | rfl | rfl | rfl | rfl | rfl | rfl | rfl | rfl | rfl | rfl | rfl | rfl | rfl | rfl | rfl | rfl | rfl | rfl | rfl | rfl | rfl | rfl | rfl | rfl | rfl | rfl | rfl | rfl | rfl | rfl | rfl | rfl | rfl | rfl | rfl | rfl
  · exact lw_feed C e0 e49 hi hL hw' hI' k
  · exact lw_end C e0 e49 hi hL hw' hI' k
  · exact lw_text C e0 e49 hi hL hw' hI' k
  · exact absurd (by decide) hr
  · exact absurd (by decide) hr
  · exact absurd (by decide) hr
  · exact absurd (by decide) hr
  · exact lw_alter C e0 e49 hi hL hw' hI' k
  · exact lw_strong C e0 e49 hi hL hw' hI' k
  · exact lw_fill C e0 e49 hi hL hw' hI' k
  · exact lw_plan C e0 e49 hi hL hw' hI' k
  · exact lw_cut C e0 e49 hi hL hw' hI' k
  · exact lw_pull C e0 e49 hi hL hw' hI' k
  · exact lw_rest C e0 e49 hi hL hw' hI' k
  · exact absurd (by decide) hr
  · exact absurd (by decide) hr
  · exact absurd (by decide) hr
  · exact absurd (by decide) hr
  · exact absurd (by decide) hr
  · exact absurd (by decide) hr
  · exact absurd (by decide) hr
  · exact absurd (by decide) hr
  · exact absurd (by decide) hr
  · exact lw_mean C e0 e49 hi hL hw' hI' k
  · exact lw_see C e0 e49 hi hL hw' hI' k
  · exact lw_forget C e0 e49 hi hL hw' hI' k
  · exact absurd (by decide) hr
  · exact absurd (by decide) hr
  · exact absurd (by decide) hr
  · exact absurd (by decide) hr
  · exact lw_keep C e0 e49 hi hL hw' hI' k
  · exact lw_back C e0 e49 hi hL hw' hI' k
  · exact lw_sheet C e0 e49 hi hL hw' hI' k
  · exact lw_lay C e0 e49 hi hL hw' hI' k
  · exact lw_read C e0 e49 hi hL hw' hI' k
  · exact absurd (by decide) hr
  · exact absurd (by decide) hr
  · exact absurd (by decide) hr
theorem lb_round (hall : r7_alls) (C : ai_cx tb_m169 11 p R s m args c D tys A b L sx cells slots) {q0 q49 : Nat} (e0 : ad[0]? = some q0) (e49 : ad[49]? = some q49) {ws : va_W} {H : Heap} {locs : List Loc} {ls : Array Slot} (hw : ai_wd tb_TY ad tys ws) (heq : Inv ws) (hP : va_P D vwCl ws H) (hD : va_D A ws) (hS : va_S A s.heap H locs) {i : Nat} (hi : i + 5 ≤ L) (hL : L ≤ 2560) (hl : lv_has ls 4 [(0, .ref b), (1, .ref q0), (2, .ref q49), (3, .int (nI i))])
    (k : ∀ (ws : va_W) (H : Heap) (locs : List Loc) (ls : Array Slot), ai_wd tb_TY ad tys ws → Inv ws → va_P D vwCl ws H → va_D A ws → va_S A s.heap H locs → lv_has ls 4 [(0, .ref b), (1, .ref q0), (2, .ref q49), (3, .int (nI i))] → W p l e R s m args below meth c H locs cells slots Q (F0 m 1298 ls [])) : W p l e R s m args below meth c H locs cells slots Q (F0 m 26 ls []) :=
  lw_round hall C e0 e49 hi hL hw heq (fun wc hwc hIc H locs ls hP hD hS hl => k wc H locs ls hwc hIc hP hD hS hl) H locs ls hP hD hS hl
end RND7
end
