/-! calls, by their words' places -/
def tw_at (i : Nat) (w : Cond) : Bool := goodWord w && decide (lw_tbl[i]? = some w)
theorem tw_mem {i : Nat} {w : Cond} (h : tw_at i w = true) : w ∈ ai_GT := by
  unfold tw_at at h
  rw [Bool.and_eq_true, decide_eq_true_eq] at h
  exact List.mem_filter.mpr ⟨List.mem_of_getElem? h.2, h.1⟩
def tw_l (MT : List ai_m) (own : String) (q : ai_l5) (a b c d : Nat) : Bool := match q.2.1 with
  | 0 => (match MT[q.2.2.1]?, vwCl[q.2.2.2.2]? with
    | some M', some r => decide (M'.2.2.2.2.1 = false) && decide (M'.1.cls = r.1) && tw_at a (.methodLink own q.1 M'.1) && tw_at b (.instanceMethod M'.1) && tw_at c (.selects r.1 M'.1 M'.1) && tw_at d (.initialized r.1) && tv_y M'.1 q.2.2.2.1
    | _, _ => false)
  | 1 => (match MT[q.2.2.1]? with
    | some M' => decide (M'.2.2.2.2.1 = false) && tw_at a (.methodLink own q.1 M'.1) && tw_at b (.static M'.1) && tw_at c (.initialized M'.1.cls) && tv_y M'.1 q.2.2.2.1
    | none => false)
  | 2 => (match MT[q.2.2.1]? with
    | some M' => decide (M'.2.2.2.2.1 = false) && decide (lw_tbl[a]? = some (Cond.methodLinkNest own q.1 M'.1 "HornTests")) && tw_at b (.static M'.1) && tw_at c (.initialized M'.1.cls) && tv_y M'.1 q.2.2.2.1
    | none => false)
  | 3 => tw_at a (.methodLink own q.1 Lib.Math.min.name) && tw_at b (.static Lib.Math.min.name) && tw_at c (.initialized "java/lang/Math")
  | 4 => tw_at a (.methodLink own q.1 Lib.Math.max.name) && tw_at b (.static Lib.Math.max.name) && tw_at c (.initialized "java/lang/Math")
  | _ => tw_at a (.methodLink own q.1 arraycopyName) && tw_at b (.static arraycopyName) && tw_at c (.initialized "java/lang/System") && tw_at d (.native arraycopyName)
set_option maxRecDepth 100000 in
theorem tw_min : Cond.code Lib.Math.min.name Lib.Math.min.code 2 (some .int) ∈ ai_GT := List.mem_filter.mpr ⟨List.mem_of_getElem? (i := 516) rfl, rfl⟩
set_option maxRecDepth 100000 in
theorem tw_max : Cond.code Lib.Math.max.name Lib.Math.max.code 2 (some .int) ∈ ai_GT := List.mem_filter.mpr ⟨List.mem_of_getElem? (i := 468) rfl, rfl⟩
theorem tw_l_ok {MT : List ai_m} (hC : ∀ M ∈ MT, M.2.2.2.2.1 = false → Cond.code M.1 M.2.1 M.2.2.1 M.2.2.2.1 ∈ ai_GT) {own : String} {q : ai_l5} {a b c d : Nat} (h : tw_l MT own q a b c d = true) : ai_lok MT own q := by
  unfold tw_l at h
  unfold ai_lok
  split at h
  · rename_i hk
    rw [hk]
    split at h
    · rename_i M' r h1 h2
      simp only [Bool.and_eq_true, decide_eq_true_eq] at h
      obtain ⟨⟨⟨⟨⟨⟨a0, a1⟩, a2⟩, a3⟩, a4⟩, a5⟩, a7⟩ := h
      refine ⟨M', r, h1, h2, tv_good fun w hw => ?_, a1, tv_y_ok a7⟩
      unfold wsV at hw
      rcases List.mem_append.mp hw with hw | hw
      · simp only [List.mem_cons, List.not_mem_nil, or_false] at hw
        rcases hw with rfl | rfl | rfl | rfl
        · exact tw_mem a2
        · exact tw_mem a3
        · exact tw_mem a4
        · exact tw_mem a5
      · rcases List.mem_cons.mp hw with rfl | hw
        · exact hC M' (List.mem_of_getElem? h1) a0
        · exact hw
    · cases h
  · rename_i hk
    rw [hk]
    split at h
    · rename_i M' h1
      simp only [Bool.and_eq_true, decide_eq_true_eq] at h
      obtain ⟨⟨⟨⟨a0, a2⟩, a3⟩, a5⟩, a7⟩ := h
      refine ⟨M', h1, tv_good fun w hw => ?_, tv_y_ok a7⟩
      unfold va_wsS at hw
      rcases List.mem_append.mp hw with hw | hw
      · simp only [List.mem_cons, List.not_mem_nil, or_false] at hw
        rcases hw with rfl | rfl | rfl
        · exact tw_mem a2
        · exact tw_mem a3
        · exact tw_mem a5
      · rcases List.mem_cons.mp hw with rfl | hw
        · exact hC M' (List.mem_of_getElem? h1) a0
        · exact hw
    · cases h
  · rename_i hk
    rw [hk]
    split at h
    · rename_i M' h1
      simp only [Bool.and_eq_true, decide_eq_true_eq] at h
      obtain ⟨⟨⟨⟨a0, a2⟩, a3⟩, a5⟩, a7⟩ := h
      exact ⟨M', "HornTests", h1, List.mem_filter.mpr ⟨List.mem_of_getElem? a2, rfl⟩, ai_goodIn (hC M' (List.mem_of_getElem? h1) a0), tw_mem a3, tw_mem a5, tv_y_ok a7⟩
    · cases h
  · rename_i hk
    rw [hk]
    simp only [Bool.and_eq_true] at h
    exact ⟨tw_mem h.1.1, tw_mem h.1.2, tw_mem h.2, tw_min⟩
  · rename_i hk
    rw [hk]
    simp only [Bool.and_eq_true] at h
    exact ⟨tw_mem h.1.1, tw_mem h.1.2, tw_mem h.2, tw_max⟩
  · rename_i k0 k1 k2 k3 k4
    simp only [Bool.and_eq_true] at h
    have hres : Cond.methodLink own q.1 arraycopyName ∈ ai_GT ∧ Cond.native arraycopyName ∈ ai_GT ∧ Cond.static arraycopyName ∈ ai_GT ∧ Cond.initialized "java/lang/System" ∈ ai_GT := ⟨tw_mem h.1.1.1, tw_mem h.2, tw_mem h.1.1.2, tw_mem h.1.2⟩
    have hz5 : 5 ≤ q.2.1 := by
      rcases Nat.lt_or_ge q.2.1 5 with h5 | h5
      · exfalso
        have h6 : q.2.1 = 0 ∨ q.2.1 = 1 ∨ q.2.1 = 2 ∨ q.2.1 = 3 ∨ q.2.1 = 4 := by omega
        rcases h6 with e | e | e | e | e <;> first | exact k0 e | exact k1 e | exact k2 e | exact k3 e | exact k4 e
      · exact h5
    obtain ⟨z, hz⟩ : ∃ z, q.2.1 = z + 5 := ⟨q.2.1 - 5, by omega⟩
    rw [hz]
    exact hres
set_option maxRecDepth 100000 in
theorem tw_c0 : Cond.code tb_m0.1 tb_m0.2.1 tb_m0.2.2.1 tb_m0.2.2.2.1 ∈ ai_GT := List.mem_filter.mpr ⟨List.mem_of_getElem? (i := 299) rfl, rfl⟩
set_option maxRecDepth 100000 in
theorem tw_c1 : Cond.code tb_m1.1 tb_m1.2.1 tb_m1.2.2.1 tb_m1.2.2.2.1 ∈ ai_GT := List.mem_filter.mpr ⟨List.mem_of_getElem? (i := 425) rfl, rfl⟩
set_option maxRecDepth 100000 in
theorem tw_c2 : Cond.code tb_m2.1 tb_m2.2.1 tb_m2.2.2.1 tb_m2.2.2.2.1 ∈ ai_GT := List.mem_filter.mpr ⟨List.mem_of_getElem? (i := 421) rfl, rfl⟩
set_option maxRecDepth 100000 in
theorem tw_c3 : Cond.code tb_m3.1 tb_m3.2.1 tb_m3.2.2.1 tb_m3.2.2.2.1 ∈ ai_GT := List.mem_filter.mpr ⟨List.mem_of_getElem? (i := 402) rfl, rfl⟩
set_option maxRecDepth 100000 in
theorem tw_c4 : Cond.code tb_m4.1 tb_m4.2.1 tb_m4.2.2.1 tb_m4.2.2.2.1 ∈ ai_GT := List.mem_filter.mpr ⟨List.mem_of_getElem? (i := 445) rfl, rfl⟩
set_option maxRecDepth 100000 in
theorem tw_c5 : Cond.code tb_m5.1 tb_m5.2.1 tb_m5.2.2.1 tb_m5.2.2.2.1 ∈ ai_GT := List.mem_filter.mpr ⟨List.mem_of_getElem? (i := 441) rfl, rfl⟩
set_option maxRecDepth 100000 in
theorem tw_c6 : Cond.code tb_m6.1 tb_m6.2.1 tb_m6.2.2.1 tb_m6.2.2.2.1 ∈ ai_GT := List.mem_filter.mpr ⟨List.mem_of_getElem? (i := 579) rfl, rfl⟩
set_option maxRecDepth 100000 in
theorem tw_c7 : Cond.code tb_m7.1 tb_m7.2.1 tb_m7.2.2.1 tb_m7.2.2.2.1 ∈ ai_GT := List.mem_filter.mpr ⟨List.mem_of_getElem? (i := 449) rfl, rfl⟩
set_option maxRecDepth 100000 in
theorem tw_c8 : Cond.code tb_m8.1 tb_m8.2.1 tb_m8.2.2.1 tb_m8.2.2.2.1 ∈ ai_GT := List.mem_filter.mpr ⟨List.mem_of_getElem? (i := 750) rfl, rfl⟩
set_option maxRecDepth 100000 in
theorem tw_c9 : Cond.code tb_m9.1 tb_m9.2.1 tb_m9.2.2.1 tb_m9.2.2.2.1 ∈ ai_GT := List.mem_filter.mpr ⟨List.mem_of_getElem? (i := 754) rfl, rfl⟩
set_option maxRecDepth 100000 in
theorem tw_c10 : Cond.code tb_m10.1 tb_m10.2.1 tb_m10.2.2.1 tb_m10.2.2.2.1 ∈ ai_GT := List.mem_filter.mpr ⟨List.mem_of_getElem? (i := 453) rfl, rfl⟩
set_option maxRecDepth 100000 in
theorem tw_c11 : Cond.code tb_m11.1 tb_m11.2.1 tb_m11.2.2.1 tb_m11.2.2.2.1 ∈ ai_GT := List.mem_filter.mpr ⟨List.mem_of_getElem? (i := 462) rfl, rfl⟩
set_option maxRecDepth 100000 in
theorem tw_c12 : Cond.code tb_m12.1 tb_m12.2.1 tb_m12.2.2.1 tb_m12.2.2.2.1 ∈ ai_GT := List.mem_filter.mpr ⟨List.mem_of_getElem? (i := 507) rfl, rfl⟩
set_option maxRecDepth 100000 in
theorem tw_c13 : Cond.code tb_m13.1 tb_m13.2.1 tb_m13.2.2.1 tb_m13.2.2.2.1 ∈ ai_GT := List.mem_filter.mpr ⟨List.mem_of_getElem? (i := 512) rfl, rfl⟩
set_option maxRecDepth 100000 in
theorem tw_c14 : Cond.code tb_m14.1 tb_m14.2.1 tb_m14.2.2.1 tb_m14.2.2.2.1 ∈ ai_GT := List.mem_filter.mpr ⟨List.mem_of_getElem? (i := 524) rfl, rfl⟩
set_option maxRecDepth 100000 in
theorem tw_c15 : Cond.code tb_m15.1 tb_m15.2.1 tb_m15.2.2.1 tb_m15.2.2.2.1 ∈ ai_GT := List.mem_filter.mpr ⟨List.mem_of_getElem? (i := 536) rfl, rfl⟩
set_option maxRecDepth 100000 in
theorem tw_c16 : Cond.code tb_m16.1 tb_m16.2.1 tb_m16.2.2.1 tb_m16.2.2.2.1 ∈ ai_GT := List.mem_filter.mpr ⟨List.mem_of_getElem? (i := 532) rfl, rfl⟩
set_option maxRecDepth 100000 in
theorem tw_c17 : Cond.code tb_m17.1 tb_m17.2.1 tb_m17.2.2.1 tb_m17.2.2.2.1 ∈ ai_GT := List.mem_filter.mpr ⟨List.mem_of_getElem? (i := 551) rfl, rfl⟩
set_option maxRecDepth 100000 in
theorem tw_c18 : Cond.code tb_m18.1 tb_m18.2.1 tb_m18.2.2.1 tb_m18.2.2.2.1 ∈ ai_GT := List.mem_filter.mpr ⟨List.mem_of_getElem? (i := 619) rfl, rfl⟩
set_option maxRecDepth 100000 in
theorem tw_c19 : Cond.code tb_m19.1 tb_m19.2.1 tb_m19.2.2.1 tb_m19.2.2.2.1 ∈ ai_GT := List.mem_filter.mpr ⟨List.mem_of_getElem? (i := 624) rfl, rfl⟩
set_option maxRecDepth 100000 in
theorem tw_c20 : Cond.code tb_m20.1 tb_m20.2.1 tb_m20.2.2.1 tb_m20.2.2.2.1 ∈ ai_GT := List.mem_filter.mpr ⟨List.mem_of_getElem? (i := 630) rfl, rfl⟩
set_option maxRecDepth 100000 in
theorem tw_c21 : Cond.code tb_m21.1 tb_m21.2.1 tb_m21.2.2.1 tb_m21.2.2.2.1 ∈ ai_GT := List.mem_filter.mpr ⟨List.mem_of_getElem? (i := 646) rfl, rfl⟩
set_option maxRecDepth 100000 in
theorem tw_c22 : Cond.code tb_m22.1 tb_m22.2.1 tb_m22.2.2.1 tb_m22.2.2.2.1 ∈ ai_GT := List.mem_filter.mpr ⟨List.mem_of_getElem? (i := 634) rfl, rfl⟩
set_option maxRecDepth 100000 in
theorem tw_c23 : Cond.code tb_m23.1 tb_m23.2.1 tb_m23.2.2.1 tb_m23.2.2.2.1 ∈ ai_GT := List.mem_filter.mpr ⟨List.mem_of_getElem? (i := 637) rfl, rfl⟩
set_option maxRecDepth 100000 in
theorem tw_c24 : Cond.code tb_m24.1 tb_m24.2.1 tb_m24.2.2.1 tb_m24.2.2.2.1 ∈ ai_GT := List.mem_filter.mpr ⟨List.mem_of_getElem? (i := 283) rfl, rfl⟩
set_option maxRecDepth 100000 in
theorem tw_c25 : Cond.code tb_m25.1 tb_m25.2.1 tb_m25.2.2.1 tb_m25.2.2.2.1 ∈ ai_GT := List.mem_filter.mpr ⟨List.mem_of_getElem? (i := 295) rfl, rfl⟩
set_option maxRecDepth 100000 in
theorem tw_c26 : Cond.code tb_m26.1 tb_m26.2.1 tb_m26.2.2.1 tb_m26.2.2.2.1 ∈ ai_GT := List.mem_filter.mpr ⟨List.mem_of_getElem? (i := 316) rfl, rfl⟩
set_option maxRecDepth 100000 in
theorem tw_c27 : Cond.code tb_m27.1 tb_m27.2.1 tb_m27.2.2.1 tb_m27.2.2.2.1 ∈ ai_GT := List.mem_filter.mpr ⟨List.mem_of_getElem? (i := 394) rfl, rfl⟩
set_option maxRecDepth 100000 in
theorem tw_c28 : Cond.code tb_m28.1 tb_m28.2.1 tb_m28.2.2.1 tb_m28.2.2.2.1 ∈ ai_GT := List.mem_filter.mpr ⟨List.mem_of_getElem? (i := 406) rfl, rfl⟩
set_option maxRecDepth 100000 in
theorem tw_c29 : Cond.code tb_m29.1 tb_m29.2.1 tb_m29.2.2.1 tb_m29.2.2.2.1 ∈ ai_GT := List.mem_filter.mpr ⟨List.mem_of_getElem? (i := 413) rfl, rfl⟩
set_option maxRecDepth 100000 in
theorem tw_c30 : Cond.code tb_m30.1 tb_m30.2.1 tb_m30.2.2.1 tb_m30.2.2.2.1 ∈ ai_GT := List.mem_filter.mpr ⟨List.mem_of_getElem? (i := 417) rfl, rfl⟩
set_option maxRecDepth 100000 in
theorem tw_c31 : Cond.code tb_m31.1 tb_m31.2.1 tb_m31.2.2.1 tb_m31.2.2.2.1 ∈ ai_GT := List.mem_filter.mpr ⟨List.mem_of_getElem? (i := 398) rfl, rfl⟩
set_option maxRecDepth 100000 in
theorem tw_c32 : Cond.code tb_m32.1 tb_m32.2.1 tb_m32.2.2.1 tb_m32.2.2.2.1 ∈ ai_GT := List.mem_filter.mpr ⟨List.mem_of_getElem? (i := 386) rfl, rfl⟩
set_option maxRecDepth 100000 in
theorem tw_c33 : Cond.code tb_m33.1 tb_m33.2.1 tb_m33.2.2.1 tb_m33.2.2.2.1 ∈ ai_GT := List.mem_filter.mpr ⟨List.mem_of_getElem? (i := 390) rfl, rfl⟩
set_option maxRecDepth 100000 in
theorem tw_c34 : Cond.code tb_m34.1 tb_m34.2.1 tb_m34.2.2.1 tb_m34.2.2.2.1 ∈ ai_GT := List.mem_filter.mpr ⟨List.mem_of_getElem? (i := 303) rfl, rfl⟩
set_option maxRecDepth 100000 in
theorem tw_c35 : Cond.code tb_m35.1 tb_m35.2.1 tb_m35.2.2.1 tb_m35.2.2.2.1 ∈ ai_GT := List.mem_filter.mpr ⟨List.mem_of_getElem? (i := 307) rfl, rfl⟩
set_option maxRecDepth 100000 in
theorem tw_c36 : Cond.code tb_m36.1 tb_m36.2.1 tb_m36.2.2.1 tb_m36.2.2.2.1 ∈ ai_GT := List.mem_filter.mpr ⟨List.mem_of_getElem? (i := 312) rfl, rfl⟩
set_option maxRecDepth 100000 in
theorem tw_c37 : Cond.code tb_m37.1 tb_m37.2.1 tb_m37.2.2.1 tb_m37.2.2.2.1 ∈ ai_GT := List.mem_filter.mpr ⟨List.mem_of_getElem? (i := 320) rfl, rfl⟩
set_option maxRecDepth 100000 in
theorem tw_c38 : Cond.code tb_m38.1 tb_m38.2.1 tb_m38.2.2.1 tb_m38.2.2.2.1 ∈ ai_GT := List.mem_filter.mpr ⟨List.mem_of_getElem? (i := 708) rfl, rfl⟩
set_option maxRecDepth 100000 in
theorem tw_c39 : Cond.code tb_m39.1 tb_m39.2.1 tb_m39.2.2.1 tb_m39.2.2.2.1 ∈ ai_GT := List.mem_filter.mpr ⟨List.mem_of_getElem? (i := 724) rfl, rfl⟩
set_option maxRecDepth 100000 in
theorem tw_c40 : Cond.code tb_m40.1 tb_m40.2.1 tb_m40.2.2.1 tb_m40.2.2.2.1 ∈ ai_GT := List.mem_filter.mpr ⟨List.mem_of_getElem? (i := 712) rfl, rfl⟩
set_option maxRecDepth 100000 in
theorem tw_c41 : Cond.code tb_m41.1 tb_m41.2.1 tb_m41.2.2.1 tb_m41.2.2.2.1 ∈ ai_GT := List.mem_filter.mpr ⟨List.mem_of_getElem? (i := 720) rfl, rfl⟩
set_option maxRecDepth 100000 in
theorem tw_c42 : Cond.code tb_m42.1 tb_m42.2.1 tb_m42.2.2.1 tb_m42.2.2.2.1 ∈ ai_GT := List.mem_filter.mpr ⟨List.mem_of_getElem? (i := 736) rfl, rfl⟩
set_option maxRecDepth 100000 in
theorem tw_c43 : Cond.code tb_m43.1 tb_m43.2.1 tb_m43.2.2.1 tb_m43.2.2.2.1 ∈ ai_GT := List.mem_filter.mpr ⟨List.mem_of_getElem? (i := 728) rfl, rfl⟩
set_option maxRecDepth 100000 in
theorem tw_c44 : Cond.code tb_m44.1 tb_m44.2.1 tb_m44.2.2.1 tb_m44.2.2.2.1 ∈ ai_GT := List.mem_filter.mpr ⟨List.mem_of_getElem? (i := 654) rfl, rfl⟩
set_option maxRecDepth 100000 in
theorem tw_c45 : Cond.code tb_m45.1 tb_m45.2.1 tb_m45.2.2.1 tb_m45.2.2.2.1 ∈ ai_GT := List.mem_filter.mpr ⟨List.mem_of_getElem? (i := 666) rfl, rfl⟩
set_option maxRecDepth 100000 in
theorem tw_c46 : Cond.code tb_m46.1 tb_m46.2.1 tb_m46.2.2.1 tb_m46.2.2.2.1 ∈ ai_GT := List.mem_filter.mpr ⟨List.mem_of_getElem? (i := 276) rfl, rfl⟩
set_option maxRecDepth 100000 in
theorem tw_c47 : Cond.code tb_m47.1 tb_m47.2.1 tb_m47.2.2.1 tb_m47.2.2.2.1 ∈ ai_GT := List.mem_filter.mpr ⟨List.mem_of_getElem? (i := 287) rfl, rfl⟩
set_option maxRecDepth 100000 in
theorem tw_c48 : Cond.code tb_m48.1 tb_m48.2.1 tb_m48.2.2.1 tb_m48.2.2.2.1 ∈ ai_GT := List.mem_filter.mpr ⟨List.mem_of_getElem? (i := 291) rfl, rfl⟩
set_option maxRecDepth 100000 in
theorem tw_c49 : Cond.code tb_m49.1 tb_m49.2.1 tb_m49.2.2.1 tb_m49.2.2.2.1 ∈ ai_GT := List.mem_filter.mpr ⟨List.mem_of_getElem? (i := 433) rfl, rfl⟩
set_option maxRecDepth 100000 in
theorem tw_c50 : Cond.code tb_m50.1 tb_m50.2.1 tb_m50.2.2.1 tb_m50.2.2.2.1 ∈ ai_GT := List.mem_filter.mpr ⟨List.mem_of_getElem? (i := 437) rfl, rfl⟩
set_option maxRecDepth 100000 in
theorem tw_c51 : Cond.code tb_m51.1 tb_m51.2.1 tb_m51.2.2.1 tb_m51.2.2.2.1 ∈ ai_GT := List.mem_filter.mpr ⟨List.mem_of_getElem? (i := 457) rfl, rfl⟩
set_option maxRecDepth 100000 in
theorem tw_c52 : Cond.code tb_m52.1 tb_m52.2.1 tb_m52.2.2.1 tb_m52.2.2.2.1 ∈ ai_GT := List.mem_filter.mpr ⟨List.mem_of_getElem? (i := 472) rfl, rfl⟩
set_option maxRecDepth 100000 in
theorem tw_c53 : Cond.code tb_m53.1 tb_m53.2.1 tb_m53.2.2.1 tb_m53.2.2.2.1 ∈ ai_GT := List.mem_filter.mpr ⟨List.mem_of_getElem? (i := 476) rfl, rfl⟩
set_option maxRecDepth 100000 in
theorem tw_c54 : Cond.code tb_m54.1 tb_m54.2.1 tb_m54.2.2.1 tb_m54.2.2.2.1 ∈ ai_GT := List.mem_filter.mpr ⟨List.mem_of_getElem? (i := 483) rfl, rfl⟩
set_option maxRecDepth 100000 in
theorem tw_c55 : Cond.code tb_m55.1 tb_m55.2.1 tb_m55.2.2.1 tb_m55.2.2.2.1 ∈ ai_GT := List.mem_filter.mpr ⟨List.mem_of_getElem? (i := 479) rfl, rfl⟩
set_option maxRecDepth 100000 in
theorem tw_c56 : Cond.code tb_m56.1 tb_m56.2.1 tb_m56.2.2.1 tb_m56.2.2.2.1 ∈ ai_GT := List.mem_filter.mpr ⟨List.mem_of_getElem? (i := 487) rfl, rfl⟩
set_option maxRecDepth 100000 in
theorem tw_c57 : Cond.code tb_m57.1 tb_m57.2.1 tb_m57.2.2.1 tb_m57.2.2.2.1 ∈ ai_GT := List.mem_filter.mpr ⟨List.mem_of_getElem? (i := 491) rfl, rfl⟩
set_option maxRecDepth 100000 in
theorem tw_c58 : Cond.code tb_m58.1 tb_m58.2.1 tb_m58.2.2.1 tb_m58.2.2.2.1 ∈ ai_GT := List.mem_filter.mpr ⟨List.mem_of_getElem? (i := 495) rfl, rfl⟩
set_option maxRecDepth 100000 in
theorem tw_c59 : Cond.code tb_m59.1 tb_m59.2.1 tb_m59.2.2.1 tb_m59.2.2.2.1 ∈ ai_GT := List.mem_filter.mpr ⟨List.mem_of_getElem? (i := 499) rfl, rfl⟩
set_option maxRecDepth 100000 in
theorem tw_c60 : Cond.code tb_m60.1 tb_m60.2.1 tb_m60.2.2.1 tb_m60.2.2.2.1 ∈ ai_GT := List.mem_filter.mpr ⟨List.mem_of_getElem? (i := 503) rfl, rfl⟩
set_option maxRecDepth 100000 in
theorem tw_c61 : Cond.code tb_m61.1 tb_m61.2.1 tb_m61.2.2.1 tb_m61.2.2.2.1 ∈ ai_GT := List.mem_filter.mpr ⟨List.mem_of_getElem? (i := 520) rfl, rfl⟩
set_option maxRecDepth 100000 in
theorem tw_c62 : Cond.code tb_m62.1 tb_m62.2.1 tb_m62.2.2.1 tb_m62.2.2.2.1 ∈ ai_GT := List.mem_filter.mpr ⟨List.mem_of_getElem? (i := 528) rfl, rfl⟩
set_option maxRecDepth 100000 in
theorem tw_c63 : Cond.code tb_m63.1 tb_m63.2.1 tb_m63.2.2.1 tb_m63.2.2.2.1 ∈ ai_GT := List.mem_filter.mpr ⟨List.mem_of_getElem? (i := 543) rfl, rfl⟩
set_option maxRecDepth 100000 in
theorem tw_c64 : Cond.code tb_m64.1 tb_m64.2.1 tb_m64.2.2.1 tb_m64.2.2.2.1 ∈ ai_GT := List.mem_filter.mpr ⟨List.mem_of_getElem? (i := 547) rfl, rfl⟩
set_option maxRecDepth 100000 in
theorem tw_c65 : Cond.code tb_m65.1 tb_m65.2.1 tb_m65.2.2.1 tb_m65.2.2.2.1 ∈ ai_GT := List.mem_filter.mpr ⟨List.mem_of_getElem? (i := 555) rfl, rfl⟩
set_option maxRecDepth 100000 in
theorem tw_c66 : Cond.code tb_m66.1 tb_m66.2.1 tb_m66.2.2.1 tb_m66.2.2.2.1 ∈ ai_GT := List.mem_filter.mpr ⟨List.mem_of_getElem? (i := 558) rfl, rfl⟩
set_option maxRecDepth 100000 in
theorem tw_c67 : Cond.code tb_m67.1 tb_m67.2.1 tb_m67.2.2.1 tb_m67.2.2.2.1 ∈ ai_GT := List.mem_filter.mpr ⟨List.mem_of_getElem? (i := 562) rfl, rfl⟩
set_option maxRecDepth 100000 in
theorem tw_c68 : Cond.code tb_m68.1 tb_m68.2.1 tb_m68.2.2.1 tb_m68.2.2.2.1 ∈ ai_GT := List.mem_filter.mpr ⟨List.mem_of_getElem? (i := 566) rfl, rfl⟩
set_option maxRecDepth 100000 in
theorem tw_c69 : Cond.code tb_m69.1 tb_m69.2.1 tb_m69.2.2.1 tb_m69.2.2.2.1 ∈ ai_GT := List.mem_filter.mpr ⟨List.mem_of_getElem? (i := 570) rfl, rfl⟩
set_option maxRecDepth 100000 in
theorem tw_c70 : Cond.code tb_m70.1 tb_m70.2.1 tb_m70.2.2.1 tb_m70.2.2.2.1 ∈ ai_GT := List.mem_filter.mpr ⟨List.mem_of_getElem? (i := 574) rfl, rfl⟩
set_option maxRecDepth 100000 in
theorem tw_c71 : Cond.code tb_m71.1 tb_m71.2.1 tb_m71.2.2.1 tb_m71.2.2.2.1 ∈ ai_GT := List.mem_filter.mpr ⟨List.mem_of_getElem? (i := 590) rfl, rfl⟩
set_option maxRecDepth 100000 in
theorem tw_c72 : Cond.code tb_m72.1 tb_m72.2.1 tb_m72.2.2.1 tb_m72.2.2.2.1 ∈ ai_GT := List.mem_filter.mpr ⟨List.mem_of_getElem? (i := 594) rfl, rfl⟩
set_option maxRecDepth 100000 in
theorem tw_c73 : Cond.code tb_m73.1 tb_m73.2.1 tb_m73.2.2.1 tb_m73.2.2.2.1 ∈ ai_GT := List.mem_filter.mpr ⟨List.mem_of_getElem? (i := 598) rfl, rfl⟩
set_option maxRecDepth 100000 in
theorem tw_c74 : Cond.code tb_m74.1 tb_m74.2.1 tb_m74.2.2.1 tb_m74.2.2.2.1 ∈ ai_GT := List.mem_filter.mpr ⟨List.mem_of_getElem? (i := 602) rfl, rfl⟩
set_option maxRecDepth 100000 in
theorem tw_c75 : Cond.code tb_m75.1 tb_m75.2.1 tb_m75.2.2.1 tb_m75.2.2.2.1 ∈ ai_GT := List.mem_filter.mpr ⟨List.mem_of_getElem? (i := 606) rfl, rfl⟩
set_option maxRecDepth 100000 in
theorem tw_c76 : Cond.code tb_m76.1 tb_m76.2.1 tb_m76.2.2.1 tb_m76.2.2.2.1 ∈ ai_GT := List.mem_filter.mpr ⟨List.mem_of_getElem? (i := 610) rfl, rfl⟩
set_option maxRecDepth 100000 in
theorem tw_c77 : Cond.code tb_m77.1 tb_m77.2.1 tb_m77.2.2.1 tb_m77.2.2.2.1 ∈ ai_GT := List.mem_filter.mpr ⟨List.mem_of_getElem? (i := 642) rfl, rfl⟩
set_option maxRecDepth 100000 in
theorem tw_c78 : Cond.code tb_m78.1 tb_m78.2.1 tb_m78.2.2.1 tb_m78.2.2.2.1 ∈ ai_GT := List.mem_filter.mpr ⟨List.mem_of_getElem? (i := 614) rfl, rfl⟩
set_option maxRecDepth 100000 in
theorem tw_c79 : Cond.code tb_m79.1 tb_m79.2.1 tb_m79.2.2.1 tb_m79.2.2.2.1 ∈ ai_GT := List.mem_filter.mpr ⟨List.mem_of_getElem? (i := 650) rfl, rfl⟩
set_option maxRecDepth 100000 in
theorem tw_c80 : Cond.code tb_m80.1 tb_m80.2.1 tb_m80.2.2.1 tb_m80.2.2.2.1 ∈ ai_GT := List.mem_filter.mpr ⟨List.mem_of_getElem? (i := 658) rfl, rfl⟩
set_option maxRecDepth 100000 in
theorem tw_c81 : Cond.code tb_m81.1 tb_m81.2.1 tb_m81.2.2.1 tb_m81.2.2.2.1 ∈ ai_GT := List.mem_filter.mpr ⟨List.mem_of_getElem? (i := 662) rfl, rfl⟩
set_option maxRecDepth 100000 in
theorem tw_c82 : Cond.code tb_m82.1 tb_m82.2.1 tb_m82.2.2.1 tb_m82.2.2.2.1 ∈ ai_GT := List.mem_filter.mpr ⟨List.mem_of_getElem? (i := 674) rfl, rfl⟩
set_option maxRecDepth 100000 in
theorem tw_c83 : Cond.code tb_m83.1 tb_m83.2.1 tb_m83.2.2.1 tb_m83.2.2.2.1 ∈ ai_GT := List.mem_filter.mpr ⟨List.mem_of_getElem? (i := 678) rfl, rfl⟩
set_option maxRecDepth 100000 in
theorem tw_c84 : Cond.code tb_m84.1 tb_m84.2.1 tb_m84.2.2.1 tb_m84.2.2.2.1 ∈ ai_GT := List.mem_filter.mpr ⟨List.mem_of_getElem? (i := 684) rfl, rfl⟩
set_option maxRecDepth 100000 in
theorem tw_c85 : Cond.code tb_m85.1 tb_m85.2.1 tb_m85.2.2.1 tb_m85.2.2.2.1 ∈ ai_GT := List.mem_filter.mpr ⟨List.mem_of_getElem? (i := 688) rfl, rfl⟩
set_option maxRecDepth 100000 in
theorem tw_c86 : Cond.code tb_m86.1 tb_m86.2.1 tb_m86.2.2.1 tb_m86.2.2.2.1 ∈ ai_GT := List.mem_filter.mpr ⟨List.mem_of_getElem? (i := 693) rfl, rfl⟩
set_option maxRecDepth 100000 in
theorem tw_c87 : Cond.code tb_m87.1 tb_m87.2.1 tb_m87.2.2.1 tb_m87.2.2.2.1 ∈ ai_GT := List.mem_filter.mpr ⟨List.mem_of_getElem? (i := 701) rfl, rfl⟩
set_option maxRecDepth 100000 in
theorem tw_c88 : Cond.code tb_m88.1 tb_m88.2.1 tb_m88.2.2.1 tb_m88.2.2.2.1 ∈ ai_GT := List.mem_filter.mpr ⟨List.mem_of_getElem? (i := 697) rfl, rfl⟩
set_option maxRecDepth 100000 in
theorem tw_c89 : Cond.code tb_m89.1 tb_m89.2.1 tb_m89.2.2.1 tb_m89.2.2.2.1 ∈ ai_GT := List.mem_filter.mpr ⟨List.mem_of_getElem? (i := 705) rfl, rfl⟩
set_option maxRecDepth 100000 in
theorem tw_c90 : Cond.code tb_m90.1 tb_m90.2.1 tb_m90.2.2.1 tb_m90.2.2.2.1 ∈ ai_GT := List.mem_filter.mpr ⟨List.mem_of_getElem? (i := 716) rfl, rfl⟩
set_option maxRecDepth 100000 in
theorem tw_c91 : Cond.code tb_m91.1 tb_m91.2.1 tb_m91.2.2.1 tb_m91.2.2.2.1 ∈ ai_GT := List.mem_filter.mpr ⟨List.mem_of_getElem? (i := 732) rfl, rfl⟩
set_option maxRecDepth 100000 in
theorem tw_c92 : Cond.code tb_m92.1 tb_m92.2.1 tb_m92.2.2.1 tb_m92.2.2.2.1 ∈ ai_GT := List.mem_filter.mpr ⟨List.mem_of_getElem? (i := 741) rfl, rfl⟩
set_option maxRecDepth 100000 in
theorem tw_c93 : Cond.code tb_m93.1 tb_m93.2.1 tb_m93.2.2.1 tb_m93.2.2.2.1 ∈ ai_GT := List.mem_filter.mpr ⟨List.mem_of_getElem? (i := 745) rfl, rfl⟩
set_option maxRecDepth 100000 in
theorem tw_c94 : Cond.code tb_m94.1 tb_m94.2.1 tb_m94.2.2.1 tb_m94.2.2.2.1 ∈ ai_GT := List.mem_filter.mpr ⟨List.mem_of_getElem? (i := 279) rfl, rfl⟩
set_option maxRecDepth 100000 in
theorem tw_c95 : Cond.code tb_m95.1 tb_m95.2.1 tb_m95.2.2.1 tb_m95.2.2.2.1 ∈ ai_GT := List.mem_filter.mpr ⟨List.mem_of_getElem? (i := 409) rfl, rfl⟩
set_option maxRecDepth 100000 in
theorem tw_c96 : Cond.code tb_m96.1 tb_m96.2.1 tb_m96.2.2.1 tb_m96.2.2.2.1 ∈ ai_GT := List.mem_filter.mpr ⟨List.mem_of_getElem? (i := 465) rfl, rfl⟩
set_option maxRecDepth 100000 in
theorem tw_c97 : Cond.code tb_m97.1 tb_m97.2.1 tb_m97.2.2.1 tb_m97.2.2.2.1 ∈ ai_GT := List.mem_filter.mpr ⟨List.mem_of_getElem? (i := 669) rfl, rfl⟩
set_option maxRecDepth 100000 in
theorem tw_c98 : Cond.code tb_m98.1 tb_m98.2.1 tb_m98.2.2.1 tb_m98.2.2.2.1 ∈ ai_GT := List.mem_filter.mpr ⟨List.mem_of_getElem? (i := 844) rfl, rfl⟩
set_option maxRecDepth 100000 in
theorem tw_c99 : Cond.code tb_m99.1 tb_m99.2.1 tb_m99.2.2.1 tb_m99.2.2.2.1 ∈ ai_GT := List.mem_filter.mpr ⟨List.mem_of_getElem? (i := 840) rfl, rfl⟩
set_option maxRecDepth 100000 in
theorem tw_c100 : Cond.code tb_m100.1 tb_m100.2.1 tb_m100.2.2.1 tb_m100.2.2.2.1 ∈ ai_GT := List.mem_filter.mpr ⟨List.mem_of_getElem? (i := 848) rfl, rfl⟩
set_option maxRecDepth 100000 in
theorem tw_c101 : Cond.code tb_m101.1 tb_m101.2.1 tb_m101.2.2.1 tb_m101.2.2.2.1 ∈ ai_GT := List.mem_filter.mpr ⟨List.mem_of_getElem? (i := 860) rfl, rfl⟩
set_option maxRecDepth 100000 in
theorem tw_c102 : Cond.code tb_m102.1 tb_m102.2.1 tb_m102.2.2.1 tb_m102.2.2.2.1 ∈ ai_GT := List.mem_filter.mpr ⟨List.mem_of_getElem? (i := 868) rfl, rfl⟩
set_option maxRecDepth 100000 in
theorem tw_c103 : Cond.code tb_m103.1 tb_m103.2.1 tb_m103.2.2.1 tb_m103.2.2.2.1 ∈ ai_GT := List.mem_filter.mpr ⟨List.mem_of_getElem? (i := 876) rfl, rfl⟩
set_option maxRecDepth 100000 in
theorem tw_c104 : Cond.code tb_m104.1 tb_m104.2.1 tb_m104.2.2.1 tb_m104.2.2.2.1 ∈ ai_GT := List.mem_filter.mpr ⟨List.mem_of_getElem? (i := 856) rfl, rfl⟩
set_option maxRecDepth 100000 in
theorem tw_c105 : Cond.code tb_m105.1 tb_m105.2.1 tb_m105.2.2.1 tb_m105.2.2.2.1 ∈ ai_GT := List.mem_filter.mpr ⟨List.mem_of_getElem? (i := 885) rfl, rfl⟩
set_option maxRecDepth 100000 in
theorem tw_c106 : Cond.code tb_m106.1 tb_m106.2.1 tb_m106.2.2.1 tb_m106.2.2.2.1 ∈ ai_GT := List.mem_filter.mpr ⟨List.mem_of_getElem? (i := 889) rfl, rfl⟩
set_option maxRecDepth 100000 in
theorem tw_c107 : Cond.code tb_m107.1 tb_m107.2.1 tb_m107.2.2.1 tb_m107.2.2.2.1 ∈ ai_GT := List.mem_filter.mpr ⟨List.mem_of_getElem? (i := 881) rfl, rfl⟩
set_option maxRecDepth 100000 in
theorem tw_c108 : Cond.code tb_m108.1 tb_m108.2.1 tb_m108.2.2.1 tb_m108.2.2.2.1 ∈ ai_GT := List.mem_filter.mpr ⟨List.mem_of_getElem? (i := 872) rfl, rfl⟩
set_option maxRecDepth 100000 in
theorem tw_c109 : Cond.code tb_m109.1 tb_m109.2.1 tb_m109.2.2.1 tb_m109.2.2.2.1 ∈ ai_GT := List.mem_filter.mpr ⟨List.mem_of_getElem? (i := 852) rfl, rfl⟩
set_option maxRecDepth 100000 in
theorem tw_c110 : Cond.code tb_m110.1 tb_m110.2.1 tb_m110.2.2.1 tb_m110.2.2.2.1 ∈ ai_GT := List.mem_filter.mpr ⟨List.mem_of_getElem? (i := 893) rfl, rfl⟩
set_option maxRecDepth 100000 in
theorem tw_c111 : Cond.code tb_m111.1 tb_m111.2.1 tb_m111.2.2.1 tb_m111.2.2.2.1 ∈ ai_GT := List.mem_filter.mpr ⟨List.mem_of_getElem? (i := 921) rfl, rfl⟩
set_option maxRecDepth 100000 in
theorem tw_c112 : Cond.code tb_m112.1 tb_m112.2.1 tb_m112.2.2.1 tb_m112.2.2.2.1 ∈ ai_GT := List.mem_filter.mpr ⟨List.mem_of_getElem? (i := 929) rfl, rfl⟩
set_option maxRecDepth 100000 in
theorem tw_c113 : Cond.code tb_m113.1 tb_m113.2.1 tb_m113.2.2.1 tb_m113.2.2.2.1 ∈ ai_GT := List.mem_filter.mpr ⟨List.mem_of_getElem? (i := 901) rfl, rfl⟩
set_option maxRecDepth 100000 in
theorem tw_c114 : Cond.code tb_m114.1 tb_m114.2.1 tb_m114.2.2.1 tb_m114.2.2.2.1 ∈ ai_GT := List.mem_filter.mpr ⟨List.mem_of_getElem? (i := 926) rfl, rfl⟩
set_option maxRecDepth 100000 in
theorem tw_c115 : Cond.code tb_m115.1 tb_m115.2.1 tb_m115.2.2.1 tb_m115.2.2.2.1 ∈ ai_GT := List.mem_filter.mpr ⟨List.mem_of_getElem? (i := 909) rfl, rfl⟩
set_option maxRecDepth 100000 in
theorem tw_c116 : Cond.code tb_m116.1 tb_m116.2.1 tb_m116.2.2.1 tb_m116.2.2.2.1 ∈ ai_GT := List.mem_filter.mpr ⟨List.mem_of_getElem? (i := 905) rfl, rfl⟩
set_option maxRecDepth 100000 in
theorem tw_c117 : Cond.code tb_m117.1 tb_m117.2.1 tb_m117.2.2.1 tb_m117.2.2.2.1 ∈ ai_GT := List.mem_filter.mpr ⟨List.mem_of_getElem? (i := 913) rfl, rfl⟩
set_option maxRecDepth 100000 in
theorem tw_c118 : Cond.code tb_m118.1 tb_m118.2.1 tb_m118.2.2.1 tb_m118.2.2.2.1 ∈ ai_GT := List.mem_filter.mpr ⟨List.mem_of_getElem? (i := 897) rfl, rfl⟩
set_option maxRecDepth 100000 in
theorem tw_c119 : Cond.code tb_m119.1 tb_m119.2.1 tb_m119.2.2.1 tb_m119.2.2.2.1 ∈ ai_GT := List.mem_filter.mpr ⟨List.mem_of_getElem? (i := 917) rfl, rfl⟩
set_option maxRecDepth 100000 in
theorem tw_c120 : Cond.code tb_m120.1 tb_m120.2.1 tb_m120.2.2.1 tb_m120.2.2.2.1 ∈ ai_GT := List.mem_filter.mpr ⟨List.mem_of_getElem? (i := 933) rfl, rfl⟩
set_option maxRecDepth 100000 in
theorem tw_c121 : Cond.code tb_m121.1 tb_m121.2.1 tb_m121.2.2.1 tb_m121.2.2.2.1 ∈ ai_GT := List.mem_filter.mpr ⟨List.mem_of_getElem? (i := 943) rfl, rfl⟩
set_option maxRecDepth 100000 in
theorem tw_c122 : Cond.code tb_m122.1 tb_m122.2.1 tb_m122.2.2.1 tb_m122.2.2.2.1 ∈ ai_GT := List.mem_filter.mpr ⟨List.mem_of_getElem? (i := 937) rfl, rfl⟩
set_option maxRecDepth 100000 in
theorem tw_c123 : Cond.code tb_m123.1 tb_m123.2.1 tb_m123.2.2.1 tb_m123.2.2.2.1 ∈ ai_GT := List.mem_filter.mpr ⟨List.mem_of_getElem? (i := 947) rfl, rfl⟩
set_option maxRecDepth 100000 in
theorem tw_c124 : Cond.code tb_m124.1 tb_m124.2.1 tb_m124.2.2.1 tb_m124.2.2.2.1 ∈ ai_GT := List.mem_filter.mpr ⟨List.mem_of_getElem? (i := 952) rfl, rfl⟩
set_option maxRecDepth 100000 in
theorem tw_c125 : Cond.code tb_m125.1 tb_m125.2.1 tb_m125.2.2.1 tb_m125.2.2.2.1 ∈ ai_GT := List.mem_filter.mpr ⟨List.mem_of_getElem? (i := 956) rfl, rfl⟩
set_option maxRecDepth 100000 in
theorem tw_c126 : Cond.code tb_m126.1 tb_m126.2.1 tb_m126.2.2.1 tb_m126.2.2.2.1 ∈ ai_GT := List.mem_filter.mpr ⟨List.mem_of_getElem? (i := 960) rfl, rfl⟩
set_option maxRecDepth 100000 in
theorem tw_c127 : Cond.code tb_m127.1 tb_m127.2.1 tb_m127.2.2.1 tb_m127.2.2.2.1 ∈ ai_GT := List.mem_filter.mpr ⟨List.mem_of_getElem? (i := 972) rfl, rfl⟩
set_option maxRecDepth 100000 in
theorem tw_c128 : Cond.code tb_m128.1 tb_m128.2.1 tb_m128.2.2.1 tb_m128.2.2.2.1 ∈ ai_GT := List.mem_filter.mpr ⟨List.mem_of_getElem? (i := 976) rfl, rfl⟩
set_option maxRecDepth 100000 in
theorem tw_c129 : Cond.code tb_m129.1 tb_m129.2.1 tb_m129.2.2.1 tb_m129.2.2.2.1 ∈ ai_GT := List.mem_filter.mpr ⟨List.mem_of_getElem? (i := 984) rfl, rfl⟩
set_option maxRecDepth 100000 in
theorem tw_c130 : Cond.code tb_m130.1 tb_m130.2.1 tb_m130.2.2.1 tb_m130.2.2.2.1 ∈ ai_GT := List.mem_filter.mpr ⟨List.mem_of_getElem? (i := 1000) rfl, rfl⟩
set_option maxRecDepth 100000 in
theorem tw_c131 : Cond.code tb_m131.1 tb_m131.2.1 tb_m131.2.2.1 tb_m131.2.2.2.1 ∈ ai_GT := List.mem_filter.mpr ⟨List.mem_of_getElem? (i := 968) rfl, rfl⟩
set_option maxRecDepth 100000 in
theorem tw_c132 : Cond.code tb_m132.1 tb_m132.2.1 tb_m132.2.2.1 tb_m132.2.2.2.1 ∈ ai_GT := List.mem_filter.mpr ⟨List.mem_of_getElem? (i := 964) rfl, rfl⟩
set_option maxRecDepth 100000 in
theorem tw_c133 : Cond.code tb_m133.1 tb_m133.2.1 tb_m133.2.2.1 tb_m133.2.2.2.1 ∈ ai_GT := List.mem_filter.mpr ⟨List.mem_of_getElem? (i := 980) rfl, rfl⟩
set_option maxRecDepth 100000 in
theorem tw_c134 : Cond.code tb_m134.1 tb_m134.2.1 tb_m134.2.2.1 tb_m134.2.2.2.1 ∈ ai_GT := List.mem_filter.mpr ⟨List.mem_of_getElem? (i := 996) rfl, rfl⟩
set_option maxRecDepth 100000 in
theorem tw_c135 : Cond.code tb_m135.1 tb_m135.2.1 tb_m135.2.2.1 tb_m135.2.2.2.1 ∈ ai_GT := List.mem_filter.mpr ⟨List.mem_of_getElem? (i := 992) rfl, rfl⟩
set_option maxRecDepth 100000 in
theorem tw_c136 : Cond.code tb_m136.1 tb_m136.2.1 tb_m136.2.2.1 tb_m136.2.2.2.1 ∈ ai_GT := List.mem_filter.mpr ⟨List.mem_of_getElem? (i := 1004) rfl, rfl⟩
set_option maxRecDepth 100000 in
theorem tw_c137 : Cond.code tb_m137.1 tb_m137.2.1 tb_m137.2.2.1 tb_m137.2.2.2.1 ∈ ai_GT := List.mem_filter.mpr ⟨List.mem_of_getElem? (i := 988) rfl, rfl⟩
set_option maxRecDepth 100000 in
theorem tw_c138 : Cond.code tb_m138.1 tb_m138.2.1 tb_m138.2.2.1 tb_m138.2.2.2.1 ∈ ai_GT := List.mem_filter.mpr ⟨List.mem_of_getElem? (i := 1008) rfl, rfl⟩
set_option maxRecDepth 100000 in
theorem tw_c139 : Cond.code tb_m139.1 tb_m139.2.1 tb_m139.2.2.1 tb_m139.2.2.2.1 ∈ ai_GT := List.mem_filter.mpr ⟨List.mem_of_getElem? (i := 1016) rfl, rfl⟩
set_option maxRecDepth 100000 in
theorem tw_c140 : Cond.code tb_m140.1 tb_m140.2.1 tb_m140.2.2.1 tb_m140.2.2.2.1 ∈ ai_GT := List.mem_filter.mpr ⟨List.mem_of_getElem? (i := 1012) rfl, rfl⟩
set_option maxRecDepth 100000 in
theorem tw_c141 : Cond.code tb_m141.1 tb_m141.2.1 tb_m141.2.2.1 tb_m141.2.2.2.1 ∈ ai_GT := List.mem_filter.mpr ⟨List.mem_of_getElem? (i := 1020) rfl, rfl⟩
set_option maxRecDepth 100000 in
theorem tw_c142 : Cond.code tb_m142.1 tb_m142.2.1 tb_m142.2.2.1 tb_m142.2.2.2.1 ∈ ai_GT := List.mem_filter.mpr ⟨List.mem_of_getElem? (i := 1039) rfl, rfl⟩
set_option maxRecDepth 100000 in
theorem tw_c143 : Cond.code tb_m143.1 tb_m143.2.1 tb_m143.2.2.1 tb_m143.2.2.2.1 ∈ ai_GT := List.mem_filter.mpr ⟨List.mem_of_getElem? (i := 1029) rfl, rfl⟩
set_option maxRecDepth 100000 in
theorem tw_c144 : Cond.code tb_m144.1 tb_m144.2.1 tb_m144.2.2.1 tb_m144.2.2.2.1 ∈ ai_GT := List.mem_filter.mpr ⟨List.mem_of_getElem? (i := 1036) rfl, rfl⟩
set_option maxRecDepth 100000 in
theorem tw_c145 : Cond.code tb_m145.1 tb_m145.2.1 tb_m145.2.2.1 tb_m145.2.2.2.1 ∈ ai_GT := List.mem_filter.mpr ⟨List.mem_of_getElem? (i := 1033) rfl, rfl⟩
set_option maxRecDepth 100000 in
theorem tw_c146 : Cond.code tb_m146.1 tb_m146.2.1 tb_m146.2.2.1 tb_m146.2.2.2.1 ∈ ai_GT := List.mem_filter.mpr ⟨List.mem_of_getElem? (i := 1024) rfl, rfl⟩
set_option maxRecDepth 100000 in
theorem tw_c147 : Cond.code tb_m147.1 tb_m147.2.1 tb_m147.2.2.1 tb_m147.2.2.2.1 ∈ ai_GT := List.mem_filter.mpr ⟨List.mem_of_getElem? (i := 1043) rfl, rfl⟩
set_option maxRecDepth 100000 in
theorem tw_c148 : Cond.code tb_m148.1 tb_m148.2.1 tb_m148.2.2.1 tb_m148.2.2.2.1 ∈ ai_GT := List.mem_filter.mpr ⟨List.mem_of_getElem? (i := 1047) rfl, rfl⟩
set_option maxRecDepth 100000 in
theorem tw_c149 : Cond.code tb_m149.1 tb_m149.2.1 tb_m149.2.2.1 tb_m149.2.2.2.1 ∈ ai_GT := List.mem_filter.mpr ⟨List.mem_of_getElem? (i := 1051) rfl, rfl⟩
set_option maxRecDepth 100000 in
theorem tw_c150 : Cond.code tb_m150.1 tb_m150.2.1 tb_m150.2.2.1 tb_m150.2.2.2.1 ∈ ai_GT := List.mem_filter.mpr ⟨List.mem_of_getElem? (i := 1067) rfl, rfl⟩
set_option maxRecDepth 100000 in
theorem tw_c151 : Cond.code tb_m151.1 tb_m151.2.1 tb_m151.2.2.1 tb_m151.2.2.2.1 ∈ ai_GT := List.mem_filter.mpr ⟨List.mem_of_getElem? (i := 1064) rfl, rfl⟩
set_option maxRecDepth 100000 in
theorem tw_c152 : Cond.code tb_m152.1 tb_m152.2.1 tb_m152.2.2.1 tb_m152.2.2.2.1 ∈ ai_GT := List.mem_filter.mpr ⟨List.mem_of_getElem? (i := 1059) rfl, rfl⟩
set_option maxRecDepth 100000 in
theorem tw_c153 : Cond.code tb_m153.1 tb_m153.2.1 tb_m153.2.2.1 tb_m153.2.2.2.1 ∈ ai_GT := List.mem_filter.mpr ⟨List.mem_of_getElem? (i := 1055) rfl, rfl⟩
set_option maxRecDepth 100000 in
theorem tw_c154 : Cond.code tb_m154.1 tb_m154.2.1 tb_m154.2.2.1 tb_m154.2.2.2.1 ∈ ai_GT := List.mem_filter.mpr ⟨List.mem_of_getElem? (i := 1072) rfl, rfl⟩
set_option maxRecDepth 100000 in
theorem tw_c155 : Cond.code tb_m155.1 tb_m155.2.1 tb_m155.2.2.1 tb_m155.2.2.2.1 ∈ ai_GT := List.mem_filter.mpr ⟨List.mem_of_getElem? (i := 1076) rfl, rfl⟩
set_option maxRecDepth 100000 in
theorem tw_c156 : Cond.code tb_m156.1 tb_m156.2.1 tb_m156.2.2.1 tb_m156.2.2.2.1 ∈ ai_GT := List.mem_filter.mpr ⟨List.mem_of_getElem? (i := 1080) rfl, rfl⟩
set_option maxRecDepth 100000 in
theorem tw_c157 : Cond.code tb_m157.1 tb_m157.2.1 tb_m157.2.2.1 tb_m157.2.2.2.1 ∈ ai_GT := List.mem_filter.mpr ⟨List.mem_of_getElem? (i := 1088) rfl, rfl⟩
set_option maxRecDepth 100000 in
theorem tw_c158 : Cond.code tb_m158.1 tb_m158.2.1 tb_m158.2.2.1 tb_m158.2.2.2.1 ∈ ai_GT := List.mem_filter.mpr ⟨List.mem_of_getElem? (i := 1084) rfl, rfl⟩
set_option maxRecDepth 100000 in
theorem tw_c159 : Cond.code tb_m159.1 tb_m159.2.1 tb_m159.2.2.1 tb_m159.2.2.2.1 ∈ ai_GT := List.mem_filter.mpr ⟨List.mem_of_getElem? (i := 1092) rfl, rfl⟩
set_option maxRecDepth 100000 in
theorem tw_c160 : Cond.code tb_m160.1 tb_m160.2.1 tb_m160.2.2.1 tb_m160.2.2.2.1 ∈ ai_GT := List.mem_filter.mpr ⟨List.mem_of_getElem? (i := 1096) rfl, rfl⟩
set_option maxRecDepth 100000 in
theorem tw_c161 : Cond.code tb_m161.1 tb_m161.2.1 tb_m161.2.2.1 tb_m161.2.2.2.1 ∈ ai_GT := List.mem_filter.mpr ⟨List.mem_of_getElem? (i := 1101) rfl, rfl⟩
set_option maxRecDepth 100000 in
theorem tw_c162 : Cond.code tb_m162.1 tb_m162.2.1 tb_m162.2.2.1 tb_m162.2.2.2.1 ∈ ai_GT := List.mem_filter.mpr ⟨List.mem_of_getElem? (i := 1107) rfl, rfl⟩
set_option maxRecDepth 100000 in
theorem tw_c163 : Cond.code tb_m163.1 tb_m163.2.1 tb_m163.2.2.1 tb_m163.2.2.2.1 ∈ ai_GT := List.mem_filter.mpr ⟨List.mem_of_getElem? (i := 1111) rfl, rfl⟩
set_option maxRecDepth 100000 in
theorem tw_c164 : Cond.code tb_m164.1 tb_m164.2.1 tb_m164.2.2.1 tb_m164.2.2.2.1 ∈ ai_GT := List.mem_filter.mpr ⟨List.mem_of_getElem? (i := 1115) rfl, rfl⟩
set_option maxRecDepth 100000 in
theorem tw_c165 : Cond.code tb_m165.1 tb_m165.2.1 tb_m165.2.2.1 tb_m165.2.2.2.1 ∈ ai_GT := List.mem_filter.mpr ⟨List.mem_of_getElem? (i := 1119) rfl, rfl⟩
set_option maxRecDepth 100000 in
theorem tw_c166 : Cond.code tb_m166.1 tb_m166.2.1 tb_m166.2.2.1 tb_m166.2.2.2.1 ∈ ai_GT := List.mem_filter.mpr ⟨List.mem_of_getElem? (i := 1123) rfl, rfl⟩
set_option maxRecDepth 100000 in
theorem tw_c167 : Cond.code tb_m167.1 tb_m167.2.1 tb_m167.2.2.1 tb_m167.2.2.2.1 ∈ ai_GT := List.mem_filter.mpr ⟨List.mem_of_getElem? (i := 1127) rfl, rfl⟩
set_option maxRecDepth 100000 in
theorem tw_c168 : Cond.code tb_m168.1 tb_m168.2.1 tb_m168.2.2.1 tb_m168.2.2.2.1 ∈ ai_GT := List.mem_filter.mpr ⟨List.mem_of_getElem? (i := 1131) rfl, rfl⟩
set_option maxRecDepth 100000 in
theorem tw_c170 : Cond.code tb_m170.1 tb_m170.2.1 tb_m170.2.2.1 tb_m170.2.2.2.1 ∈ ai_GT := List.mem_filter.mpr ⟨List.mem_of_getElem? (i := 583) rfl, rfl⟩
